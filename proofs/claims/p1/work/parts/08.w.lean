theorem dJ7_fill_53178_0 : decode cJ7_fill_53178 0 = .ok (.iconst 0, 1) := by decide +kernel
theorem dJ7_fill_53178_1 : decode cJ7_fill_53178 1 = .ok (.istore_n 2, 1) := by decide +kernel
theorem dJ7_fill_53178_2 : decode cJ7_fill_53178 2 = .ok (.aload_n 0, 1) := by decide +kernel
theorem dJ7_fill_53178_3 : decode cJ7_fill_53178 3 = .ok (.arraylength, 1) := by decide +kernel
theorem dJ7_fill_53178_4 : decode cJ7_fill_53178 4 = .ok (.istore_n 3, 1) := by decide +kernel
theorem dJ7_fill_53178_5 : decode cJ7_fill_53178 5 = .ok (.iload_n 2, 1) := by decide +kernel
theorem dJ7_fill_53178_6 : decode cJ7_fill_53178 6 = .ok (.iload_n 3, 1) := by decide +kernel
theorem dJ7_fill_53178_7 : decode cJ7_fill_53178 7 = .ok (.if_icmp .ge 13, 3) := by decide +kernel
theorem dJ7_fill_53178_10 : decode cJ7_fill_53178 10 = .ok (.aload_n 0, 1) := by decide +kernel
theorem dJ7_fill_53178_11 : decode cJ7_fill_53178 11 = .ok (.iload_n 2, 1) := by decide +kernel
theorem dJ7_fill_53178_12 : decode cJ7_fill_53178 12 = .ok (.iload_n 1, 1) := by decide +kernel
theorem dJ7_fill_53178_13 : decode cJ7_fill_53178 13 = .ok (.iastore, 1) := by decide +kernel
theorem dJ7_fill_53178_14 : decode cJ7_fill_53178 14 = .ok (.iinc 2 1, 3) := by decide +kernel
theorem dJ7_fill_53178_17 : decode cJ7_fill_53178 17 = .ok (.goto (-12), 3) := by decide +kernel
theorem dJ7_fill_53178_20 : decode cJ7_fill_53178 20 = .ok (.return_, 1) := by decide +kernel
theorem dX5_clear_0 : decode cX5_clear 0 = .ok (.getstatic 22, 3) := by decide +kernel
theorem dX5_clear_3 : decode cX5_clear 3 = .ok (.iconst 0, 1) := by decide +kernel
theorem dX5_clear_4 : decode cX5_clear 4 = .ok (.aload_n 0, 1) := by decide +kernel
theorem dX5_clear_5 : decode cX5_clear 5 = .ok (.getfield 9, 3) := by decide +kernel
theorem dX5_clear_8 : decode cX5_clear 8 = .ok (.iconst 0, 1) := by decide +kernel
theorem dX5_clear_9 : decode cX5_clear 9 = .ok (.bipush 8, 2) := by decide +kernel
theorem dX5_clear_11 : decode cX5_clear 11 = .ok (.invokestatic 25, 3) := by decide +kernel
theorem dX5_clear_14 : decode cX5_clear 14 = .ok (.aload_n 0, 1) := by decide +kernel
theorem dX5_clear_15 : decode cX5_clear 15 = .ok (.iconst 0, 1) := by decide +kernel
theorem dX5_clear_16 : decode cX5_clear 16 = .ok (.putfield 18, 3) := by decide +kernel
theorem dX5_clear_19 : decode cX5_clear 19 = .ok (.return_, 1) := by decide +kernel
theorem dX6_readScript_0 : decode cX6_readScript 0 = .ok (.aload_n 1, 1) := by decide +kernel
theorem dX6_readScript_1 : decode cX6_readScript 1 = .ok (.getfield 93, 3) := by decide +kernel
theorem dX6_readScript_4 : decode cX6_readScript 4 = .ok (.iconst (-1), 1) := by decide +kernel
theorem dX6_readScript_5 : decode cX6_readScript 5 = .ok (.invokestatic 98, 3) := by decide +kernel
theorem dX6_readScript_8 : decode cX6_readScript 8 = .ok (.aload_n 0, 1) := by decide +kernel
theorem dX6_readScript_9 : decode cX6_readScript 9 = .ok (.iconst 0, 1) := by decide +kernel
theorem dX6_readScript_10 : decode cX6_readScript 10 = .ok (.putfield 9, 3) := by decide +kernel
theorem dX6_readScript_13 : decode cX6_readScript 13 = .ok (.iconst 0, 1) := by decide +kernel
theorem dX6_readScript_14 : decode cX6_readScript 14 = .ok (.istore_n 2, 1) := by decide +kernel
theorem dX6_readScript_15 : decode cX6_readScript 15 = .ok (.iload_n 2, 1) := by decide +kernel
theorem dX6_readScript_16 : decode cX6_readScript 16 = .ok (.bipush 16, 2) := by decide +kernel
theorem dX6_readScript_18 : decode cX6_readScript 18 = .ok (.if_icmp .ge 145, 3) := by decide +kernel
theorem dX6_readScript_21 : decode cX6_readScript 21 = .ok (.aload_n 0, 1) := by decide +kernel
theorem dX6_readScript_22 : decode cX6_readScript 22 = .ok (.invokevirtual 27, 3) := by decide +kernel
theorem dX6_readScript_25 : decode cX6_readScript 25 = .ok (.aload_n 0, 1) := by decide +kernel
theorem dX6_readScript_26 : decode cX6_readScript 26 = .ok (.getfield 9, 3) := by decide +kernel
theorem dX6_readScript_29 : decode cX6_readScript 29 = .ok (.aload_n 0, 1) := by decide +kernel
theorem dX6_readScript_30 : decode cX6_readScript 30 = .ok (.getfield 18, 3) := by decide +kernel
theorem dX6_readScript_33 : decode cX6_readScript 33 = .ok (.getfield 67, 3) := by decide +kernel
theorem dX6_readScript_36 : decode cX6_readScript 36 = .ok (.if_icmp .ge 23, 3) := by decide +kernel
theorem dX6_readScript_59 : decode cX6_readScript 59 = .ok (.iconst (-1), 1) := by decide +kernel
theorem dX6_readScript_60 : decode cX6_readScript 60 = .ok (.istore_n 3, 1) := by decide +kernel
theorem dX6_readScript_61 : decode cX6_readScript 61 = .ok (.iload_n 3, 1) := by decide +kernel
theorem dX6_readScript_62 : decode cX6_readScript 62 = .ok (.ifCond .ge 8, 3) := by decide +kernel
theorem dX6_readScript_65 : decode cX6_readScript 65 = .ok (.aload_n 0, 1) := by decide +kernel
theorem dX6_readScript_66 : decode cX6_readScript 66 = .ok (.getfield 9, 3) := by decide +kernel
theorem dX6_readScript_69 : decode cX6_readScript 69 = .ok (.ireturn, 1) := by decide +kernel
theorem dX6_readTree_0 : decode cX6_readTree 0 = .ok (.aload_n 1, 1) := by decide +kernel
theorem dX6_readTree_1 : decode cX6_readTree 1 = .ok (.invokevirtual 22, 3) := by decide +kernel
theorem dX6_readTree_4 : decode cX6_readTree 4 = .ok (.aload_n 0, 1) := by decide +kernel
theorem dX6_readTree_5 : decode cX6_readTree 5 = .ok (.iconst 0, 1) := by decide +kernel
theorem dX6_readTree_6 : decode cX6_readTree 6 = .ok (.putfield 9, 3) := by decide +kernel
theorem dX6_readTree_9 : decode cX6_readTree 9 = .ok (.iconst 0, 1) := by decide +kernel
theorem dX6_readTree_10 : decode cX6_readTree 10 = .ok (.istore_n 2, 1) := by decide +kernel
theorem dX6_readTree_11 : decode cX6_readTree 11 = .ok (.iconst 0, 1) := by decide +kernel
theorem dX6_readTree_12 : decode cX6_readTree 12 = .ok (.istore_n 3, 1) := by decide +kernel
theorem dX6_readTree_13 : decode cX6_readTree 13 = .ok (.iload_n 3, 1) := by decide +kernel
theorem dX6_readTree_14 : decode cX6_readTree 14 = .ok (.sipush 240, 3) := by decide +kernel
theorem dX6_readTree_17 : decode cX6_readTree 17 = .ok (.if_icmp .ge 160, 3) := by decide +kernel
theorem dX6_readTree_20 : decode cX6_readTree 20 = .ok (.aload_n 0, 1) := by decide +kernel
theorem dX6_readTree_21 : decode cX6_readTree 21 = .ok (.invokevirtual 27, 3) := by decide +kernel
theorem dX6_readTree_24 : decode cX6_readTree 24 = .ok (.aload_n 0, 1) := by decide +kernel
theorem dX6_readTree_25 : decode cX6_readTree 25 = .ok (.bipush 115, 2) := by decide +kernel
theorem dX6_readTree_27 : decode cX6_readTree 27 = .ok (.invokevirtual 30, 3) := by decide +kernel
theorem dX6_readTree_30 : decode cX6_readTree 30 = .ok (.ifCond .eq 32, 3) := by decide +kernel
theorem dX6_readTree_62 : decode cX6_readTree 62 = .ok (.aload_n 0, 1) := by decide +kernel
theorem dX6_readTree_63 : decode cX6_readTree 63 = .ok (.bipush 100, 2) := by decide +kernel
theorem dX6_readTree_65 : decode cX6_readTree 65 = .ok (.invokevirtual 30, 3) := by decide +kernel
theorem dX6_readTree_68 : decode cX6_readTree 68 = .ok (.ifCond .eq 49, 3) := by decide +kernel
theorem dX6_readTree_117 : decode cX6_readTree 117 = .ok (.aload_n 0, 1) := by decide +kernel
theorem dX6_readTree_118 : decode cX6_readTree 118 = .ok (.getfield 9, 3) := by decide +kernel
theorem dX6_readTree_121 : decode cX6_readTree 121 = .ok (.ireturn, 1) := by decide +kernel
theorem dX6_skipBlanks_0 : decode cX6_skipBlanks 0 = .ok (.aload_n 0, 1) := by decide +kernel
theorem dX6_skipBlanks_1 : decode cX6_skipBlanks 1 = .ok (.getfield 9, 3) := by decide +kernel
theorem dX6_skipBlanks_4 : decode cX6_skipBlanks 4 = .ok (.aload_n 0, 1) := by decide +kernel
theorem dX6_skipBlanks_5 : decode cX6_skipBlanks 5 = .ok (.getfield 18, 3) := by decide +kernel
theorem dX6_skipBlanks_8 : decode cX6_skipBlanks 8 = .ok (.getfield 67, 3) := by decide +kernel
theorem dX6_skipBlanks_11 : decode cX6_skipBlanks 11 = .ok (.if_icmp .ge 33, 3) := by decide +kernel
theorem dX6_skipBlanks_44 : decode cX6_skipBlanks 44 = .ok (.return_, 1) := by decide +kernel
theorem dX6_stands_0 : decode cX6_stands 0 = .ok (.aload_n 0, 1) := by decide +kernel
theorem dX6_stands_1 : decode cX6_stands 1 = .ok (.getfield 9, 3) := by decide +kernel
theorem dX6_stands_4 : decode cX6_stands 4 = .ok (.aload_n 0, 1) := by decide +kernel
theorem dX6_stands_5 : decode cX6_stands 5 = .ok (.getfield 18, 3) := by decide +kernel
theorem dX6_stands_8 : decode cX6_stands 8 = .ok (.getfield 67, 3) := by decide +kernel
theorem dX6_stands_11 : decode cX6_stands 11 = .ok (.if_icmp .ge 23, 3) := by decide +kernel
theorem dX6_stands_34 : decode cX6_stands 34 = .ok (.iconst 0, 1) := by decide +kernel
theorem dX6_stands_35 : decode cX6_stands 35 = .ok (.ireturn, 1) := by decide +kernel
theorem dX9_again_0 : decode cX9_again 0 = .ok (.aload_n 0, 1) := by decide +kernel
theorem dX9_again_1 : decode cX9_again 1 = .ok (.aload_n 0, 1) := by decide +kernel
theorem dX9_again_2 : decode cX9_again 2 = .ok (.aload_n 0, 1) := by decide +kernel
theorem dX9_again_3 : decode cX9_again 3 = .ok (.getfield 47, 3) := by decide +kernel
theorem dX9_again_6 : decode cX9_again 6 = .ok (.iconst 1, 1) := by decide +kernel
theorem dX9_again_7 : decode cX9_again 7 = .ok (.iconst 5, 1) := by decide +kernel
theorem dX9_again_8 : decode cX9_again 8 = .ok (.iload_n 1, 1) := by decide +kernel
theorem dX9_again_9 : decode cX9_again 9 = .ok (.iconst (-1), 1) := by decide +kernel
theorem dX9_again_10 : decode cX9_again 10 = .ok (.iconst (-1), 1) := by decide +kernel
theorem dX9_again_11 : decode cX9_again 11 = .ok (.invokevirtual 227, 3) := by decide +kernel
theorem dX9_again_14 : decode cX9_again 14 = .ok (.invokevirtual 231, 3) := by decide +kernel
theorem dX9_again_17 : decode cX9_again 17 = .ok (.istore_n 2, 1) := by decide +kernel
theorem dX9_again_18 : decode cX9_again 18 = .ok (.iload_n 2, 1) := by decide +kernel
theorem dX9_again_19 : decode cX9_again 19 = .ok (.ifCond .eq 29, 3) := by decide +kernel
theorem dX9_again_48 : decode cX9_again 48 = .ok (.iconst (-1), 1) := by decide +kernel
theorem dX9_again_49 : decode cX9_again 49 = .ok (.ireturn, 1) := by decide +kernel
theorem dX9_count_0 : decode cX9_count 0 = .ok (.iload_n 1, 1) := by decide +kernel
theorem dX9_count_1 : decode cX9_count 1 = .ok (.tableswitch 75 0 4 #[35, 43, 51, 59, 67], 35) := by decide +kernel
theorem dX9_count_36 : decode cX9_count 36 = .ok (.aload_n 0, 1) := by decide +kernel
theorem dX9_count_37 : decode cX9_count 37 = .ok (.getfield 32, 3) := by decide +kernel
theorem dX9_count_40 : decode cX9_count 40 = .ok (.getfield 137, 3) := by decide +kernel
theorem dX9_count_43 : decode cX9_count 43 = .ok (.ireturn, 1) := by decide +kernel
theorem dX9_count_44 : decode cX9_count 44 = .ok (.aload_n 0, 1) := by decide +kernel
theorem dX9_count_45 : decode cX9_count 45 = .ok (.getfield 38, 3) := by decide +kernel
theorem dX9_count_48 : decode cX9_count 48 = .ok (.getfield 140, 3) := by decide +kernel
theorem dX9_count_51 : decode cX9_count 51 = .ok (.ireturn, 1) := by decide +kernel
theorem dX9_count_52 : decode cX9_count 52 = .ok (.aload_n 0, 1) := by decide +kernel
theorem dX9_count_53 : decode cX9_count 53 = .ok (.getfield 12, 3) := by decide +kernel
theorem dX9_count_56 : decode cX9_count 56 = .ok (.getfield 102, 3) := by decide +kernel
theorem dX9_count_59 : decode cX9_count 59 = .ok (.ireturn, 1) := by decide +kernel
theorem dX9_count_60 : decode cX9_count 60 = .ok (.aload_n 0, 1) := by decide +kernel
theorem dX9_count_61 : decode cX9_count 61 = .ok (.getfield 73, 3) := by decide +kernel
theorem dX9_count_64 : decode cX9_count 64 = .ok (.invokevirtual 255, 3) := by decide +kernel
theorem dX9_count_67 : decode cX9_count 67 = .ok (.ireturn, 1) := by decide +kernel
theorem dX9_count_68 : decode cX9_count 68 = .ok (.aload_n 0, 1) := by decide +kernel
theorem dX9_count_69 : decode cX9_count 69 = .ok (.getfield 66, 3) := by decide +kernel
theorem dX9_count_72 : decode cX9_count 72 = .ok (.getfield 247, 3) := by decide +kernel
theorem dX9_count_75 : decode cX9_count 75 = .ok (.ireturn, 1) := by decide +kernel
theorem dX9_count_76 : decode cX9_count 76 = .ok (.ldc 185, 2) := by decide +kernel
theorem dX9_count_78 : decode cX9_count 78 = .ok (.ireturn, 1) := by decide +kernel
theorem dX9_end_0 : decode cX9_end 0 = .ok (.iload_n 1, 1) := by decide +kernel
theorem dX9_end_1 : decode cX9_end 1 = .ok (.ifCond .lt 14, 3) := by decide +kernel
theorem dX9_end_4 : decode cX9_end 4 = .ok (.iload_n 1, 1) := by decide +kernel
theorem dX9_end_5 : decode cX9_end 5 = .ok (.aload_n 0, 1) := by decide +kernel
theorem dX9_end_6 : decode cX9_end 6 = .ok (.getfield 12, 3) := by decide +kernel
theorem dX9_end_9 : decode cX9_end 9 = .ok (.getfield 102, 3) := by decide +kernel
theorem dX9_end_12 : decode cX9_end 12 = .ok (.if_icmp .le 5, 3) := by decide +kernel
theorem dX9_end_15 : decode cX9_end 15 = .ok (.iconst 0, 1) := by decide +kernel
theorem dX9_end_16 : decode cX9_end 16 = .ok (.ireturn, 1) := by decide +kernel
theorem dX9_end_17 : decode cX9_end 17 = .ok (.aload_n 0, 1) := by decide +kernel
theorem dX9_end_18 : decode cX9_end 18 = .ok (.getfield 12, 3) := by decide +kernel
theorem dX9_end_21 : decode cX9_end 21 = .ok (.iload_n 1, 1) := by decide +kernel
theorem dX9_end_22 : decode cX9_end 22 = .ok (.putfield 102, 3) := by decide +kernel
theorem dX9_end_25 : decode cX9_end 25 = .ok (.iconst 1, 1) := by decide +kernel
theorem dX9_end_26 : decode cX9_end 26 = .ok (.ireturn, 1) := by decide +kernel
theorem dX9_error_0 : decode cX9_error 0 = .ok (.aload_n 0, 1) := by decide +kernel
theorem dX9_error_1 : decode cX9_error 1 = .ok (.getfield 32, 3) := by decide +kernel
theorem dX9_error_4 : decode cX9_error 4 = .ok (.iload_n 1, 1) := by decide +kernel
theorem dX9_error_5 : decode cX9_error 5 = .ok (.invokevirtual 153, 3) := by decide +kernel
theorem dX9_error_8 : decode cX9_error 8 = .ok (.ifCond .eq 18, 3) := by decide +kernel
theorem dX9_error_26 : decode cX9_error 26 = .ok (.iconst (-1), 1) := by decide +kernel
theorem dX9_error_27 : decode cX9_error 27 = .ok (.istore_n 3, 1) := by decide +kernel
theorem dX9_error_28 : decode cX9_error 28 = .ok (.aload_n 0, 1) := by decide +kernel
theorem dX9_error_29 : decode cX9_error 29 = .ok (.aload_n 0, 1) := by decide +kernel
theorem dX9_error_30 : decode cX9_error 30 = .ok (.aload_n 0, 1) := by decide +kernel
theorem dX9_error_31 : decode cX9_error 31 = .ok (.getfield 47, 3) := by decide +kernel
theorem dX9_error_34 : decode cX9_error 34 = .ok (.iconst 1, 1) := by decide +kernel
theorem dX9_error_35 : decode cX9_error 35 = .ok (.iconst 4, 1) := by decide +kernel
theorem dX9_error_36 : decode cX9_error 36 = .ok (.iload_n 1, 1) := by decide +kernel
theorem dX9_error_37 : decode cX9_error 37 = .ok (.iload_n 2, 1) := by decide +kernel
theorem dX9_error_38 : decode cX9_error 38 = .ok (.iconst (-1), 1) := by decide +kernel
theorem dX9_error_39 : decode cX9_error 39 = .ok (.invokevirtual 227, 3) := by decide +kernel
theorem dX9_error_42 : decode cX9_error 42 = .ok (.invokevirtual 231, 3) := by decide +kernel
theorem dX9_error_45 : decode cX9_error 45 = .ok (.ifCond .eq 7, 3) := by decide +kernel
theorem dX9_error_52 : decode cX9_error 52 = .ok (.iconst (-1), 1) := by decide +kernel
theorem dX9_error_53 : decode cX9_error 53 = .ok (.ireturn, 1) := by decide +kernel
theorem dX9_fault_0 : decode cX9_fault 0 = .ok (.iload_n 1, 1) := by decide +kernel
theorem dX9_fault_1 : decode cX9_fault 1 = .ok (.ifCond .ne 15, 3) := by decide +kernel
theorem dX9_fault_4 : decode cX9_fault 4 = .ok (.aload_n 0, 1) := by decide +kernel
theorem dX9_fault_5 : decode cX9_fault 5 = .ok (.getfield 21, 3) := by decide +kernel
theorem dX9_fault_8 : decode cX9_fault 8 = .ok (.aload_n 0, 1) := by decide +kernel
theorem dX9_fault_9 : decode cX9_fault 9 = .ok (.getfield 28, 3) := by decide +kernel
theorem dX9_fault_12 : decode cX9_fault 12 = .ok (.invokevirtual 110, 3) := by decide +kernel
theorem dX9_fault_15 : decode cX9_fault 15 = .ok (.ireturn, 1) := by decide +kernel
theorem dX9_fault_16 : decode cX9_fault 16 = .ok (.iload_n 1, 1) := by decide +kernel
theorem dX9_fault_17 : decode cX9_fault 17 = .ok (.iconst 1, 1) := by decide +kernel
theorem dX9_fault_18 : decode cX9_fault 18 = .ok (.if_icmp .ne 17, 3) := by decide +kernel
theorem dX9_fault_21 : decode cX9_fault 21 = .ok (.aload_n 0, 1) := by decide +kernel
theorem dX9_fault_22 : decode cX9_fault 22 = .ok (.getfield 21, 3) := by decide +kernel
theorem dX9_fault_25 : decode cX9_fault 25 = .ok (.aload_n 0, 1) := by decide +kernel
theorem dX9_fault_26 : decode cX9_fault 26 = .ok (.getfield 38, 3) := by decide +kernel
theorem dX9_fault_29 : decode cX9_fault 29 = .ok (.invokevirtual 114, 3) := by decide +kernel
theorem dX9_fault_32 : decode cX9_fault 32 = .ok (.goto 5, 3) := by decide +kernel
theorem dX9_fault_35 : decode cX9_fault 35 = .ok (.bipush (-2), 2) := by decide +kernel
theorem dX9_fault_37 : decode cX9_fault 37 = .ok (.ireturn, 1) := by decide +kernel
theorem dX9_isDone_0 : decode cX9_isDone 0 = .ok (.iload_n 1, 1) := by decide +kernel
theorem dX9_isDone_1 : decode cX9_isDone 1 = .ok (.ifCond .lt 22, 3) := by decide +kernel
theorem dX9_isDone_4 : decode cX9_isDone 4 = .ok (.iload_n 1, 1) := by decide +kernel
theorem dX9_isDone_5 : decode cX9_isDone 5 = .ok (.aload_n 0, 1) := by decide +kernel
theorem dX9_isDone_6 : decode cX9_isDone 6 = .ok (.getfield 90, 3) := by decide +kernel
theorem dX9_isDone_9 : decode cX9_isDone 9 = .ok (.arraylength, 1) := by decide +kernel
theorem dX9_isDone_10 : decode cX9_isDone 10 = .ok (.if_icmp .ge 13, 3) := by decide +kernel
theorem dX9_isDone_13 : decode cX9_isDone 13 = .ok (.aload_n 0, 1) := by decide +kernel
theorem dX9_isDone_14 : decode cX9_isDone 14 = .ok (.getfield 90, 3) := by decide +kernel
theorem dX9_isDone_17 : decode cX9_isDone 17 = .ok (.iload_n 1, 1) := by decide +kernel
theorem dX9_isDone_18 : decode cX9_isDone 18 = .ok (.dup2, 1) := by decide +kernel
theorem dX9_isDone_19 : decode cX9_isDone 19 = .ok (.iaload, 1) := by decide +kernel
theorem dX9_isDone_20 : decode cX9_isDone 20 = .ok (.iconst 1, 1) := by decide +kernel
theorem dX9_isDone_21 : decode cX9_isDone 21 = .ok (.iadd, 1) := by decide +kernel
theorem dX9_isDone_22 : decode cX9_isDone 22 = .ok (.iastore, 1) := by decide +kernel
theorem dX9_isDone_23 : decode cX9_isDone 23 = .ok (.iload_n 1, 1) := by decide +kernel
theorem dX9_isDone_24 : decode cX9_isDone 24 = .ok (.iconst (-1), 1) := by decide +kernel
theorem dX9_isDone_25 : decode cX9_isDone 25 = .ok (.if_icmp .ne 7, 3) := by decide +kernel
theorem dX9_isDone_32 : decode cX9_isDone 32 = .ok (.iconst 0, 1) := by decide +kernel
theorem dX9_isDone_33 : decode cX9_isDone 33 = .ok (.ireturn, 1) := by decide +kernel
theorem dX9_plug_0 : decode cX9_plug 0 = .ok (.aload_n 0, 1) := by decide +kernel
theorem dX9_plug_1 : decode cX9_plug 1 = .ok (.aload_n 0, 1) := by decide +kernel
theorem dX9_plug_2 : decode cX9_plug 2 = .ok (.aload_n 0, 1) := by decide +kernel
theorem dX9_plug_3 : decode cX9_plug 3 = .ok (.getfield 47, 3) := by decide +kernel
theorem dX9_plug_6 : decode cX9_plug 6 = .ok (.iconst 1, 1) := by decide +kernel
theorem dX9_plug_7 : decode cX9_plug 7 = .ok (.iconst 0, 1) := by decide +kernel
theorem dX9_plug_8 : decode cX9_plug 8 = .ok (.iload_n 1, 1) := by decide +kernel
theorem dX9_plug_9 : decode cX9_plug 9 = .ok (.iload_n 2, 1) := by decide +kernel
theorem dX9_plug_10 : decode cX9_plug 10 = .ok (.iload_n 3, 1) := by decide +kernel
theorem dX9_plug_11 : decode cX9_plug 11 = .ok (.invokevirtual 227, 3) := by decide +kernel
theorem dX9_plug_14 : decode cX9_plug 14 = .ok (.invokevirtual 231, 3) := by decide +kernel
theorem dX9_plug_17 : decode cX9_plug 17 = .ok (.ifCond .eq 14, 3) := by decide +kernel
theorem dX9_plug_31 : decode cX9_plug 31 = .ok (.iconst (-1), 1) := by decide +kernel
theorem dX9_plug_32 : decode cX9_plug 32 = .ok (.ireturn, 1) := by decide +kernel
theorem dX9_sleep_0 : decode cX9_sleep 0 = .ok (.aload_n 0, 1) := by decide +kernel
theorem dX9_sleep_1 : decode cX9_sleep 1 = .ok (.aload_n 0, 1) := by decide +kernel
theorem dX9_sleep_2 : decode cX9_sleep 2 = .ok (.aload_n 0, 1) := by decide +kernel
theorem dX9_sleep_3 : decode cX9_sleep 3 = .ok (.getfield 47, 3) := by decide +kernel
theorem dX9_sleep_6 : decode cX9_sleep 6 = .ok (.iconst 1, 1) := by decide +kernel
theorem dX9_sleep_7 : decode cX9_sleep 7 = .ok (.bipush 6, 2) := by decide +kernel
theorem dX9_sleep_9 : decode cX9_sleep 9 = .ok (.iload_n 1, 1) := by decide +kernel
theorem dX9_sleep_10 : decode cX9_sleep 10 = .ok (.iconst (-1), 1) := by decide +kernel
theorem dX9_sleep_11 : decode cX9_sleep 11 = .ok (.iconst (-1), 1) := by decide +kernel
theorem dX9_sleep_12 : decode cX9_sleep 12 = .ok (.invokevirtual 227, 3) := by decide +kernel
theorem dX9_sleep_15 : decode cX9_sleep 15 = .ok (.invokevirtual 231, 3) := by decide +kernel
theorem dX9_sleep_18 : decode cX9_sleep 18 = .ok (.istore_n 2, 1) := by decide +kernel
theorem dX9_sleep_19 : decode cX9_sleep 19 = .ok (.iload_n 2, 1) := by decide +kernel
theorem dX9_sleep_20 : decode cX9_sleep 20 = .ok (.ifCond .eq 29, 3) := by decide +kernel
theorem dX9_sleep_49 : decode cX9_sleep 49 = .ok (.iconst (-1), 1) := by decide +kernel
theorem dX9_sleep_50 : decode cX9_sleep 50 = .ok (.ireturn, 1) := by decide +kernel
theorem dX9_status_0 : decode cX9_status 0 = .ok (.iload_n 1, 1) := by decide +kernel
theorem dX9_status_1 : decode cX9_status 1 = .ok (.ifCond .lt 21, 3) := by decide +kernel
theorem dX9_status_4 : decode cX9_status 4 = .ok (.iload_n 1, 1) := by decide +kernel
theorem dX9_status_5 : decode cX9_status 5 = .ok (.aload_n 0, 1) := by decide +kernel
theorem dX9_status_6 : decode cX9_status 6 = .ok (.getfield 90, 3) := by decide +kernel
theorem dX9_status_9 : decode cX9_status 9 = .ok (.arraylength, 1) := by decide +kernel
theorem dX9_status_10 : decode cX9_status 10 = .ok (.if_icmp .ge 12, 3) := by decide +kernel
theorem dX9_status_13 : decode cX9_status 13 = .ok (.aload_n 0, 1) := by decide +kernel
theorem dX9_status_14 : decode cX9_status 14 = .ok (.getfield 90, 3) := by decide +kernel
theorem dX9_status_17 : decode cX9_status 17 = .ok (.iload_n 1, 1) := by decide +kernel
theorem dX9_status_18 : decode cX9_status 18 = .ok (.iaload, 1) := by decide +kernel
theorem dX9_status_19 : decode cX9_status 19 = .ok (.goto 4, 3) := by decide +kernel
theorem dX9_status_22 : decode cX9_status 22 = .ok (.iconst (-1), 1) := by decide +kernel
theorem dX9_status_23 : decode cX9_status 23 = .ok (.ireturn, 1) := by decide +kernel
theorem dX9_supply_0 : decode cX9_supply 0 = .ok (.aload_n 0, 1) := by decide +kernel
theorem dX9_supply_1 : decode cX9_supply 1 = .ok (.aload_n 0, 1) := by decide +kernel
theorem dX9_supply_2 : decode cX9_supply 2 = .ok (.aload_n 0, 1) := by decide +kernel
theorem dX9_supply_3 : decode cX9_supply 3 = .ok (.getfield 47, 3) := by decide +kernel
theorem dX9_supply_6 : decode cX9_supply 6 = .ok (.iconst 1, 1) := by decide +kernel
theorem dX9_supply_7 : decode cX9_supply 7 = .ok (.iconst 3, 1) := by decide +kernel
theorem dX9_supply_8 : decode cX9_supply 8 = .ok (.iload_n 1, 1) := by decide +kernel
theorem dX9_supply_9 : decode cX9_supply 9 = .ok (.iconst (-1), 1) := by decide +kernel
theorem dX9_supply_10 : decode cX9_supply 10 = .ok (.iconst (-1), 1) := by decide +kernel
theorem dX9_supply_11 : decode cX9_supply 11 = .ok (.invokevirtual 227, 3) := by decide +kernel
theorem dX9_supply_14 : decode cX9_supply 14 = .ok (.invokevirtual 231, 3) := by decide +kernel
theorem dX9_supply_17 : decode cX9_supply 17 = .ok (.istore_n 2, 1) := by decide +kernel
theorem dX9_supply_18 : decode cX9_supply 18 = .ok (.iload_n 2, 1) := by decide +kernel
theorem dX9_supply_19 : decode cX9_supply 19 = .ok (.ifCond .eq 29, 3) := by decide +kernel
theorem dX9_supply_48 : decode cX9_supply 48 = .ok (.iconst (-1), 1) := by decide +kernel
theorem dX9_supply_49 : decode cX9_supply 49 = .ok (.ireturn, 1) := by decide +kernel
theorem dX9_takeScript_0 : decode cX9_takeScript 0 = .ok (.aload_n 0, 1) := by decide +kernel
theorem dX9_takeScript_1 : decode cX9_takeScript 1 = .ok (.getfield 38, 3) := by decide +kernel
theorem dX9_takeScript_4 : decode cX9_takeScript 4 = .ok (.getfield 140, 3) := by decide +kernel
theorem dX9_takeScript_7 : decode cX9_takeScript 7 = .ok (.iconst 4, 1) := by decide +kernel
theorem dX9_takeScript_8 : decode cX9_takeScript 8 = .ok (.if_icmp .ge 18, 3) := by decide +kernel
theorem dX9_takeScript_11 : decode cX9_takeScript 11 = .ok (.aload_n 0, 1) := by decide +kernel
theorem dX9_takeScript_12 : decode cX9_takeScript 12 = .ok (.getfield 21, 3) := by decide +kernel
theorem dX9_takeScript_15 : decode cX9_takeScript 15 = .ok (.aload_n 0, 1) := by decide +kernel
theorem dX9_takeScript_16 : decode cX9_takeScript 16 = .ok (.getfield 38, 3) := by decide +kernel
theorem dX9_takeScript_19 : decode cX9_takeScript 19 = .ok (.invokevirtual 114, 3) := by decide +kernel
theorem dX9_takeScript_22 : decode cX9_takeScript 22 = .ok (.iconst (-1), 1) := by decide +kernel
theorem dX9_takeScript_23 : decode cX9_takeScript 23 = .ok (.if_icmp .eq 5, 3) := by decide +kernel
theorem dX9_takeScript_26 : decode cX9_takeScript 26 = .ok (.iconst (-1), 1) := by decide +kernel
theorem dX9_takeScript_27 : decode cX9_takeScript 27 = .ok (.ireturn, 1) := by decide +kernel
theorem dX9_takeTree_0 : decode cX9_takeTree 0 = .ok (.aload_n 0, 1) := by decide +kernel
theorem dX9_takeTree_1 : decode cX9_takeTree 1 = .ok (.getfield 21, 3) := by decide +kernel
theorem dX9_takeTree_4 : decode cX9_takeTree 4 = .ok (.aload_n 0, 1) := by decide +kernel
theorem dX9_takeTree_5 : decode cX9_takeTree 5 = .ok (.getfield 28, 3) := by decide +kernel
theorem dX9_takeTree_8 : decode cX9_takeTree 8 = .ok (.invokevirtual 110, 3) := by decide +kernel
theorem dX9_takeTree_11 : decode cX9_takeTree 11 = .ok (.iconst (-1), 1) := by decide +kernel
theorem dX9_takeTree_12 : decode cX9_takeTree 12 = .ok (.if_icmp .eq 5, 3) := by decide +kernel
theorem dX9_takeTree_15 : decode cX9_takeTree 15 = .ok (.iconst (-1), 1) := by decide +kernel
theorem dX9_takeTree_16 : decode cX9_takeTree 16 = .ok (.ireturn, 1) := by decide +kernel
theorem dX9_text_0 : decode cX9_text 0 = .ok (.iload_n 1, 1) := by decide +kernel
theorem dX9_text_1 : decode cX9_text 1 = .ok (.ifCond .ne 8, 3) := by decide +kernel
theorem dX9_text_4 : decode cX9_text 4 = .ok (.aload_n 0, 1) := by decide +kernel
theorem dX9_text_5 : decode cX9_text 5 = .ok (.invokevirtual 118, 3) := by decide +kernel
theorem dX9_text_8 : decode cX9_text 8 = .ok (.ireturn, 1) := by decide +kernel
theorem dX9_text_9 : decode cX9_text 9 = .ok (.iload_n 1, 1) := by decide +kernel
theorem dX9_text_10 : decode cX9_text 10 = .ok (.iconst 1, 1) := by decide +kernel
theorem dX9_text_11 : decode cX9_text 11 = .ok (.if_icmp .ne 10, 3) := by decide +kernel
theorem dX9_text_14 : decode cX9_text 14 = .ok (.aload_n 0, 1) := by decide +kernel
theorem dX9_text_15 : decode cX9_text 15 = .ok (.invokevirtual 122, 3) := by decide +kernel
theorem dX9_text_18 : decode cX9_text 18 = .ok (.goto 4, 3) := by decide +kernel
theorem dX9_text_21 : decode cX9_text 21 = .ok (.iconst (-1), 1) := by decide +kernel
theorem dX9_text_22 : decode cX9_text 22 = .ok (.ireturn, 1) := by decide +kernel
theorem dX9_tick_0 : decode cX9_tick 0 = .ok (.aload_n 0, 1) := by decide +kernel
theorem dX9_tick_1 : decode cX9_tick 1 = .ok (.aload_n 0, 1) := by decide +kernel
theorem dX9_tick_2 : decode cX9_tick 2 = .ok (.aload_n 0, 1) := by decide +kernel
theorem dX9_tick_3 : decode cX9_tick 3 = .ok (.getfield 47, 3) := by decide +kernel
theorem dX9_tick_6 : decode cX9_tick 6 = .ok (.iconst 1, 1) := by decide +kernel
theorem dX9_tick_7 : decode cX9_tick 7 = .ok (.iconst 2, 1) := by decide +kernel
theorem dX9_tick_8 : decode cX9_tick 8 = .ok (.iload_n 1, 1) := by decide +kernel
theorem dX9_tick_9 : decode cX9_tick 9 = .ok (.iconst (-1), 1) := by decide +kernel
theorem dX9_tick_10 : decode cX9_tick 10 = .ok (.iconst (-1), 1) := by decide +kernel
theorem dX9_tick_11 : decode cX9_tick 11 = .ok (.invokevirtual 227, 3) := by decide +kernel
theorem dX9_tick_14 : decode cX9_tick 14 = .ok (.invokevirtual 231, 3) := by decide +kernel
theorem dX9_tick_17 : decode cX9_tick 17 = .ok (.ifCond .eq 13, 3) := by decide +kernel
theorem dX9_tick_30 : decode cX9_tick 30 = .ok (.iconst (-1), 1) := by decide +kernel
theorem dX9_tick_31 : decode cX9_tick 31 = .ok (.ireturn, 1) := by decide +kernel
theorem dX9_unplug_0 : decode cX9_unplug 0 = .ok (.aload_n 0, 1) := by decide +kernel
theorem dX9_unplug_1 : decode cX9_unplug 1 = .ok (.getfield 47, 3) := by decide +kernel
theorem dX9_unplug_4 : decode cX9_unplug 4 = .ok (.iconst 0, 1) := by decide +kernel
theorem dX9_unplug_5 : decode cX9_unplug 5 = .ok (.invokevirtual 234, 3) := by decide +kernel
theorem dX9_unplug_8 : decode cX9_unplug 8 = .ok (.invokestatic 210, 3) := by decide +kernel
theorem dX9_unplug_11 : decode cX9_unplug 11 = .ok (.istore_n 2, 1) := by decide +kernel
theorem dX9_unplug_12 : decode cX9_unplug 12 = .ok (.aload_n 0, 1) := by decide +kernel
theorem dX9_unplug_13 : decode cX9_unplug 13 = .ok (.aload_n 0, 1) := by decide +kernel
theorem dX9_unplug_14 : decode cX9_unplug 14 = .ok (.aload_n 0, 1) := by decide +kernel
theorem dX9_unplug_15 : decode cX9_unplug 15 = .ok (.getfield 47, 3) := by decide +kernel
theorem dX9_unplug_18 : decode cX9_unplug 18 = .ok (.iconst 1, 1) := by decide +kernel
theorem dX9_unplug_19 : decode cX9_unplug 19 = .ok (.iconst 1, 1) := by decide +kernel
theorem dX9_unplug_20 : decode cX9_unplug 20 = .ok (.iload_n 1, 1) := by decide +kernel
theorem dX9_unplug_21 : decode cX9_unplug 21 = .ok (.iconst (-1), 1) := by decide +kernel
theorem dX9_unplug_22 : decode cX9_unplug 22 = .ok (.iconst (-1), 1) := by decide +kernel
theorem dX9_unplug_23 : decode cX9_unplug 23 = .ok (.invokevirtual 227, 3) := by decide +kernel
theorem dX9_unplug_26 : decode cX9_unplug 26 = .ok (.invokevirtual 231, 3) := by decide +kernel
theorem dX9_unplug_29 : decode cX9_unplug 29 = .ok (.ifCond .ne 5, 3) := by decide +kernel
theorem dX9_unplug_32 : decode cX9_unplug 32 = .ok (.iconst (-1), 1) := by decide +kernel
theorem dX9_unplug_33 : decode cX9_unplug 33 = .ok (.ireturn, 1) := by decide +kernel
def wq_X9_status : List Cond := .code yX9_status cX9_status 2 (some .int) :: ([.fieldLink RX9 90 "HubTree" "refusals" "[I"] ++ wsX90)
theorem iq_X9_status_9 : ∀ w ∈ wsX90, w ∈ wq_X9_status := fun _ h => List.mem_cons_of_mem _ (List.mem_append_right _ h)
set_option maxHeartbeats 4000000 in
set_option maxRecDepth 100000 in
theorem c_X9_status (l : Launch) (dC : Nat → ClassId) (dI : Nat → Nat → Nat) (a : Nat → Nat) (k : Nat → ClassId) (z1 : Int32) : Met l yX9_status wq_X9_status ({ frames := 0, cells := 0, slots := 0, locals := 0 }) (va_Pc [.ref (a 0), .int z1] (q_R (dC, dI) [((a 0), .inr (9, [.ref (a 1), .ref (a 3), .ref (a 4), .ref (a 7), .ref (a 10), .ref (a 14), .ref (a 16), .ref (a 18), .ref (a 19), .ref (a 21), .ref (a 23), .ref (a 25), .ref (a 27), .ref (a 28), .int 0])), ((a 28), .inl ((k 28), 4, .inl (fun _ => 0)))] [((k 28), .int)])) (q_i ((q_st z1))) 0 0 (fun _ => False) := by
  refine Met.ofW (cc := cX9_status) (maxL := 2) (ret := (some .int)) (by decide) rfl ?_
  intro p e s m args below meth c s₁ B hml hv
  obtain ⟨rfl, hP, hK⟩ := hv
  have hx := B.exec
  have hb := B.bytes
  have hr := B.returns
  have hts := atoms_spec (ws := wq_X9_status) B.pre
  have hown : s.vm.findClass RX9 = some m.cls := findClass_of_methodNamed B.named
  have hlocks := B.notSynchronized
  have hS : va_S (fun _ => False) s.heap s.heap [] := va_S.rf
  have hl := lv_entry ([.ref (a 0), .int z1]) (n := 2) (Nat.le_of_ble_eq_true rfl)
  rw [lg_entry_eq]
  generalize (lg_sl ([.ref (a 0), .int z1]) ++ List.replicate (2 - (lg_sl ([.ref (a 0), .int z1])).length) Slot.unset).toArray = ls at hl ⊢
  have hl : lv_has ls 2 [(0, .ref (a 0)), (1, .int z1)] := hl
  refine lv_iload_n hx hb dX9_status_0 rfl (lv_at hl 1 rfl) ?_
  refine lv_if_lt (tgt := 22) hx hb dX9_status_1 (by decide) (fun c_1 => ?_) (fun c_1 => ?_)
  · skip
    refine lv_iconst (v := (-1)) hx hb dX9_status_22 (by decide) ?_
    exact W.iret (v := (-1)) hx hb hr (fun t ht hW => ⟨⟨(-1), (), rfl, (by first | (rw [q_st, if_pos c_1]; done) | (rw [q_st, if_neg c_1, if_pos c_2]; done) | (rw [q_st, if_neg c_1, if_neg c_2])), trivial⟩, hS.F ht⟩) hS.2.2 dX9_status_23
  · skip
    refine lv_iload_n hx hb dX9_status_4 rfl (lv_at hl 1 rfl) ?_
    refine lv_aload_n hx hb dX9_status_5 rfl (lv_at hl 0 rfl) ?_
    refine va_get (D := (dC, dI)) (ci := 9) (v := .ref (a 28)) (C := RX9) (T := TX9) (N := 15) hx hb hts iq_X9_status_9 hown hK hP 0 rfl rfl 13 (by decide) (hts (.fieldLink RX9 90 "HubTree" "refusals" "[I") (List.mem_of_getElem? (i := 1) rfl)) (fun _ h9 => h9) rfl dX9_status_6 ?_
    refine va_alen hx hb hK hP 1 0 rfl rfl (v := 4) rfl dX9_status_9 ?_
    refine lv_icmp_ge (tgt := 22) hx hb dX9_status_10 (by decide) (fun c_2 => ?_) (fun c_2 => ?_)
    · skip
      refine lv_iconst (v := (-1)) hx hb dX9_status_22 (by decide) ?_
      exact W.iret (v := (-1)) hx hb hr (fun t ht hW => ⟨⟨(-1), (), rfl, (by first | (rw [q_st, if_pos c_1]; done) | (rw [q_st, if_neg c_1, if_pos c_2]; done) | (rw [q_st, if_neg c_1, if_neg c_2])), trivial⟩, hS.F ht⟩) hS.2.2 dX9_status_23
    · skip
      refine lv_aload_n hx hb dX9_status_13 rfl (lv_at hl 0 rfl) ?_
      refine va_get (D := (dC, dI)) (ci := 9) (v := .ref (a 28)) (C := RX9) (T := TX9) (N := 15) hx hb hts iq_X9_status_9 hown hK hP 0 rfl rfl 13 (by decide) (hts (.fieldLink RX9 90 "HubTree" "refusals" "[I") (List.mem_of_getElem? (i := 1) rfl)) (fun _ h9 => h9) rfl dX9_status_14 ?_
      refine lv_iload_n hx hb dX9_status_17 rfl (lv_at hl 1 rfl) ?_
      refine va_iald hx hb hK hP 1 0 rfl rfl (i := z1) (q_vp4 c_1 c_2) dX9_status_18 ?_
      refine q_top (y := 0) rfl ?_
      refine lv_goto (tgt := 23) hx hb dX9_status_19 (by decide) ?_
      exact W.iret (v := 0) hx hb hr (fun t ht hW => ⟨⟨0, (), rfl, (by first | (rw [q_st, if_pos c_1]; done) | (rw [q_st, if_neg c_1, if_pos c_2]; done) | (rw [q_st, if_neg c_1, if_neg c_2])), trivial⟩, hS.F ht⟩) hS.2.2 dX9_status_23

def wq_X9_count : List Cond := .code yX9_count cX9_count 2 (some .int) :: ([.fieldLink RX9 32 "HubTree" "plan" "LHubTree$Plan;", .fieldLink RX9 137 "HubTree$Plan" "devices" "I", .fieldLink RX9 38 "HubTree" "scripts" "LHubTree$Scripts;", .fieldLink RX9 140 "HubTree$Scripts" "held" "I", .fieldLink RX9 12 "HubTree" "tape" "LHubTree$Tape;", .fieldLink RX9 102 "HubTree$Tape" "length" "I", .fieldLink RX9 73 "HubTree" "diary" "LHubTree$Diary;", .methodLink RX9 255 yX1_shown, .instanceMethod yX1_shown, .selects RX1 yX1_shown yX1_shown, .initialized RX1, .code yX1_shown cX1_shown 1 (some .int), .fieldLink RX1 15 "HubTree$Diary" "total" "I", .methodLink RX1 19 Lib.Math.min.name, .static Lib.Math.min.name, .initialized "java/lang/Math", .code Lib.Math.min.name Lib.Math.min.code 2 (some .int), .fieldLink RX9 66 "HubTree" "past" "LHubTree$Past;", .fieldLink RX9 247 "HubTree$Past" "held" "I", .constant RX9 185 (-1000000)] ++ wsX90 ++ wsX50 ++ wsX70 ++ wsX80 ++ wsX10 ++ wsX40)
set_option maxRecDepth 20000 in
theorem g_X9_count_X1_shown_255 : GoodIn wq_X9_count (wsV RX9 255 RX1 yX1_shown wq_X1_shown) := goodIn_r _ [8, 9, 10, 11, 12, 13, 14, 15, 16, 17, 46, 47] (by decide +kernel) (by decide +kernel)
theorem iq_X9_count_9 : ∀ w ∈ wsX90, w ∈ wq_X9_count := fun _ h => List.mem_cons_of_mem _ (List.mem_append_left _ (List.mem_append_left _ (List.mem_append_left _ (List.mem_append_left _ (List.mem_append_left _ (List.mem_append_right _ h))))))
theorem iq_X9_count_5 : ∀ w ∈ wsX50, w ∈ wq_X9_count := fun _ h => List.mem_cons_of_mem _ (List.mem_append_left _ (List.mem_append_left _ (List.mem_append_left _ (List.mem_append_left _ (List.mem_append_right _ h)))))
theorem iq_X9_count_7 : ∀ w ∈ wsX70, w ∈ wq_X9_count := fun _ h => List.mem_cons_of_mem _ (List.mem_append_left _ (List.mem_append_left _ (List.mem_append_left _ (List.mem_append_right _ h))))
theorem iq_X9_count_8 : ∀ w ∈ wsX80, w ∈ wq_X9_count := fun _ h => List.mem_cons_of_mem _ (List.mem_append_left _ (List.mem_append_left _ (List.mem_append_right _ h)))
theorem iq_X9_count_1 : ∀ w ∈ wsX10, w ∈ wq_X9_count := fun _ h => List.mem_cons_of_mem _ (List.mem_append_left _ (List.mem_append_right _ h))
theorem iq_X9_count_4 : ∀ w ∈ wsX40, w ∈ wq_X9_count := fun _ h => List.mem_cons_of_mem _ (List.mem_append_right _ h)
set_option maxHeartbeats 4000000 in
set_option maxRecDepth 100000 in
theorem c_X9_count (l : Launch) (dC : Nat → ClassId) (dI : Nat → Nat → Nat) (a : Nat → Nat) (z1 : Int32) : Met l yX9_count wq_X9_count ({ frames := 2, cells := 0, slots := 0, locals := 41 }) (va_Pc [.ref (a 0), .int z1] (q_R (dC, dI) [((a 0), .inr (9, [.ref (a 1), .ref (a 3), .ref (a 4), .ref (a 7), .ref (a 10), .ref (a 14), .ref (a 16), .ref (a 18), .ref (a 19), .ref (a 21), .ref (a 23), .ref (a 25), .ref (a 27), .ref (a 28), .int 0])), ((a 7), .inr (5, [.ref (a 8), .ref (a 9), .int 0])), ((a 10), .inr (7, [.ref (a 11), .ref (a 12), .ref (a 13), .int 0, .int 0])), ((a 1), .inr (8, [.ref (a 2), .int 0])), ((a 21), .inr (1, [.ref (a 22), .int 0])), ((a 19), .inr (4, [.ref (a 20), .int 0, .int 0]))] [])) (q_i ((q_cnt z1))) 0 0 (fun _ => False) := by
  refine Met.ofW (cc := cX9_count) (maxL := 2) (ret := (some .int)) (by decide) rfl ?_
  intro p e s m args below meth c s₁ B hml hv
  obtain ⟨rfl, hP, hK⟩ := hv
  have hx := B.exec
  have hb := B.bytes
  have hr := B.returns
  have hts := atoms_spec (ws := wq_X9_count) B.pre
  have hown : s.vm.findClass RX9 = some m.cls := findClass_of_methodNamed B.named
  have hlocks := B.notSynchronized
  have hS : va_S (fun _ => False) s.heap s.heap [] := va_S.rf
  have hl := lv_entry ([.ref (a 0), .int z1]) (n := 2) (Nat.le_of_ble_eq_true rfl)
  rw [lg_entry_eq]
  generalize (lg_sl ([.ref (a 0), .int z1]) ++ List.replicate (2 - (lg_sl ([.ref (a 0), .int z1])).length) Slot.unset).toArray = ls at hl ⊢
  have hl : lv_has ls 2 [(0, .ref (a 0)), (1, .int z1)] := hl
  refine lv_iload_n hx hb dX9_count_0 rfl (lv_at hl 1 rfl) ?_
  by_cases e_1 : z1 = 0
  · refine lv_tableIn (off := 35) (tgt := 36) hx hb dX9_count_1 (by rw [e_1]; decide) (by rw [e_1]; decide) (by rw [e_1]; decide) (by decide) ?_
    refine lv_aload_n hx hb dX9_count_36 rfl (lv_at hl 0 rfl) ?_
    refine va_get (D := (dC, dI)) (ci := 9) (v := .ref (a 7)) (C := RX9) (T := TX9) (N := 15) hx hb hts iq_X9_count_9 hown hK hP 0 rfl rfl 3 (by decide) (hts (.fieldLink RX9 32 "HubTree" "plan" "LHubTree$Plan;") (List.mem_of_getElem? (i := 1) rfl)) (fun _ h9 => h9) rfl dX9_count_37 ?_
    refine va_get (D := (dC, dI)) (ci := 5) (v := .int 0) (C := RX5) (T := TX5) (N := 3) hx hb hts iq_X9_count_5 hown hK hP 1 rfl rfl 2 (by decide) (hts (.fieldLink RX9 137 "HubTree$Plan" "devices" "I") (List.mem_of_getElem? (i := 2) rfl)) (fun _ h9 => h9) rfl dX9_count_40 ?_
    exact W.iret (v := 0) hx hb hr (fun t ht hW => ⟨⟨0, (), rfl, (by simp [q_cnt, e_1]), trivial⟩, hS.F ht⟩) hS.2.2 dX9_count_43
  by_cases e_2 : z1 = 1
  · refine lv_tableIn (off := 43) (tgt := 44) hx hb dX9_count_1 (by rw [e_2]; decide) (by rw [e_2]; decide) (by rw [e_2]; decide) (by decide) ?_
    refine lv_aload_n hx hb dX9_count_44 rfl (lv_at hl 0 rfl) ?_
    refine va_get (D := (dC, dI)) (ci := 9) (v := .ref (a 10)) (C := RX9) (T := TX9) (N := 15) hx hb hts iq_X9_count_9 hown hK hP 0 rfl rfl 4 (by decide) (hts (.fieldLink RX9 38 "HubTree" "scripts" "LHubTree$Scripts;") (List.mem_of_getElem? (i := 3) rfl)) (fun _ h9 => h9) rfl dX9_count_45 ?_
    refine va_get (D := (dC, dI)) (ci := 7) (v := .int 0) (C := RX7) (T := TX7) (N := 5) hx hb hts iq_X9_count_7 hown hK hP 2 rfl rfl 4 (by decide) (hts (.fieldLink RX9 140 "HubTree$Scripts" "held" "I") (List.mem_of_getElem? (i := 4) rfl)) (fun _ h9 => h9) rfl dX9_count_48 ?_
    exact W.iret (v := 0) hx hb hr (fun t ht hW => ⟨⟨0, (), rfl, (by simp [q_cnt, e_1, e_2]), trivial⟩, hS.F ht⟩) hS.2.2 dX9_count_51
  by_cases e_3 : z1 = 2
  · refine lv_tableIn (off := 51) (tgt := 52) hx hb dX9_count_1 (by rw [e_3]; decide) (by rw [e_3]; decide) (by rw [e_3]; decide) (by decide) ?_
    refine lv_aload_n hx hb dX9_count_52 rfl (lv_at hl 0 rfl) ?_
    refine va_get (D := (dC, dI)) (ci := 9) (v := .ref (a 1)) (C := RX9) (T := TX9) (N := 15) hx hb hts iq_X9_count_9 hown hK hP 0 rfl rfl 0 (by decide) (hts (.fieldLink RX9 12 "HubTree" "tape" "LHubTree$Tape;") (List.mem_of_getElem? (i := 5) rfl)) (fun _ h9 => h9) rfl dX9_count_53 ?_
    refine va_get (D := (dC, dI)) (ci := 8) (v := .int 0) (C := RX8) (T := TX8) (N := 2) hx hb hts iq_X9_count_8 hown hK hP 3 rfl rfl 1 (by decide) (hts (.fieldLink RX9 102 "HubTree$Tape" "length" "I") (List.mem_of_getElem? (i := 6) rfl)) (fun _ h9 => h9) rfl dX9_count_56 ?_
    exact W.iret (v := 0) hx hb hr (fun t ht hW => ⟨⟨0, (), rfl, (by simp [q_cnt, e_1, e_2, e_3]), trivial⟩, hS.F ht⟩) hS.2.2 dX9_count_59
  by_cases e_4 : z1 = 3
  · refine lv_tableIn (off := 59) (tgt := 60) hx hb dX9_count_1 (by rw [e_4]; decide) (by rw [e_4]; decide) (by rw [e_4]; decide) (by decide) ?_
    refine lv_aload_n hx hb dX9_count_60 rfl (lv_at hl 0 rfl) ?_
    refine va_get (D := (dC, dI)) (ci := 9) (v := .ref (a 21)) (C := RX9) (T := TX9) (N := 15) hx hb hts iq_X9_count_9 hown hK hP 0 rfl rfl 9 (by decide) (hts (.fieldLink RX9 73 "HubTree" "diary" "LHubTree$Diary;") (List.mem_of_getElem? (i := 7) rfl)) (fun _ h9 => h9) rfl dX9_count_61 ?_
    refine q_goi (v := 0) (va_runV (As := []) (rest := []) ⟨hx, hb, hml, hown, hts⟩ (c_X1_shown l dC dI (a 21) (a 22)) (cwV 0 hts g_X9_count_X1_shown_255 rfl rfl rfl (by decide +kernel) ⟨Nat.le_of_ble_eq_true rfl, Nat.le_of_ble_eq_true rfl⟩) (q_preV hK hP (ci := 1) (q0 := 4) rfl rfl [4] rfl [] rfl) rfl rfl hl.1 rfl (lv_room (Nat.le_of_ble_eq_true rfl)) dX9_count_64 ⟨Nat.le_of_ble_eq_true rfl, Nat.le_of_ble_eq_true rfl⟩) hP hS (fun H locs hP hS => ?_)
    exact W.iret (v := 0) hx hb hr (fun t ht hW => ⟨⟨0, (), rfl, (by simp [q_cnt, e_1, e_2, e_3, e_4]), trivial⟩, hS.F ht⟩) hS.2.2 dX9_count_67
  by_cases e_5 : z1 = 4
  · refine lv_tableIn (off := 67) (tgt := 68) hx hb dX9_count_1 (by rw [e_5]; decide) (by rw [e_5]; decide) (by rw [e_5]; decide) (by decide) ?_
    refine lv_aload_n hx hb dX9_count_68 rfl (lv_at hl 0 rfl) ?_
    refine va_get (D := (dC, dI)) (ci := 9) (v := .ref (a 19)) (C := RX9) (T := TX9) (N := 15) hx hb hts iq_X9_count_9 hown hK hP 0 rfl rfl 8 (by decide) (hts (.fieldLink RX9 66 "HubTree" "past" "LHubTree$Past;") (List.mem_of_getElem? (i := 18) rfl)) (fun _ h9 => h9) rfl dX9_count_69 ?_
    refine va_get (D := (dC, dI)) (ci := 4) (v := .int 0) (C := RX4) (T := TX4) (N := 3) hx hb hts iq_X9_count_4 hown hK hP 5 rfl rfl 2 (by decide) (hts (.fieldLink RX9 247 "HubTree$Past" "held" "I") (List.mem_of_getElem? (i := 19) rfl)) (fun _ h9 => h9) rfl dX9_count_72 ?_
    exact W.iret (v := 0) hx hb hr (fun t ht hW => ⟨⟨0, (), rfl, (by simp [q_cnt, e_1, e_2, e_3, e_4, e_5]), trivial⟩, hS.F ht⟩) hS.2.2 dX9_count_75
  have hsw : (z1).toInt < 0 ∨ 4 < (z1).toInt := by
    have := lv_neT (a := 0) e_1 (by decide)
    have := lv_neT (a := 1) e_2 (by decide)
    have := lv_neT (a := 2) e_3 (by decide)
    have := lv_neT (a := 3) e_4 (by decide)
    have := lv_neT (a := 4) e_5 (by decide)
    omega
  refine lv_tableOut (tgt := 76) hx hb dX9_count_1 hsw (by decide) ?_
  refine lv_ldc (v := (-1000000)) hx hb hown (hts (.constant RX9 185 (-1000000)) (List.mem_of_getElem? (i := 20) rfl)) dX9_count_76 ?_
  exact W.iret (v := (-1000000)) hx hb hr (fun t ht hW => ⟨⟨(-1000000), (), rfl, (by simp [q_cnt, e_1, e_2, e_3, e_4, e_5]), trivial⟩, hS.F ht⟩) hS.2.2 dX9_count_78

def wq_X9_isDone : List Cond := .code yX9_isDone cX9_isDone 2 (some .boolean) :: ([.fieldLink RX9 90 "HubTree" "refusals" "[I"] ++ wsX90)
theorem iq_X9_isDone_9 : ∀ w ∈ wsX90, w ∈ wq_X9_isDone := fun _ h => List.mem_cons_of_mem _ (List.mem_append_right _ h)
set_option maxHeartbeats 4000000 in
set_option maxRecDepth 100000 in
theorem c_X9_isDone (l : Launch) (dC : Nat → ClassId) (dI : Nat → Nat → Nat) (a : Nat → Nat) (k : Nat → ClassId) (A : Nat → Prop) : Met l yX9_isDone wq_X9_isDone ({ frames := 0, cells := 0, slots := 0, locals := 0 }) (va_Pc [.ref (a 0), .int 0] (q_W (dC, dI) A [((a 0), .inr (9, [.ref (a 1), .ref (a 3), .ref (a 4), .ref (a 7), .ref (a 10), .ref (a 14), .ref (a 16), .ref (a 18), .ref (a 19), .ref (a 21), .ref (a 23), .ref (a 25), .ref (a 27), .ref (a 28), .int 0])), ((a 28), .inl ((k 28), 4, .inl (fun _ => 0)))] [((k 28), .int)])) (q_wi (0) A) 0 0 A := by
  refine Met.ofW (cc := cX9_isDone) (maxL := 2) (ret := (some .boolean)) (by decide) rfl ?_
  intro p e s m args below meth c s₁ B hml hv
  obtain ⟨rfl, hP, hK, hD, hA⟩ := hv
  have hx := B.exec
  have hb := B.bytes
  have hr := B.returns
  have hts := atoms_spec (ws := wq_X9_isDone) B.pre
  have hown : s.vm.findClass RX9 = some m.cls := findClass_of_methodNamed B.named
  have hlocks := B.notSynchronized
  have hS : va_S A s.heap s.heap [] := va_S.rf
  have hl := lv_entry ([.ref (a 0), .int 0]) (n := 2) (Nat.le_of_ble_eq_true rfl)
  rw [lg_entry_eq]
  generalize (lg_sl ([.ref (a 0), .int 0]) ++ List.replicate (2 - (lg_sl ([.ref (a 0), .int 0])).length) Slot.unset).toArray = ls at hl ⊢
  have hl : lv_has ls 2 [(0, .ref (a 0)), (1, .int 0)] := hl
  refine lv_iload_n hx hb dX9_isDone_0 rfl (lv_at hl 1 rfl) ?_
  refine lv_if_lt (tgt := 23) hx hb dX9_isDone_1 (by decide) (fun c_1 => ?_) (fun c_1 => ?_)
  · exact absurd c_1 (by decide)
  refine lv_iload_n hx hb dX9_isDone_4 rfl (lv_at hl 1 rfl) ?_
  refine lv_aload_n hx hb dX9_isDone_5 rfl (lv_at hl 0 rfl) ?_
  refine va_get (D := (dC, dI)) (ci := 9) (v := .ref (a 28)) (C := RX9) (T := TX9) (N := 15) hx hb hts iq_X9_isDone_9 hown hK hP 0 rfl rfl 13 (by decide) (hts (.fieldLink RX9 90 "HubTree" "refusals" "[I") (List.mem_of_getElem? (i := 1) rfl)) (fun _ h9 => h9) rfl dX9_isDone_6 ?_
  refine va_alen hx hb hK hP 1 0 rfl rfl (v := 4) rfl dX9_isDone_9 ?_
  refine lv_icmp_ge (tgt := 23) hx hb dX9_isDone_10 (by decide) (fun c_2 => ?_) (fun c_2 => ?_)
  · exact absurd c_2 (by decide)
  refine lv_aload_n hx hb dX9_isDone_13 rfl (lv_at hl 0 rfl) ?_
  refine va_get (D := (dC, dI)) (ci := 9) (v := .ref (a 28)) (C := RX9) (T := TX9) (N := 15) hx hb hts iq_X9_isDone_9 hown hK hP 0 rfl rfl 13 (by decide) (hts (.fieldLink RX9 90 "HubTree" "refusals" "[I") (List.mem_of_getElem? (i := 1) rfl)) (fun _ h9 => h9) rfl dX9_isDone_14 ?_
  refine lv_iload_n hx hb dX9_isDone_17 rfl (lv_at hl 1 rfl) ?_
  refine lv_dup2_11 hx hb dX9_isDone_18 rfl rfl ?_
  refine va_iald hx hb hK hP 1 0 rfl rfl (i := 0) (vp_in_iff.mpr (by decide)) dX9_isDone_19 ?_
  refine q_top (y := 0) rfl ?_
  refine lv_iconst (v := 1) hx hb dX9_isDone_20 (by decide) ?_
  refine lv_iadd hx hb dX9_isDone_21 ?_
  refine q_top (y := 1) (by decide) ?_
  refine va_iast hx hb hK hP hD hS 1 0 rfl rfl (i := 0) (x := 1) (vp_in_iff.mpr (by decide)) dX9_isDone_22 (fun H locs hP hD hS => ?_)
  obtain ⟨f_3, hP, hD⟩ : ∃ f9 : Nat → Int32, va_P (dC, dI) vwCl [((a 0), .inr (9, [.ref (a 1), .ref (a 3), .ref (a 4), .ref (a 7), .ref (a 10), .ref (a 14), .ref (a 16), .ref (a 18), .ref (a 19), .ref (a 21), .ref (a 23), .ref (a 25), .ref (a 27), .ref (a 28), .int 0])), ((a 28), .inl ((k 28), 4, .inl f9))] H ∧ va_D A [((a 0), .inr (9, [.ref (a 1), .ref (a 3), .ref (a 4), .ref (a 7), .ref (a 10), .ref (a 14), .ref (a 16), .ref (a 18), .ref (a 19), .ref (a 21), .ref (a 23), .ref (a 25), .ref (a 27), .ref (a 28), .int 0])), ((a 28), .inl ((k 28), 4, .inl f9))] := ⟨_, hP, hD⟩
  refine lv_iload_n hx hb dX9_isDone_23 rfl (lv_at hl 1 rfl) ?_
  refine lv_iconst (v := (-1)) hx hb dX9_isDone_24 (by decide) ?_
  refine lv_icmp_ne (tgt := 32) hx hb dX9_isDone_25 (by decide) (fun c_4 => ?_) (fun c_4 => ?_)
  · skip
    refine lv_iconst (v := 0) hx hb dX9_isDone_32 (by decide) ?_
    exact W.zret (v := 0) hx hb hr rfl (fun t ht hW => ⟨⟨0, (), rfl, rfl, trivial⟩, hS.F ht⟩) hS.2.2 dX9_isDone_33
  · exact absurd c_4 (by decide)

def wq_X9_plug : List Cond := .code yX9_plug cX9_plug 4 (some .int) :: ([.fieldLink RX9 47 "HubTree" "now" "LHubTree$Bus;", .methodLink RX9 227 yX9_attempt, .instanceMethod yX9_attempt, .selects RX9 yX9_attempt yX9_attempt, .initialized RX9, .code yX9_attempt cX9_attempt 9 (some .int), .methodLink RX9 319 yX0_barOf, .instanceMethod yX0_barOf, .selects RX0 yX0_barOf yX0_barOf, .initialized RX0, .code yX0_barOf cX0_barOf 6 (some .int), .fieldLink RX0 15 "HubTree$Bus" "plan" "LHubTree$Plan;", .methodLink RX0 150 yX5_has, .instanceMethod yX5_has, .selects RX5 yX5_has yX5_has, .initialized RX5, .code yX5_has cX5_has 2 (some .boolean), .fieldLink RX5 18 "HubTree$Plan" "devices" "I", .methodLink RX0 147 yX0_barOfTicks, .instanceMethod yX0_barOfTicks, .selects RX0 yX0_barOfTicks yX0_barOfTicks, .code yX0_barOfTicks cX0_barOfTicks 2 (some .int), .methodLink RX0 163 yX5_isTold, .instanceMethod yX5_isTold, .selects RX5 yX5_isTold yX5_isTold, .code yX5_isTold cX5_isTold 1 (some .boolean), .methodLink RX9 231 yX9_isDone, .instanceMethod yX9_isDone, .selects RX9 yX9_isDone yX9_isDone, .code yX9_isDone cX9_isDone 2 (some .boolean), .fieldLink RX9 90 "HubTree" "refusals" "[I"] ++ wsX90 ++ wsX00 ++ wsX50)
set_option maxRecDepth 20000 in
theorem g_X9_plug_X9_attempt_227 : GoodIn wq_X9_plug (wsV RX9 227 RX9 yX9_attempt wq_X9_attempt) := goodIn_r _ [2, 3, 4, 5, 6, 7, 8, 9, 10, 11, 12, 13, 14, 15, 16, 17, 18, 19, 20, 21, 22, 23, 24, 25, 26, 47, 48, 49, 50, 51] (by decide +kernel) (by decide +kernel)
set_option maxRecDepth 20000 in
theorem g_X9_plug_X9_isDone_231 : GoodIn wq_X9_plug (wsV RX9 231 RX9 yX9_isDone wq_X9_isDone) := goodIn_r _ [27, 28, 29, 5, 30, 31, 32, 33, 34, 35, 36, 37, 38, 39, 40, 41, 42, 43, 44, 45, 46] (by decide +kernel) (by decide +kernel)
theorem iq_X9_plug_9 : ∀ w ∈ wsX90, w ∈ wq_X9_plug := fun _ h => List.mem_cons_of_mem _ (List.mem_append_left _ (List.mem_append_left _ (List.mem_append_right _ h)))
theorem iq_X9_plug_0 : ∀ w ∈ wsX00, w ∈ wq_X9_plug := fun _ h => List.mem_cons_of_mem _ (List.mem_append_left _ (List.mem_append_right _ h))
theorem iq_X9_plug_5 : ∀ w ∈ wsX50, w ∈ wq_X9_plug := fun _ h => List.mem_cons_of_mem _ (List.mem_append_right _ h)
set_option maxHeartbeats 4000000 in
set_option maxRecDepth 100000 in
theorem c_X9_plug (l : Launch) (dC : Nat → ClassId) (dI : Nat → Nat → Nat) (a : Nat → Nat) (k : Nat → ClassId) (z1 : Int32) (z2 : Int32) (z3 : Int32) (A : Nat → Prop) : Met l yX9_plug wq_X9_plug ({ frames := 4, cells := 0, slots := 0, locals := 94 }) (va_Pc [.ref (a 0), .int z1, .int z2, .int z3] (q_W (dC, dI) A [((a 0), .inr (9, [.ref (a 1), .ref (a 3), .ref (a 4), .ref (a 7), .ref (a 10), .ref (a 14), .ref (a 16), .ref (a 18), .ref (a 19), .ref (a 21), .ref (a 23), .ref (a 25), .ref (a 27), .ref (a 28), .int 0])), ((a 14), .inr (0, [.ref (a 15), .ref (a 7)])), ((a 7), .inr (5, [.ref (a 8), .ref (a 9), .int 0])), ((a 28), .inl ((k 28), 4, .inl (fun _ => 0)))] [((k 28), .int)])) (q_wi (-1) A) 0 0 A := by
  refine Met.ofW (cc := cX9_plug) (maxL := 4) (ret := (some .int)) (by decide) rfl ?_
  intro p e s m args below meth c s₁ B hml hv
  obtain ⟨rfl, hP, hK, hD, hA⟩ := hv
  have hx := B.exec
  have hb := B.bytes
  have hr := B.returns
  have hts := atoms_spec (ws := wq_X9_plug) B.pre
  have hown : s.vm.findClass RX9 = some m.cls := findClass_of_methodNamed B.named
  have hlocks := B.notSynchronized
  have hS : va_S A s.heap s.heap [] := va_S.rf
  have hl := lv_entry ([.ref (a 0), .int z1, .int z2, .int z3]) (n := 4) (Nat.le_of_ble_eq_true rfl)
  rw [lg_entry_eq]
  generalize (lg_sl ([.ref (a 0), .int z1, .int z2, .int z3]) ++ List.replicate (4 - (lg_sl ([.ref (a 0), .int z1, .int z2, .int z3])).length) Slot.unset).toArray = ls at hl ⊢
  have hl : lv_has ls 4 [(0, .ref (a 0)), (1, .int z1), (2, .int z2), (3, .int z3)] := hl
  refine lv_aload_n hx hb dX9_plug_0 rfl (lv_at hl 0 rfl) ?_
  refine lv_aload_n hx hb dX9_plug_1 rfl (lv_at hl 0 rfl) ?_
  refine lv_aload_n hx hb dX9_plug_2 rfl (lv_at hl 0 rfl) ?_
  refine va_get (D := (dC, dI)) (ci := 9) (v := .ref (a 14)) (C := RX9) (T := TX9) (N := 15) hx hb hts iq_X9_plug_9 hown hK hP 0 rfl rfl 5 (by decide) (hts (.fieldLink RX9 47 "HubTree" "now" "LHubTree$Bus;") (List.mem_of_getElem? (i := 1) rfl)) (fun _ h9 => h9) rfl dX9_plug_3 ?_
  refine lv_iconst (v := 1) hx hb dX9_plug_6 (by decide) ?_
  refine lv_iconst (v := 0) hx hb dX9_plug_7 (by decide) ?_
  refine lv_iload_n hx hb dX9_plug_8 rfl (lv_at hl 1 rfl) ?_
  refine lv_iload_n hx hb dX9_plug_9 rfl (lv_at hl 2 rfl) ?_
  refine lv_iload_n hx hb dX9_plug_10 rfl (lv_at hl 3 rfl) ?_
  refine q_goi (v := 0) (va_runV (As := [.ref (a 14), .int 1, .int 0, .int z1, .int z2, .int z3]) (rest := [.ref (a 0)]) ⟨hx, hb, hml, hown, hts⟩ (c_X9_attempt l dC dI a 1 0 z1 z2 z3) (cwV 6 hts g_X9_plug_X9_attempt_227 rfl rfl rfl (by decide +kernel) ⟨Nat.le_of_ble_eq_true rfl, Nat.le_of_ble_eq_true rfl⟩) (q_preV hK hP (ci := 9) (q0 := 0) rfl rfl [0, 1, 2] rfl [] rfl) rfl rfl hl.1 rfl (lv_room (Nat.le_of_ble_eq_true rfl)) dX9_plug_11 ⟨Nat.le_of_ble_eq_true rfl, Nat.le_of_ble_eq_true rfl⟩) hP hS (fun H locs hP hS => ?_)
  refine q_goiF (v := 0) (wr := [((a 14), .inr (0, [.ref (a 15), .ref (a 7)])), ((a 7), .inr (5, [.ref (a 8), .ref (a 9), .int 0]))]) (va_runV (As := [.int 0]) (rest := []) ⟨hx, hb, hml, hown, hts⟩ (c_X9_isDone l dC dI a k (va_A [((a 0), .inr (9, [.ref (a 1), .ref (a 3), .ref (a 4), .ref (a 7), .ref (a 10), .ref (a 14), .ref (a 16), .ref (a 18), .ref (a 19), .ref (a 21), .ref (a 23), .ref (a 25), .ref (a 27), .ref (a 28), .int 0])), ((a 28), .inl ((k 28), 4, .inl (fun _ => 0)))] H.size)) (cwV 1 hts g_X9_plug_X9_isDone_231 rfl rfl rfl (by decide +kernel) ⟨Nat.le_of_ble_eq_true rfl, Nat.le_of_ble_eq_true rfl⟩) (q_preWV hK hP hD (ci := 9) (q0 := 0) rfl rfl [0, 3] (by decide) rfl rfl [0] rfl) rfl rfl hl.1 rfl (lv_room (Nat.le_of_ble_eq_true rfl)) dX9_plug_14 ⟨Nat.le_of_ble_eq_true rfl, Nat.le_of_ble_eq_true rfl⟩) hP hD hS hA [0, 3] [1, 2] rfl rfl (by decide) (by decide) (fun H locs hP hD hS => ?_)
  have hP : va_P (dC, dI) vwCl [((a 14), .inr (0, [.ref (a 15), .ref (a 7)])), ((a 7), .inr (5, [.ref (a 8), .ref (a 9), .int 0]))] H := hP
  have hD : va_D A [((a 14), .inr (0, [.ref (a 15), .ref (a 7)])), ((a 7), .inr (5, [.ref (a 8), .ref (a 9), .int 0]))] := hD
  refine lv_if_eq (tgt := 31) hx hb dX9_plug_17 (by decide) (fun c_1 => ?_) (fun c_1 => ?_)
  · skip
    refine lv_iconst (v := (-1)) hx hb dX9_plug_31 (by decide) ?_
    exact W.iret (v := (-1)) hx hb hr (fun t ht hW => ⟨⟨(-1), (), rfl, rfl, trivial⟩, hS.F ht⟩) hS.2.2 dX9_plug_32
  · exact absurd (by decide) c_1

def wq_X9_unplug : List Cond := .code yX9_unplug cX9_unplug 3 (some .int) :: ([.fieldLink RX9 47 "HubTree" "now" "LHubTree$Bus;", .methodLink RX9 234 yX0_allThatAre, .instanceMethod yX0_allThatAre, .selects RX0 yX0_allThatAre yX0_allThatAre, .initialized RX0, .code yX0_allThatAre cX0_allThatAre 4 (some .int), .fieldLink RX0 15 "HubTree$Bus" "plan" "LHubTree$Plan;", .fieldLink RX0 25 "HubTree$Plan" "devices" "I", .methodLink RX9 210 yJ6_bitCount_0f7a4, .static yJ6_bitCount_0f7a4, .initialized RJ6, .code yJ6_bitCount_0f7a4 cJ6_bitCount_0f7a4 1 (some .int), .constant RJ6 265 (1431655765), .constant RJ6 266 (858993459), .constant RJ6 267 (252645135), .methodLink RX9 227 yX9_attempt, .instanceMethod yX9_attempt, .selects RX9 yX9_attempt yX9_attempt, .initialized RX9, .code yX9_attempt cX9_attempt 9 (some .int), .methodLink RX9 319 yX0_barOf, .instanceMethod yX0_barOf, .selects RX0 yX0_barOf yX0_barOf, .code yX0_barOf cX0_barOf 6 (some .int), .methodLink RX0 150 yX5_has, .instanceMethod yX5_has, .selects RX5 yX5_has yX5_has, .initialized RX5, .code yX5_has cX5_has 2 (some .boolean), .fieldLink RX5 18 "HubTree$Plan" "devices" "I", .methodLink RX0 147 yX0_barOfTicks, .instanceMethod yX0_barOfTicks, .selects RX0 yX0_barOfTicks yX0_barOfTicks, .code yX0_barOfTicks cX0_barOfTicks 2 (some .int), .methodLink RX0 163 yX5_isTold, .instanceMethod yX5_isTold, .selects RX5 yX5_isTold yX5_isTold, .code yX5_isTold cX5_isTold 1 (some .boolean), .methodLink RX9 231 yX9_isDone, .instanceMethod yX9_isDone, .selects RX9 yX9_isDone yX9_isDone, .code yX9_isDone cX9_isDone 2 (some .boolean), .fieldLink RX9 90 "HubTree" "refusals" "[I"] ++ wsX90 ++ wsX00 ++ wsX50)
set_option maxRecDepth 20000 in
theorem g_X9_unplug_X0_allThatAre_234 : GoodIn wq_X9_unplug (wsV RX9 234 RX0 yX0_allThatAre wq_X0_allThatAre) := goodIn_r _ [2, 3, 4, 5, 6, 7, 8, 59, 60, 61, 62, 63] (by decide +kernel) (by decide +kernel)
set_option maxRecDepth 20000 in
theorem g_X9_unplug_J6_bitCount_0f7a4_210 : GoodIn wq_X9_unplug (va_wsS RX9 210 yJ6_bitCount_0f7a4 wq_J6_bitCount_0f7a4) := goodIn_r _ [9, 10, 11, 12, 13, 14, 15] (by decide +kernel) (by decide +kernel)
set_option maxRecDepth 20000 in
theorem g_X9_unplug_X9_attempt_227 : GoodIn wq_X9_unplug (wsV RX9 227 RX9 yX9_attempt wq_X9_attempt) := goodIn_r _ [16, 17, 18, 19, 20, 21, 22, 23, 5, 24, 7, 25, 26, 27, 28, 29, 30, 31, 32, 33, 34, 35, 36, 37, 38, 59, 60, 61, 62, 63] (by decide +kernel) (by decide +kernel)
set_option maxRecDepth 20000 in
theorem g_X9_unplug_X9_isDone_231 : GoodIn wq_X9_unplug (wsV RX9 231 RX9 yX9_isDone wq_X9_isDone) := goodIn_r _ [39, 40, 41, 19, 42, 43, 44, 45, 46, 47, 48, 49, 50, 51, 52, 53, 54, 55, 56, 57, 58] (by decide +kernel) (by decide +kernel)
theorem iq_X9_unplug_9 : ∀ w ∈ wsX90, w ∈ wq_X9_unplug := fun _ h => List.mem_cons_of_mem _ (List.mem_append_left _ (List.mem_append_left _ (List.mem_append_right _ h)))
theorem iq_X9_unplug_0 : ∀ w ∈ wsX00, w ∈ wq_X9_unplug := fun _ h => List.mem_cons_of_mem _ (List.mem_append_left _ (List.mem_append_right _ h))
theorem iq_X9_unplug_5 : ∀ w ∈ wsX50, w ∈ wq_X9_unplug := fun _ h => List.mem_cons_of_mem _ (List.mem_append_right _ h)
set_option maxHeartbeats 4000000 in
set_option maxRecDepth 100000 in
theorem c_X9_unplug (l : Launch) (dC : Nat → ClassId) (dI : Nat → Nat → Nat) (a : Nat → Nat) (k : Nat → ClassId) (z1 : Int32) (A : Nat → Prop) : Met l yX9_unplug wq_X9_unplug ({ frames := 4, cells := 0, slots := 0, locals := 94 }) (va_Pc [.ref (a 0), .int z1] (q_W (dC, dI) A [((a 0), .inr (9, [.ref (a 1), .ref (a 3), .ref (a 4), .ref (a 7), .ref (a 10), .ref (a 14), .ref (a 16), .ref (a 18), .ref (a 19), .ref (a 21), .ref (a 23), .ref (a 25), .ref (a 27), .ref (a 28), .int 0])), ((a 14), .inr (0, [.ref (a 15), .ref (a 7)])), ((a 7), .inr (5, [.ref (a 8), .ref (a 9), .int 0])), ((a 28), .inl ((k 28), 4, .inl (fun _ => 0)))] [((k 28), .int)])) (q_wi (-1) A) 0 0 A := by
  refine Met.ofW (cc := cX9_unplug) (maxL := 3) (ret := (some .int)) (by decide) rfl ?_
  intro p e s m args below meth c s₁ B hml hv
  obtain ⟨rfl, hP, hK, hD, hA⟩ := hv
  have hx := B.exec
  have hb := B.bytes
  have hr := B.returns
  have hts := atoms_spec (ws := wq_X9_unplug) B.pre
  have hown : s.vm.findClass RX9 = some m.cls := findClass_of_methodNamed B.named
  have hlocks := B.notSynchronized
  have hS : va_S A s.heap s.heap [] := va_S.rf
  have hl := lv_entry ([.ref (a 0), .int z1]) (n := 3) (Nat.le_of_ble_eq_true rfl)
  rw [lg_entry_eq]
  generalize (lg_sl ([.ref (a 0), .int z1]) ++ List.replicate (3 - (lg_sl ([.ref (a 0), .int z1])).length) Slot.unset).toArray = ls at hl ⊢
  have hl : lv_has ls 3 [(0, .ref (a 0)), (1, .int z1)] := hl
  refine lv_aload_n hx hb dX9_unplug_0 rfl (lv_at hl 0 rfl) ?_
  refine va_get (D := (dC, dI)) (ci := 9) (v := .ref (a 14)) (C := RX9) (T := TX9) (N := 15) hx hb hts iq_X9_unplug_9 hown hK hP 0 rfl rfl 5 (by decide) (hts (.fieldLink RX9 47 "HubTree" "now" "LHubTree$Bus;") (List.mem_of_getElem? (i := 1) rfl)) (fun _ h9 => h9) rfl dX9_unplug_1 ?_
  refine lv_iconst (v := 0) hx hb dX9_unplug_4 (by decide) ?_
  refine q_goi (v := 0) (va_runV (As := [.int 0]) (rest := []) ⟨hx, hb, hml, hown, hts⟩ (c_X0_allThatAre l dC dI (a 14) (a 15) (a 7) (a 8) (a 9) 0) (cwV 1 hts g_X9_unplug_X0_allThatAre_234 rfl rfl rfl (by decide +kernel) ⟨Nat.le_of_ble_eq_true rfl, Nat.le_of_ble_eq_true rfl⟩) (q_preV hK hP (ci := 0) (q0 := 1) rfl rfl [1, 2] rfl [] rfl) rfl rfl hl.1 rfl (lv_room (Nat.le_of_ble_eq_true rfl)) dX9_unplug_5 ⟨Nat.le_of_ble_eq_true rfl, Nat.le_of_ble_eq_true rfl⟩) hP hS (fun H locs hP hS => ?_)
  refine q_goi (v := 0) (va_runS (As := [.int 0]) (rest := []) ⟨hx, hb, hml, hown, hts⟩ (c_J6_bitCount_0f7a4 l dC dI) (va_cwS 1 hts g_X9_unplug_J6_bitCount_0f7a4_210 rfl rfl rfl (by decide +kernel) ⟨Nat.le_of_ble_eq_true rfl, Nat.le_of_ble_eq_true rfl⟩) (q_preS hK hP [] rfl [] rfl) rfl rfl hl.1 rfl (lv_room (Nat.le_of_ble_eq_true rfl)) dX9_unplug_8 ⟨Nat.le_of_ble_eq_true rfl, Nat.le_of_ble_eq_true rfl⟩) hP hS (fun H locs hP hS => ?_)
  refine lv_istore_n (lv' := [(2, .int 0), (0, .ref (a 0)), (1, .int z1)]) hx hb dX9_unplug_11 rfl hl (by decide) rfl (fun ls hl => ?_)
  refine lv_aload_n hx hb dX9_unplug_12 rfl (lv_at hl 1 rfl) ?_
  refine lv_aload_n hx hb dX9_unplug_13 rfl (lv_at hl 1 rfl) ?_
  refine lv_aload_n hx hb dX9_unplug_14 rfl (lv_at hl 1 rfl) ?_
  refine va_get (D := (dC, dI)) (ci := 9) (v := .ref (a 14)) (C := RX9) (T := TX9) (N := 15) hx hb hts iq_X9_unplug_9 hown hK hP 0 rfl rfl 5 (by decide) (hts (.fieldLink RX9 47 "HubTree" "now" "LHubTree$Bus;") (List.mem_of_getElem? (i := 1) rfl)) (fun _ h9 => h9) rfl dX9_unplug_15 ?_
  refine lv_iconst (v := 1) hx hb dX9_unplug_18 (by decide) ?_
  refine lv_iconst (v := 1) hx hb dX9_unplug_19 (by decide) ?_
  refine lv_iload_n hx hb dX9_unplug_20 rfl (lv_at hl 2 rfl) ?_
  refine lv_iconst (v := (-1)) hx hb dX9_unplug_21 (by decide) ?_
  refine lv_iconst (v := (-1)) hx hb dX9_unplug_22 (by decide) ?_
  refine q_goi (v := 0) (va_runV (As := [.ref (a 14), .int 1, .int 1, .int z1, .int (-1), .int (-1)]) (rest := [.ref (a 0)]) ⟨hx, hb, hml, hown, hts⟩ (c_X9_attempt l dC dI a 1 1 z1 (-1) (-1)) (cwV 6 hts g_X9_unplug_X9_attempt_227 rfl rfl rfl (by decide +kernel) ⟨Nat.le_of_ble_eq_true rfl, Nat.le_of_ble_eq_true rfl⟩) (q_preV hK hP (ci := 9) (q0 := 0) rfl rfl [0, 1, 2] rfl [] rfl) rfl rfl hl.1 rfl (lv_room (Nat.le_of_ble_eq_true rfl)) dX9_unplug_23 ⟨Nat.le_of_ble_eq_true rfl, Nat.le_of_ble_eq_true rfl⟩) hP hS (fun H locs hP hS => ?_)
  refine q_goiF (v := 0) (wr := [((a 14), .inr (0, [.ref (a 15), .ref (a 7)])), ((a 7), .inr (5, [.ref (a 8), .ref (a 9), .int 0]))]) (va_runV (As := [.int 0]) (rest := []) ⟨hx, hb, hml, hown, hts⟩ (c_X9_isDone l dC dI a k (va_A [((a 0), .inr (9, [.ref (a 1), .ref (a 3), .ref (a 4), .ref (a 7), .ref (a 10), .ref (a 14), .ref (a 16), .ref (a 18), .ref (a 19), .ref (a 21), .ref (a 23), .ref (a 25), .ref (a 27), .ref (a 28), .int 0])), ((a 28), .inl ((k 28), 4, .inl (fun _ => 0)))] H.size)) (cwV 1 hts g_X9_unplug_X9_isDone_231 rfl rfl rfl (by decide +kernel) ⟨Nat.le_of_ble_eq_true rfl, Nat.le_of_ble_eq_true rfl⟩) (q_preWV hK hP hD (ci := 9) (q0 := 0) rfl rfl [0, 3] (by decide) rfl rfl [0] rfl) rfl rfl hl.1 rfl (lv_room (Nat.le_of_ble_eq_true rfl)) dX9_unplug_26 ⟨Nat.le_of_ble_eq_true rfl, Nat.le_of_ble_eq_true rfl⟩) hP hD hS hA [0, 3] [1, 2] rfl rfl (by decide) (by decide) (fun H locs hP hD hS => ?_)
  have hP : va_P (dC, dI) vwCl [((a 14), .inr (0, [.ref (a 15), .ref (a 7)])), ((a 7), .inr (5, [.ref (a 8), .ref (a 9), .int 0]))] H := hP
  have hD : va_D A [((a 14), .inr (0, [.ref (a 15), .ref (a 7)])), ((a 7), .inr (5, [.ref (a 8), .ref (a 9), .int 0]))] := hD
  refine lv_if_ne (tgt := 34) hx hb dX9_unplug_29 (by decide) (fun c_1 => ?_) (fun c_1 => ?_)
  · exact absurd (by decide) c_1
  refine lv_iconst (v := (-1)) hx hb dX9_unplug_32 (by decide) ?_
  exact W.iret (v := (-1)) hx hb hr (fun t ht hW => ⟨⟨(-1), (), rfl, rfl, trivial⟩, hS.F ht⟩) hS.2.2 dX9_unplug_33

def wq_X9_tick : List Cond := .code yX9_tick cX9_tick 2 (some .int) :: ([.fieldLink RX9 47 "HubTree" "now" "LHubTree$Bus;", .methodLink RX9 227 yX9_attempt, .instanceMethod yX9_attempt, .selects RX9 yX9_attempt yX9_attempt, .initialized RX9, .code yX9_attempt cX9_attempt 9 (some .int), .methodLink RX9 319 yX0_barOf, .instanceMethod yX0_barOf, .selects RX0 yX0_barOf yX0_barOf, .initialized RX0, .code yX0_barOf cX0_barOf 6 (some .int), .fieldLink RX0 15 "HubTree$Bus" "plan" "LHubTree$Plan;", .methodLink RX0 150 yX5_has, .instanceMethod yX5_has, .selects RX5 yX5_has yX5_has, .initialized RX5, .code yX5_has cX5_has 2 (some .boolean), .fieldLink RX5 18 "HubTree$Plan" "devices" "I", .methodLink RX0 147 yX0_barOfTicks, .instanceMethod yX0_barOfTicks, .selects RX0 yX0_barOfTicks yX0_barOfTicks, .code yX0_barOfTicks cX0_barOfTicks 2 (some .int), .methodLink RX0 163 yX5_isTold, .instanceMethod yX5_isTold, .selects RX5 yX5_isTold yX5_isTold, .code yX5_isTold cX5_isTold 1 (some .boolean), .methodLink RX9 231 yX9_isDone, .instanceMethod yX9_isDone, .selects RX9 yX9_isDone yX9_isDone, .code yX9_isDone cX9_isDone 2 (some .boolean), .fieldLink RX9 90 "HubTree" "refusals" "[I"] ++ wsX90 ++ wsX00 ++ wsX50)
set_option maxRecDepth 20000 in
theorem g_X9_tick_X9_attempt_227 : GoodIn wq_X9_tick (wsV RX9 227 RX9 yX9_attempt wq_X9_attempt) := goodIn_r _ [2, 3, 4, 5, 6, 7, 8, 9, 10, 11, 12, 13, 14, 15, 16, 17, 18, 19, 20, 21, 22, 23, 24, 25, 26, 47, 48, 49, 50, 51] (by decide +kernel) (by decide +kernel)
set_option maxRecDepth 20000 in
theorem g_X9_tick_X9_isDone_231 : GoodIn wq_X9_tick (wsV RX9 231 RX9 yX9_isDone wq_X9_isDone) := goodIn_r _ [27, 28, 29, 5, 30, 31, 32, 33, 34, 35, 36, 37, 38, 39, 40, 41, 42, 43, 44, 45, 46] (by decide +kernel) (by decide +kernel)
theorem iq_X9_tick_9 : ∀ w ∈ wsX90, w ∈ wq_X9_tick := fun _ h => List.mem_cons_of_mem _ (List.mem_append_left _ (List.mem_append_left _ (List.mem_append_right _ h)))
theorem iq_X9_tick_0 : ∀ w ∈ wsX00, w ∈ wq_X9_tick := fun _ h => List.mem_cons_of_mem _ (List.mem_append_left _ (List.mem_append_right _ h))
theorem iq_X9_tick_5 : ∀ w ∈ wsX50, w ∈ wq_X9_tick := fun _ h => List.mem_cons_of_mem _ (List.mem_append_right _ h)
set_option maxHeartbeats 4000000 in
set_option maxRecDepth 100000 in
theorem c_X9_tick (l : Launch) (dC : Nat → ClassId) (dI : Nat → Nat → Nat) (a : Nat → Nat) (k : Nat → ClassId) (z1 : Int32) (A : Nat → Prop) : Met l yX9_tick wq_X9_tick ({ frames := 4, cells := 0, slots := 0, locals := 94 }) (va_Pc [.ref (a 0), .int z1] (q_W (dC, dI) A [((a 0), .inr (9, [.ref (a 1), .ref (a 3), .ref (a 4), .ref (a 7), .ref (a 10), .ref (a 14), .ref (a 16), .ref (a 18), .ref (a 19), .ref (a 21), .ref (a 23), .ref (a 25), .ref (a 27), .ref (a 28), .int 0])), ((a 14), .inr (0, [.ref (a 15), .ref (a 7)])), ((a 7), .inr (5, [.ref (a 8), .ref (a 9), .int 0])), ((a 28), .inl ((k 28), 4, .inl (fun _ => 0)))] [((k 28), .int)])) (q_wi (-1) A) 0 0 A := by
  refine Met.ofW (cc := cX9_tick) (maxL := 2) (ret := (some .int)) (by decide) rfl ?_
  intro p e s m args below meth c s₁ B hml hv
  obtain ⟨rfl, hP, hK, hD, hA⟩ := hv
  have hx := B.exec
  have hb := B.bytes
  have hr := B.returns
  have hts := atoms_spec (ws := wq_X9_tick) B.pre
  have hown : s.vm.findClass RX9 = some m.cls := findClass_of_methodNamed B.named
  have hlocks := B.notSynchronized
  have hS : va_S A s.heap s.heap [] := va_S.rf
  have hl := lv_entry ([.ref (a 0), .int z1]) (n := 2) (Nat.le_of_ble_eq_true rfl)
  rw [lg_entry_eq]
  generalize (lg_sl ([.ref (a 0), .int z1]) ++ List.replicate (2 - (lg_sl ([.ref (a 0), .int z1])).length) Slot.unset).toArray = ls at hl ⊢
  have hl : lv_has ls 2 [(0, .ref (a 0)), (1, .int z1)] := hl
  refine lv_aload_n hx hb dX9_tick_0 rfl (lv_at hl 0 rfl) ?_
  refine lv_aload_n hx hb dX9_tick_1 rfl (lv_at hl 0 rfl) ?_
  refine lv_aload_n hx hb dX9_tick_2 rfl (lv_at hl 0 rfl) ?_
  refine va_get (D := (dC, dI)) (ci := 9) (v := .ref (a 14)) (C := RX9) (T := TX9) (N := 15) hx hb hts iq_X9_tick_9 hown hK hP 0 rfl rfl 5 (by decide) (hts (.fieldLink RX9 47 "HubTree" "now" "LHubTree$Bus;") (List.mem_of_getElem? (i := 1) rfl)) (fun _ h9 => h9) rfl dX9_tick_3 ?_
  refine lv_iconst (v := 1) hx hb dX9_tick_6 (by decide) ?_
  refine lv_iconst (v := 2) hx hb dX9_tick_7 (by decide) ?_
  refine lv_iload_n hx hb dX9_tick_8 rfl (lv_at hl 1 rfl) ?_
  refine lv_iconst (v := (-1)) hx hb dX9_tick_9 (by decide) ?_
  refine lv_iconst (v := (-1)) hx hb dX9_tick_10 (by decide) ?_
  refine q_goi (v := 0) (va_runV (As := [.ref (a 14), .int 1, .int 2, .int z1, .int (-1), .int (-1)]) (rest := [.ref (a 0)]) ⟨hx, hb, hml, hown, hts⟩ (c_X9_attempt l dC dI a 1 2 z1 (-1) (-1)) (cwV 6 hts g_X9_tick_X9_attempt_227 rfl rfl rfl (by decide +kernel) ⟨Nat.le_of_ble_eq_true rfl, Nat.le_of_ble_eq_true rfl⟩) (q_preV hK hP (ci := 9) (q0 := 0) rfl rfl [0, 1, 2] rfl [] rfl) rfl rfl hl.1 rfl (lv_room (Nat.le_of_ble_eq_true rfl)) dX9_tick_11 ⟨Nat.le_of_ble_eq_true rfl, Nat.le_of_ble_eq_true rfl⟩) hP hS (fun H locs hP hS => ?_)
  refine q_goiF (v := 0) (wr := [((a 14), .inr (0, [.ref (a 15), .ref (a 7)])), ((a 7), .inr (5, [.ref (a 8), .ref (a 9), .int 0]))]) (va_runV (As := [.int 0]) (rest := []) ⟨hx, hb, hml, hown, hts⟩ (c_X9_isDone l dC dI a k (va_A [((a 0), .inr (9, [.ref (a 1), .ref (a 3), .ref (a 4), .ref (a 7), .ref (a 10), .ref (a 14), .ref (a 16), .ref (a 18), .ref (a 19), .ref (a 21), .ref (a 23), .ref (a 25), .ref (a 27), .ref (a 28), .int 0])), ((a 28), .inl ((k 28), 4, .inl (fun _ => 0)))] H.size)) (cwV 1 hts g_X9_tick_X9_isDone_231 rfl rfl rfl (by decide +kernel) ⟨Nat.le_of_ble_eq_true rfl, Nat.le_of_ble_eq_true rfl⟩) (q_preWV hK hP hD (ci := 9) (q0 := 0) rfl rfl [0, 3] (by decide) rfl rfl [0] rfl) rfl rfl hl.1 rfl (lv_room (Nat.le_of_ble_eq_true rfl)) dX9_tick_14 ⟨Nat.le_of_ble_eq_true rfl, Nat.le_of_ble_eq_true rfl⟩) hP hD hS hA [0, 3] [1, 2] rfl rfl (by decide) (by decide) (fun H locs hP hD hS => ?_)
  have hP : va_P (dC, dI) vwCl [((a 14), .inr (0, [.ref (a 15), .ref (a 7)])), ((a 7), .inr (5, [.ref (a 8), .ref (a 9), .int 0]))] H := hP
  have hD : va_D A [((a 14), .inr (0, [.ref (a 15), .ref (a 7)])), ((a 7), .inr (5, [.ref (a 8), .ref (a 9), .int 0]))] := hD
  refine lv_if_eq (tgt := 30) hx hb dX9_tick_17 (by decide) (fun c_1 => ?_) (fun c_1 => ?_)
  · skip
    refine lv_iconst (v := (-1)) hx hb dX9_tick_30 (by decide) ?_
    exact W.iret (v := (-1)) hx hb hr (fun t ht hW => ⟨⟨(-1), (), rfl, rfl, trivial⟩, hS.F ht⟩) hS.2.2 dX9_tick_31
  · exact absurd (by decide) c_1

def wq_X9_supply : List Cond := .code yX9_supply cX9_supply 3 (some .int) :: ([.fieldLink RX9 47 "HubTree" "now" "LHubTree$Bus;", .methodLink RX9 227 yX9_attempt, .instanceMethod yX9_attempt, .selects RX9 yX9_attempt yX9_attempt, .initialized RX9, .code yX9_attempt cX9_attempt 9 (some .int), .methodLink RX9 319 yX0_barOf, .instanceMethod yX0_barOf, .selects RX0 yX0_barOf yX0_barOf, .initialized RX0, .code yX0_barOf cX0_barOf 6 (some .int), .fieldLink RX0 15 "HubTree$Bus" "plan" "LHubTree$Plan;", .methodLink RX0 150 yX5_has, .instanceMethod yX5_has, .selects RX5 yX5_has yX5_has, .initialized RX5, .code yX5_has cX5_has 2 (some .boolean), .fieldLink RX5 18 "HubTree$Plan" "devices" "I", .methodLink RX0 147 yX0_barOfTicks, .instanceMethod yX0_barOfTicks, .selects RX0 yX0_barOfTicks yX0_barOfTicks, .code yX0_barOfTicks cX0_barOfTicks 2 (some .int), .methodLink RX0 163 yX5_isTold, .instanceMethod yX5_isTold, .selects RX5 yX5_isTold yX5_isTold, .code yX5_isTold cX5_isTold 1 (some .boolean), .methodLink RX9 231 yX9_isDone, .instanceMethod yX9_isDone, .selects RX9 yX9_isDone yX9_isDone, .code yX9_isDone cX9_isDone 2 (some .boolean), .fieldLink RX9 90 "HubTree" "refusals" "[I"] ++ wsX90 ++ wsX00 ++ wsX50)
set_option maxRecDepth 20000 in
theorem g_X9_supply_X9_attempt_227 : GoodIn wq_X9_supply (wsV RX9 227 RX9 yX9_attempt wq_X9_attempt) := goodIn_r _ [2, 3, 4, 5, 6, 7, 8, 9, 10, 11, 12, 13, 14, 15, 16, 17, 18, 19, 20, 21, 22, 23, 24, 25, 26, 47, 48, 49, 50, 51] (by decide +kernel) (by decide +kernel)
set_option maxRecDepth 20000 in
theorem g_X9_supply_X9_isDone_231 : GoodIn wq_X9_supply (wsV RX9 231 RX9 yX9_isDone wq_X9_isDone) := goodIn_r _ [27, 28, 29, 5, 30, 31, 32, 33, 34, 35, 36, 37, 38, 39, 40, 41, 42, 43, 44, 45, 46] (by decide +kernel) (by decide +kernel)
theorem iq_X9_supply_9 : ∀ w ∈ wsX90, w ∈ wq_X9_supply := fun _ h => List.mem_cons_of_mem _ (List.mem_append_left _ (List.mem_append_left _ (List.mem_append_right _ h)))
theorem iq_X9_supply_0 : ∀ w ∈ wsX00, w ∈ wq_X9_supply := fun _ h => List.mem_cons_of_mem _ (List.mem_append_left _ (List.mem_append_right _ h))
theorem iq_X9_supply_5 : ∀ w ∈ wsX50, w ∈ wq_X9_supply := fun _ h => List.mem_cons_of_mem _ (List.mem_append_right _ h)
set_option maxHeartbeats 4000000 in
set_option maxRecDepth 100000 in
theorem c_X9_supply (l : Launch) (dC : Nat → ClassId) (dI : Nat → Nat → Nat) (a : Nat → Nat) (k : Nat → ClassId) (z1 : Int32) (A : Nat → Prop) : Met l yX9_supply wq_X9_supply ({ frames := 4, cells := 0, slots := 0, locals := 94 }) (va_Pc [.ref (a 0), .int z1] (q_W (dC, dI) A [((a 0), .inr (9, [.ref (a 1), .ref (a 3), .ref (a 4), .ref (a 7), .ref (a 10), .ref (a 14), .ref (a 16), .ref (a 18), .ref (a 19), .ref (a 21), .ref (a 23), .ref (a 25), .ref (a 27), .ref (a 28), .int 0])), ((a 14), .inr (0, [.ref (a 15), .ref (a 7)])), ((a 7), .inr (5, [.ref (a 8), .ref (a 9), .int 0])), ((a 28), .inl ((k 28), 4, .inl (fun _ => 0)))] [((k 28), .int)])) (q_wi (-1) A) 0 0 A := by
  refine Met.ofW (cc := cX9_supply) (maxL := 3) (ret := (some .int)) (by decide) rfl ?_
  intro p e s m args below meth c s₁ B hml hv
  obtain ⟨rfl, hP, hK, hD, hA⟩ := hv
  have hx := B.exec
  have hb := B.bytes
  have hr := B.returns
  have hts := atoms_spec (ws := wq_X9_supply) B.pre
  have hown : s.vm.findClass RX9 = some m.cls := findClass_of_methodNamed B.named
  have hlocks := B.notSynchronized
  have hS : va_S A s.heap s.heap [] := va_S.rf
  have hl := lv_entry ([.ref (a 0), .int z1]) (n := 3) (Nat.le_of_ble_eq_true rfl)
  rw [lg_entry_eq]
  generalize (lg_sl ([.ref (a 0), .int z1]) ++ List.replicate (3 - (lg_sl ([.ref (a 0), .int z1])).length) Slot.unset).toArray = ls at hl ⊢
  have hl : lv_has ls 3 [(0, .ref (a 0)), (1, .int z1)] := hl
  refine lv_aload_n hx hb dX9_supply_0 rfl (lv_at hl 0 rfl) ?_
  refine lv_aload_n hx hb dX9_supply_1 rfl (lv_at hl 0 rfl) ?_
  refine lv_aload_n hx hb dX9_supply_2 rfl (lv_at hl 0 rfl) ?_
  refine va_get (D := (dC, dI)) (ci := 9) (v := .ref (a 14)) (C := RX9) (T := TX9) (N := 15) hx hb hts iq_X9_supply_9 hown hK hP 0 rfl rfl 5 (by decide) (hts (.fieldLink RX9 47 "HubTree" "now" "LHubTree$Bus;") (List.mem_of_getElem? (i := 1) rfl)) (fun _ h9 => h9) rfl dX9_supply_3 ?_
  refine lv_iconst (v := 1) hx hb dX9_supply_6 (by decide) ?_
  refine lv_iconst (v := 3) hx hb dX9_supply_7 (by decide) ?_
  refine lv_iload_n hx hb dX9_supply_8 rfl (lv_at hl 1 rfl) ?_
  refine lv_iconst (v := (-1)) hx hb dX9_supply_9 (by decide) ?_
  refine lv_iconst (v := (-1)) hx hb dX9_supply_10 (by decide) ?_
  refine q_goi (v := 0) (va_runV (As := [.ref (a 14), .int 1, .int 3, .int z1, .int (-1), .int (-1)]) (rest := [.ref (a 0)]) ⟨hx, hb, hml, hown, hts⟩ (c_X9_attempt l dC dI a 1 3 z1 (-1) (-1)) (cwV 6 hts g_X9_supply_X9_attempt_227 rfl rfl rfl (by decide +kernel) ⟨Nat.le_of_ble_eq_true rfl, Nat.le_of_ble_eq_true rfl⟩) (q_preV hK hP (ci := 9) (q0 := 0) rfl rfl [0, 1, 2] rfl [] rfl) rfl rfl hl.1 rfl (lv_room (Nat.le_of_ble_eq_true rfl)) dX9_supply_11 ⟨Nat.le_of_ble_eq_true rfl, Nat.le_of_ble_eq_true rfl⟩) hP hS (fun H locs hP hS => ?_)
  refine q_goiF (v := 0) (wr := [((a 14), .inr (0, [.ref (a 15), .ref (a 7)])), ((a 7), .inr (5, [.ref (a 8), .ref (a 9), .int 0]))]) (va_runV (As := [.int 0]) (rest := []) ⟨hx, hb, hml, hown, hts⟩ (c_X9_isDone l dC dI a k (va_A [((a 0), .inr (9, [.ref (a 1), .ref (a 3), .ref (a 4), .ref (a 7), .ref (a 10), .ref (a 14), .ref (a 16), .ref (a 18), .ref (a 19), .ref (a 21), .ref (a 23), .ref (a 25), .ref (a 27), .ref (a 28), .int 0])), ((a 28), .inl ((k 28), 4, .inl (fun _ => 0)))] H.size)) (cwV 1 hts g_X9_supply_X9_isDone_231 rfl rfl rfl (by decide +kernel) ⟨Nat.le_of_ble_eq_true rfl, Nat.le_of_ble_eq_true rfl⟩) (q_preWV hK hP hD (ci := 9) (q0 := 0) rfl rfl [0, 3] (by decide) rfl rfl [0] rfl) rfl rfl hl.1 rfl (lv_room (Nat.le_of_ble_eq_true rfl)) dX9_supply_14 ⟨Nat.le_of_ble_eq_true rfl, Nat.le_of_ble_eq_true rfl⟩) hP hD hS hA [0, 3] [1, 2] rfl rfl (by decide) (by decide) (fun H locs hP hD hS => ?_)
  have hP : va_P (dC, dI) vwCl [((a 14), .inr (0, [.ref (a 15), .ref (a 7)])), ((a 7), .inr (5, [.ref (a 8), .ref (a 9), .int 0]))] H := hP
  have hD : va_D A [((a 14), .inr (0, [.ref (a 15), .ref (a 7)])), ((a 7), .inr (5, [.ref (a 8), .ref (a 9), .int 0]))] := hD
  refine lv_istore_n (lv' := [(2, .int 0), (0, .ref (a 0)), (1, .int z1)]) hx hb dX9_supply_17 rfl hl (by decide) rfl (fun ls hl => ?_)
  refine lv_iload_n hx hb dX9_supply_18 rfl (lv_at hl 0 rfl) ?_
  refine lv_if_eq (tgt := 48) hx hb dX9_supply_19 (by decide) (fun c_1 => ?_) (fun c_1 => ?_)
  · skip
    refine lv_iconst (v := (-1)) hx hb dX9_supply_48 (by decide) ?_
    exact W.iret (v := (-1)) hx hb hr (fun t ht hW => ⟨⟨(-1), (), rfl, rfl, trivial⟩, hS.F ht⟩) hS.2.2 dX9_supply_49
  · exact absurd (by decide) c_1

def wq_X9_error : List Cond := .code yX9_error cX9_error 4 (some .int) :: ([.fieldLink RX9 32 "HubTree" "plan" "LHubTree$Plan;", .methodLink RX9 153 yX5_has, .instanceMethod yX5_has, .selects RX5 yX5_has yX5_has, .initialized RX5, .code yX5_has cX5_has 2 (some .boolean), .fieldLink RX5 18 "HubTree$Plan" "devices" "I", .fieldLink RX9 47 "HubTree" "now" "LHubTree$Bus;", .methodLink RX9 227 yX9_attempt, .instanceMethod yX9_attempt, .selects RX9 yX9_attempt yX9_attempt, .initialized RX9, .code yX9_attempt cX9_attempt 9 (some .int), .methodLink RX9 319 yX0_barOf, .instanceMethod yX0_barOf, .selects RX0 yX0_barOf yX0_barOf, .initialized RX0, .code yX0_barOf cX0_barOf 6 (some .int), .fieldLink RX0 15 "HubTree$Bus" "plan" "LHubTree$Plan;", .methodLink RX0 150 yX5_has, .methodLink RX0 147 yX0_barOfTicks, .instanceMethod yX0_barOfTicks, .selects RX0 yX0_barOfTicks yX0_barOfTicks, .code yX0_barOfTicks cX0_barOfTicks 2 (some .int), .methodLink RX0 163 yX5_isTold, .instanceMethod yX5_isTold, .selects RX5 yX5_isTold yX5_isTold, .code yX5_isTold cX5_isTold 1 (some .boolean), .methodLink RX9 231 yX9_isDone, .instanceMethod yX9_isDone, .selects RX9 yX9_isDone yX9_isDone, .code yX9_isDone cX9_isDone 2 (some .boolean), .fieldLink RX9 90 "HubTree" "refusals" "[I"] ++ wsX90 ++ wsX50 ++ wsX00)
set_option maxRecDepth 20000 in
theorem g_X9_error_X5_has_153 : GoodIn wq_X9_error (wsV RX9 153 RX5 yX5_has wq_X5_has) := goodIn_r _ [2, 3, 4, 5, 6, 7, 49, 50, 51] (by decide +kernel) (by decide +kernel)
set_option maxRecDepth 20000 in
theorem g_X9_error_X9_attempt_227 : GoodIn wq_X9_error (wsV RX9 227 RX9 yX9_attempt wq_X9_attempt) := goodIn_r _ [9, 10, 11, 12, 13, 14, 15, 16, 17, 18, 19, 20, 3, 4, 5, 6, 7, 21, 22, 23, 24, 25, 26, 27, 28, 52, 53, 49, 50, 51] (by decide +kernel) (by decide +kernel)
set_option maxRecDepth 20000 in
theorem g_X9_error_X9_isDone_231 : GoodIn wq_X9_error (wsV RX9 231 RX9 yX9_isDone wq_X9_isDone) := goodIn_r _ [29, 30, 31, 12, 32, 33, 34, 35, 36, 37, 38, 39, 40, 41, 42, 43, 44, 45, 46, 47, 48] (by decide +kernel) (by decide +kernel)
theorem iq_X9_error_9 : ∀ w ∈ wsX90, w ∈ wq_X9_error := fun _ h => List.mem_cons_of_mem _ (List.mem_append_left _ (List.mem_append_left _ (List.mem_append_right _ h)))
theorem iq_X9_error_5 : ∀ w ∈ wsX50, w ∈ wq_X9_error := fun _ h => List.mem_cons_of_mem _ (List.mem_append_left _ (List.mem_append_right _ h))
theorem iq_X9_error_0 : ∀ w ∈ wsX00, w ∈ wq_X9_error := fun _ h => List.mem_cons_of_mem _ (List.mem_append_right _ h)
set_option maxHeartbeats 4000000 in
set_option maxRecDepth 100000 in
theorem c_X9_error (l : Launch) (dC : Nat → ClassId) (dI : Nat → Nat → Nat) (a : Nat → Nat) (k : Nat → ClassId) (z1 : Int32) (z2 : Int32) (A : Nat → Prop) : Met l yX9_error wq_X9_error ({ frames := 4, cells := 0, slots := 0, locals := 94 }) (va_Pc [.ref (a 0), .int z1, .int z2] (q_W (dC, dI) A [((a 0), .inr (9, [.ref (a 1), .ref (a 3), .ref (a 4), .ref (a 7), .ref (a 10), .ref (a 14), .ref (a 16), .ref (a 18), .ref (a 19), .ref (a 21), .ref (a 23), .ref (a 25), .ref (a 27), .ref (a 28), .int 0])), ((a 14), .inr (0, [.ref (a 15), .ref (a 7)])), ((a 7), .inr (5, [.ref (a 8), .ref (a 9), .int 0])), ((a 28), .inl ((k 28), 4, .inl (fun _ => 0)))] [((k 28), .int)])) (q_wi (-1) A) 0 0 A := by
  refine Met.ofW (cc := cX9_error) (maxL := 4) (ret := (some .int)) (by decide) rfl ?_
  intro p e s m args below meth c s₁ B hml hv
  obtain ⟨rfl, hP, hK, hD, hA⟩ := hv
  have hx := B.exec
  have hb := B.bytes
  have hr := B.returns
  have hts := atoms_spec (ws := wq_X9_error) B.pre
  have hown : s.vm.findClass RX9 = some m.cls := findClass_of_methodNamed B.named
  have hlocks := B.notSynchronized
  have hS : va_S A s.heap s.heap [] := va_S.rf
  have hl := lv_entry ([.ref (a 0), .int z1, .int z2]) (n := 4) (Nat.le_of_ble_eq_true rfl)
  rw [lg_entry_eq]
  generalize (lg_sl ([.ref (a 0), .int z1, .int z2]) ++ List.replicate (4 - (lg_sl ([.ref (a 0), .int z1, .int z2])).length) Slot.unset).toArray = ls at hl ⊢
  have hl : lv_has ls 4 [(0, .ref (a 0)), (1, .int z1), (2, .int z2)] := hl
  refine lv_aload_n hx hb dX9_error_0 rfl (lv_at hl 0 rfl) ?_
  refine va_get (D := (dC, dI)) (ci := 9) (v := .ref (a 7)) (C := RX9) (T := TX9) (N := 15) hx hb hts iq_X9_error_9 hown hK hP 0 rfl rfl 3 (by decide) (hts (.fieldLink RX9 32 "HubTree" "plan" "LHubTree$Plan;") (List.mem_of_getElem? (i := 1) rfl)) (fun _ h9 => h9) rfl dX9_error_1 ?_
  refine lv_iload_n hx hb dX9_error_4 rfl (lv_at hl 1 rfl) ?_
  refine q_goi (v := 0) (va_runV (As := [.int z1]) (rest := []) ⟨hx, hb, hml, hown, hts⟩ (c_X5_has l dC dI (a 7) (a 8) (a 9) z1) (cwV 1 hts g_X9_error_X5_has_153 rfl rfl rfl (by decide +kernel) ⟨Nat.le_of_ble_eq_true rfl, Nat.le_of_ble_eq_true rfl⟩) (q_preV hK hP (ci := 5) (q0 := 2) rfl rfl [2] rfl [] rfl) rfl rfl hl.1 rfl (lv_room (Nat.le_of_ble_eq_true rfl)) dX9_error_5 ⟨Nat.le_of_ble_eq_true rfl, Nat.le_of_ble_eq_true rfl⟩) hP hS (fun H locs hP hS => ?_)
  refine lv_if_eq (tgt := 26) hx hb dX9_error_8 (by decide) (fun c_1 => ?_) (fun c_1 => ?_)
  · skip
    refine lv_iconst (v := (-1)) hx hb dX9_error_26 (by decide) ?_
    refine lv_istore_n (lv' := [(3, .int (-1)), (0, .ref (a 0)), (1, .int z1), (2, .int z2)]) hx hb dX9_error_27 rfl hl (by decide) rfl (fun ls hl => ?_)
    refine lv_aload_n hx hb dX9_error_28 rfl (lv_at hl 1 rfl) ?_
    refine lv_aload_n hx hb dX9_error_29 rfl (lv_at hl 1 rfl) ?_
    refine lv_aload_n hx hb dX9_error_30 rfl (lv_at hl 1 rfl) ?_
    refine va_get (D := (dC, dI)) (ci := 9) (v := .ref (a 14)) (C := RX9) (T := TX9) (N := 15) hx hb hts iq_X9_error_9 hown hK hP 0 rfl rfl 5 (by decide) (hts (.fieldLink RX9 47 "HubTree" "now" "LHubTree$Bus;") (List.mem_of_getElem? (i := 8) rfl)) (fun _ h9 => h9) rfl dX9_error_31 ?_
    refine lv_iconst (v := 1) hx hb dX9_error_34 (by decide) ?_
    refine lv_iconst (v := 4) hx hb dX9_error_35 (by decide) ?_
    refine lv_iload_n hx hb dX9_error_36 rfl (lv_at hl 2 rfl) ?_
    refine lv_iload_n hx hb dX9_error_37 rfl (lv_at hl 3 rfl) ?_
    refine lv_iconst (v := (-1)) hx hb dX9_error_38 (by decide) ?_
    refine q_goi (v := 0) (va_runV (As := [.ref (a 14), .int 1, .int 4, .int z1, .int z2, .int (-1)]) (rest := [.ref (a 0)]) ⟨hx, hb, hml, hown, hts⟩ (c_X9_attempt l dC dI a 1 4 z1 z2 (-1)) (cwV 6 hts g_X9_error_X9_attempt_227 rfl rfl rfl (by decide +kernel) ⟨Nat.le_of_ble_eq_true rfl, Nat.le_of_ble_eq_true rfl⟩) (q_preV hK hP (ci := 9) (q0 := 0) rfl rfl [0, 1, 2] rfl [] rfl) rfl rfl hl.1 rfl (lv_room (Nat.le_of_ble_eq_true rfl)) dX9_error_39 ⟨Nat.le_of_ble_eq_true rfl, Nat.le_of_ble_eq_true rfl⟩) hP hS (fun H locs hP hS => ?_)
    refine q_goiF (v := 0) (wr := [((a 14), .inr (0, [.ref (a 15), .ref (a 7)])), ((a 7), .inr (5, [.ref (a 8), .ref (a 9), .int 0]))]) (va_runV (As := [.int 0]) (rest := []) ⟨hx, hb, hml, hown, hts⟩ (c_X9_isDone l dC dI a k (va_A [((a 0), .inr (9, [.ref (a 1), .ref (a 3), .ref (a 4), .ref (a 7), .ref (a 10), .ref (a 14), .ref (a 16), .ref (a 18), .ref (a 19), .ref (a 21), .ref (a 23), .ref (a 25), .ref (a 27), .ref (a 28), .int 0])), ((a 28), .inl ((k 28), 4, .inl (fun _ => 0)))] H.size)) (cwV 1 hts g_X9_error_X9_isDone_231 rfl rfl rfl (by decide +kernel) ⟨Nat.le_of_ble_eq_true rfl, Nat.le_of_ble_eq_true rfl⟩) (q_preWV hK hP hD (ci := 9) (q0 := 0) rfl rfl [0, 3] (by decide) rfl rfl [0] rfl) rfl rfl hl.1 rfl (lv_room (Nat.le_of_ble_eq_true rfl)) dX9_error_42 ⟨Nat.le_of_ble_eq_true rfl, Nat.le_of_ble_eq_true rfl⟩) hP hD hS hA [0, 3] [1, 2] rfl rfl (by decide) (by decide) (fun H locs hP hD hS => ?_)
    have hP : va_P (dC, dI) vwCl [((a 14), .inr (0, [.ref (a 15), .ref (a 7)])), ((a 7), .inr (5, [.ref (a 8), .ref (a 9), .int 0]))] H := hP
    have hD : va_D A [((a 14), .inr (0, [.ref (a 15), .ref (a 7)])), ((a 7), .inr (5, [.ref (a 8), .ref (a 9), .int 0]))] := hD
    refine lv_if_eq (tgt := 52) hx hb dX9_error_45 (by decide) (fun c_2 => ?_) (fun c_2 => ?_)
    · skip
      refine lv_iconst (v := (-1)) hx hb dX9_error_52 (by decide) ?_
      exact W.iret (v := (-1)) hx hb hr (fun t ht hW => ⟨⟨(-1), (), rfl, rfl, trivial⟩, hS.F ht⟩) hS.2.2 dX9_error_53
    · exact absurd (by decide) c_2
  · exact absurd (by decide) c_1

def wq_X9_again : List Cond := .code yX9_again cX9_again 3 (some .int) :: ([.fieldLink RX9 47 "HubTree" "now" "LHubTree$Bus;", .methodLink RX9 227 yX9_attempt, .instanceMethod yX9_attempt, .selects RX9 yX9_attempt yX9_attempt, .initialized RX9, .code yX9_attempt cX9_attempt 9 (some .int), .methodLink RX9 319 yX0_barOf, .instanceMethod yX0_barOf, .selects RX0 yX0_barOf yX0_barOf, .initialized RX0, .code yX0_barOf cX0_barOf 6 (some .int), .fieldLink RX0 15 "HubTree$Bus" "plan" "LHubTree$Plan;", .methodLink RX0 150 yX5_has, .instanceMethod yX5_has, .selects RX5 yX5_has yX5_has, .initialized RX5, .code yX5_has cX5_has 2 (some .boolean), .fieldLink RX5 18 "HubTree$Plan" "devices" "I", .methodLink RX0 147 yX0_barOfTicks, .instanceMethod yX0_barOfTicks, .selects RX0 yX0_barOfTicks yX0_barOfTicks, .code yX0_barOfTicks cX0_barOfTicks 2 (some .int), .methodLink RX0 163 yX5_isTold, .instanceMethod yX5_isTold, .selects RX5 yX5_isTold yX5_isTold, .code yX5_isTold cX5_isTold 1 (some .boolean), .methodLink RX9 231 yX9_isDone, .instanceMethod yX9_isDone, .selects RX9 yX9_isDone yX9_isDone, .code yX9_isDone cX9_isDone 2 (some .boolean), .fieldLink RX9 90 "HubTree" "refusals" "[I"] ++ wsX90 ++ wsX00 ++ wsX50)
set_option maxRecDepth 20000 in
theorem g_X9_again_X9_attempt_227 : GoodIn wq_X9_again (wsV RX9 227 RX9 yX9_attempt wq_X9_attempt) := goodIn_r _ [2, 3, 4, 5, 6, 7, 8, 9, 10, 11, 12, 13, 14, 15, 16, 17, 18, 19, 20, 21, 22, 23, 24, 25, 26, 47, 48, 49, 50, 51] (by decide +kernel) (by decide +kernel)
set_option maxRecDepth 20000 in
theorem g_X9_again_X9_isDone_231 : GoodIn wq_X9_again (wsV RX9 231 RX9 yX9_isDone wq_X9_isDone) := goodIn_r _ [27, 28, 29, 5, 30, 31, 32, 33, 34, 35, 36, 37, 38, 39, 40, 41, 42, 43, 44, 45, 46] (by decide +kernel) (by decide +kernel)
theorem iq_X9_again_9 : ∀ w ∈ wsX90, w ∈ wq_X9_again := fun _ h => List.mem_cons_of_mem _ (List.mem_append_left _ (List.mem_append_left _ (List.mem_append_right _ h)))
theorem iq_X9_again_0 : ∀ w ∈ wsX00, w ∈ wq_X9_again := fun _ h => List.mem_cons_of_mem _ (List.mem_append_left _ (List.mem_append_right _ h))
theorem iq_X9_again_5 : ∀ w ∈ wsX50, w ∈ wq_X9_again := fun _ h => List.mem_cons_of_mem _ (List.mem_append_right _ h)
set_option maxHeartbeats 4000000 in
set_option maxRecDepth 100000 in
theorem c_X9_again (l : Launch) (dC : Nat → ClassId) (dI : Nat → Nat → Nat) (a : Nat → Nat) (k : Nat → ClassId) (z1 : Int32) (A : Nat → Prop) : Met l yX9_again wq_X9_again ({ frames := 4, cells := 0, slots := 0, locals := 94 }) (va_Pc [.ref (a 0), .int z1] (q_W (dC, dI) A [((a 0), .inr (9, [.ref (a 1), .ref (a 3), .ref (a 4), .ref (a 7), .ref (a 10), .ref (a 14), .ref (a 16), .ref (a 18), .ref (a 19), .ref (a 21), .ref (a 23), .ref (a 25), .ref (a 27), .ref (a 28), .int 0])), ((a 14), .inr (0, [.ref (a 15), .ref (a 7)])), ((a 7), .inr (5, [.ref (a 8), .ref (a 9), .int 0])), ((a 28), .inl ((k 28), 4, .inl (fun _ => 0)))] [((k 28), .int)])) (q_wi (-1) A) 0 0 A := by
  refine Met.ofW (cc := cX9_again) (maxL := 3) (ret := (some .int)) (by decide) rfl ?_
  intro p e s m args below meth c s₁ B hml hv
  obtain ⟨rfl, hP, hK, hD, hA⟩ := hv
  have hx := B.exec
  have hb := B.bytes
  have hr := B.returns
  have hts := atoms_spec (ws := wq_X9_again) B.pre
  have hown : s.vm.findClass RX9 = some m.cls := findClass_of_methodNamed B.named
  have hlocks := B.notSynchronized
  have hS : va_S A s.heap s.heap [] := va_S.rf
  have hl := lv_entry ([.ref (a 0), .int z1]) (n := 3) (Nat.le_of_ble_eq_true rfl)
  rw [lg_entry_eq]
  generalize (lg_sl ([.ref (a 0), .int z1]) ++ List.replicate (3 - (lg_sl ([.ref (a 0), .int z1])).length) Slot.unset).toArray = ls at hl ⊢
  have hl : lv_has ls 3 [(0, .ref (a 0)), (1, .int z1)] := hl
  refine lv_aload_n hx hb dX9_again_0 rfl (lv_at hl 0 rfl) ?_
  refine lv_aload_n hx hb dX9_again_1 rfl (lv_at hl 0 rfl) ?_
  refine lv_aload_n hx hb dX9_again_2 rfl (lv_at hl 0 rfl) ?_
  refine va_get (D := (dC, dI)) (ci := 9) (v := .ref (a 14)) (C := RX9) (T := TX9) (N := 15) hx hb hts iq_X9_again_9 hown hK hP 0 rfl rfl 5 (by decide) (hts (.fieldLink RX9 47 "HubTree" "now" "LHubTree$Bus;") (List.mem_of_getElem? (i := 1) rfl)) (fun _ h9 => h9) rfl dX9_again_3 ?_
  refine lv_iconst (v := 1) hx hb dX9_again_6 (by decide) ?_
  refine lv_iconst (v := 5) hx hb dX9_again_7 (by decide) ?_
  refine lv_iload_n hx hb dX9_again_8 rfl (lv_at hl 1 rfl) ?_
  refine lv_iconst (v := (-1)) hx hb dX9_again_9 (by decide) ?_
  refine lv_iconst (v := (-1)) hx hb dX9_again_10 (by decide) ?_
  refine q_goi (v := 0) (va_runV (As := [.ref (a 14), .int 1, .int 5, .int z1, .int (-1), .int (-1)]) (rest := [.ref (a 0)]) ⟨hx, hb, hml, hown, hts⟩ (c_X9_attempt l dC dI a 1 5 z1 (-1) (-1)) (cwV 6 hts g_X9_again_X9_attempt_227 rfl rfl rfl (by decide +kernel) ⟨Nat.le_of_ble_eq_true rfl, Nat.le_of_ble_eq_true rfl⟩) (q_preV hK hP (ci := 9) (q0 := 0) rfl rfl [0, 1, 2] rfl [] rfl) rfl rfl hl.1 rfl (lv_room (Nat.le_of_ble_eq_true rfl)) dX9_again_11 ⟨Nat.le_of_ble_eq_true rfl, Nat.le_of_ble_eq_true rfl⟩) hP hS (fun H locs hP hS => ?_)
  refine q_goiF (v := 0) (wr := [((a 14), .inr (0, [.ref (a 15), .ref (a 7)])), ((a 7), .inr (5, [.ref (a 8), .ref (a 9), .int 0]))]) (va_runV (As := [.int 0]) (rest := []) ⟨hx, hb, hml, hown, hts⟩ (c_X9_isDone l dC dI a k (va_A [((a 0), .inr (9, [.ref (a 1), .ref (a 3), .ref (a 4), .ref (a 7), .ref (a 10), .ref (a 14), .ref (a 16), .ref (a 18), .ref (a 19), .ref (a 21), .ref (a 23), .ref (a 25), .ref (a 27), .ref (a 28), .int 0])), ((a 28), .inl ((k 28), 4, .inl (fun _ => 0)))] H.size)) (cwV 1 hts g_X9_again_X9_isDone_231 rfl rfl rfl (by decide +kernel) ⟨Nat.le_of_ble_eq_true rfl, Nat.le_of_ble_eq_true rfl⟩) (q_preWV hK hP hD (ci := 9) (q0 := 0) rfl rfl [0, 3] (by decide) rfl rfl [0] rfl) rfl rfl hl.1 rfl (lv_room (Nat.le_of_ble_eq_true rfl)) dX9_again_14 ⟨Nat.le_of_ble_eq_true rfl, Nat.le_of_ble_eq_true rfl⟩) hP hD hS hA [0, 3] [1, 2] rfl rfl (by decide) (by decide) (fun H locs hP hD hS => ?_)
  have hP : va_P (dC, dI) vwCl [((a 14), .inr (0, [.ref (a 15), .ref (a 7)])), ((a 7), .inr (5, [.ref (a 8), .ref (a 9), .int 0]))] H := hP
  have hD : va_D A [((a 14), .inr (0, [.ref (a 15), .ref (a 7)])), ((a 7), .inr (5, [.ref (a 8), .ref (a 9), .int 0]))] := hD
  refine lv_istore_n (lv' := [(2, .int 0), (0, .ref (a 0)), (1, .int z1)]) hx hb dX9_again_17 rfl hl (by decide) rfl (fun ls hl => ?_)
  refine lv_iload_n hx hb dX9_again_18 rfl (lv_at hl 0 rfl) ?_
  refine lv_if_eq (tgt := 48) hx hb dX9_again_19 (by decide) (fun c_1 => ?_) (fun c_1 => ?_)
  · skip
    refine lv_iconst (v := (-1)) hx hb dX9_again_48 (by decide) ?_
    exact W.iret (v := (-1)) hx hb hr (fun t ht hW => ⟨⟨(-1), (), rfl, rfl, trivial⟩, hS.F ht⟩) hS.2.2 dX9_again_49
  · exact absurd (by decide) c_1

def wq_X9_sleep : List Cond := .code yX9_sleep cX9_sleep 3 (some .int) :: ([.fieldLink RX9 47 "HubTree" "now" "LHubTree$Bus;", .methodLink RX9 227 yX9_attempt, .instanceMethod yX9_attempt, .selects RX9 yX9_attempt yX9_attempt, .initialized RX9, .code yX9_attempt cX9_attempt 9 (some .int), .methodLink RX9 319 yX0_barOf, .instanceMethod yX0_barOf, .selects RX0 yX0_barOf yX0_barOf, .initialized RX0, .code yX0_barOf cX0_barOf 6 (some .int), .fieldLink RX0 15 "HubTree$Bus" "plan" "LHubTree$Plan;", .methodLink RX0 150 yX5_has, .instanceMethod yX5_has, .selects RX5 yX5_has yX5_has, .initialized RX5, .code yX5_has cX5_has 2 (some .boolean), .fieldLink RX5 18 "HubTree$Plan" "devices" "I", .methodLink RX0 147 yX0_barOfTicks, .instanceMethod yX0_barOfTicks, .selects RX0 yX0_barOfTicks yX0_barOfTicks, .code yX0_barOfTicks cX0_barOfTicks 2 (some .int), .methodLink RX0 163 yX5_isTold, .instanceMethod yX5_isTold, .selects RX5 yX5_isTold yX5_isTold, .code yX5_isTold cX5_isTold 1 (some .boolean), .methodLink RX9 231 yX9_isDone, .instanceMethod yX9_isDone, .selects RX9 yX9_isDone yX9_isDone, .code yX9_isDone cX9_isDone 2 (some .boolean), .fieldLink RX9 90 "HubTree" "refusals" "[I"] ++ wsX90 ++ wsX00 ++ wsX50)
set_option maxRecDepth 20000 in
theorem g_X9_sleep_X9_attempt_227 : GoodIn wq_X9_sleep (wsV RX9 227 RX9 yX9_attempt wq_X9_attempt) := goodIn_r _ [2, 3, 4, 5, 6, 7, 8, 9, 10, 11, 12, 13, 14, 15, 16, 17, 18, 19, 20, 21, 22, 23, 24, 25, 26, 47, 48, 49, 50, 51] (by decide +kernel) (by decide +kernel)
set_option maxRecDepth 20000 in
theorem g_X9_sleep_X9_isDone_231 : GoodIn wq_X9_sleep (wsV RX9 231 RX9 yX9_isDone wq_X9_isDone) := goodIn_r _ [27, 28, 29, 5, 30, 31, 32, 33, 34, 35, 36, 37, 38, 39, 40, 41, 42, 43, 44, 45, 46] (by decide +kernel) (by decide +kernel)
theorem iq_X9_sleep_9 : ∀ w ∈ wsX90, w ∈ wq_X9_sleep := fun _ h => List.mem_cons_of_mem _ (List.mem_append_left _ (List.mem_append_left _ (List.mem_append_right _ h)))
theorem iq_X9_sleep_0 : ∀ w ∈ wsX00, w ∈ wq_X9_sleep := fun _ h => List.mem_cons_of_mem _ (List.mem_append_left _ (List.mem_append_right _ h))
theorem iq_X9_sleep_5 : ∀ w ∈ wsX50, w ∈ wq_X9_sleep := fun _ h => List.mem_cons_of_mem _ (List.mem_append_right _ h)
set_option maxHeartbeats 4000000 in
set_option maxRecDepth 100000 in
theorem c_X9_sleep (l : Launch) (dC : Nat → ClassId) (dI : Nat → Nat → Nat) (a : Nat → Nat) (k : Nat → ClassId) (z1 : Int32) (A : Nat → Prop) : Met l yX9_sleep wq_X9_sleep ({ frames := 4, cells := 0, slots := 0, locals := 94 }) (va_Pc [.ref (a 0), .int z1] (q_W (dC, dI) A [((a 0), .inr (9, [.ref (a 1), .ref (a 3), .ref (a 4), .ref (a 7), .ref (a 10), .ref (a 14), .ref (a 16), .ref (a 18), .ref (a 19), .ref (a 21), .ref (a 23), .ref (a 25), .ref (a 27), .ref (a 28), .int 0])), ((a 14), .inr (0, [.ref (a 15), .ref (a 7)])), ((a 7), .inr (5, [.ref (a 8), .ref (a 9), .int 0])), ((a 28), .inl ((k 28), 4, .inl (fun _ => 0)))] [((k 28), .int)])) (q_wi (-1) A) 0 0 A := by
  refine Met.ofW (cc := cX9_sleep) (maxL := 3) (ret := (some .int)) (by decide) rfl ?_
  intro p e s m args below meth c s₁ B hml hv
  obtain ⟨rfl, hP, hK, hD, hA⟩ := hv
  have hx := B.exec
  have hb := B.bytes
  have hr := B.returns
  have hts := atoms_spec (ws := wq_X9_sleep) B.pre
  have hown : s.vm.findClass RX9 = some m.cls := findClass_of_methodNamed B.named
  have hlocks := B.notSynchronized
  have hS : va_S A s.heap s.heap [] := va_S.rf
  have hl := lv_entry ([.ref (a 0), .int z1]) (n := 3) (Nat.le_of_ble_eq_true rfl)
  rw [lg_entry_eq]
  generalize (lg_sl ([.ref (a 0), .int z1]) ++ List.replicate (3 - (lg_sl ([.ref (a 0), .int z1])).length) Slot.unset).toArray = ls at hl ⊢
  have hl : lv_has ls 3 [(0, .ref (a 0)), (1, .int z1)] := hl
  refine lv_aload_n hx hb dX9_sleep_0 rfl (lv_at hl 0 rfl) ?_
  refine lv_aload_n hx hb dX9_sleep_1 rfl (lv_at hl 0 rfl) ?_
  refine lv_aload_n hx hb dX9_sleep_2 rfl (lv_at hl 0 rfl) ?_
  refine va_get (D := (dC, dI)) (ci := 9) (v := .ref (a 14)) (C := RX9) (T := TX9) (N := 15) hx hb hts iq_X9_sleep_9 hown hK hP 0 rfl rfl 5 (by decide) (hts (.fieldLink RX9 47 "HubTree" "now" "LHubTree$Bus;") (List.mem_of_getElem? (i := 1) rfl)) (fun _ h9 => h9) rfl dX9_sleep_3 ?_
  refine lv_iconst (v := 1) hx hb dX9_sleep_6 (by decide) ?_
  refine lv_bipush (v := 6) hx hb dX9_sleep_7 (by decide) ?_
  refine lv_iload_n hx hb dX9_sleep_9 rfl (lv_at hl 1 rfl) ?_
  refine lv_iconst (v := (-1)) hx hb dX9_sleep_10 (by decide) ?_
  refine lv_iconst (v := (-1)) hx hb dX9_sleep_11 (by decide) ?_
  refine q_goi (v := 0) (va_runV (As := [.ref (a 14), .int 1, .int 6, .int z1, .int (-1), .int (-1)]) (rest := [.ref (a 0)]) ⟨hx, hb, hml, hown, hts⟩ (c_X9_attempt l dC dI a 1 6 z1 (-1) (-1)) (cwV 6 hts g_X9_sleep_X9_attempt_227 rfl rfl rfl (by decide +kernel) ⟨Nat.le_of_ble_eq_true rfl, Nat.le_of_ble_eq_true rfl⟩) (q_preV hK hP (ci := 9) (q0 := 0) rfl rfl [0, 1, 2] rfl [] rfl) rfl rfl hl.1 rfl (lv_room (Nat.le_of_ble_eq_true rfl)) dX9_sleep_12 ⟨Nat.le_of_ble_eq_true rfl, Nat.le_of_ble_eq_true rfl⟩) hP hS (fun H locs hP hS => ?_)
  refine q_goiF (v := 0) (wr := [((a 14), .inr (0, [.ref (a 15), .ref (a 7)])), ((a 7), .inr (5, [.ref (a 8), .ref (a 9), .int 0]))]) (va_runV (As := [.int 0]) (rest := []) ⟨hx, hb, hml, hown, hts⟩ (c_X9_isDone l dC dI a k (va_A [((a 0), .inr (9, [.ref (a 1), .ref (a 3), .ref (a 4), .ref (a 7), .ref (a 10), .ref (a 14), .ref (a 16), .ref (a 18), .ref (a 19), .ref (a 21), .ref (a 23), .ref (a 25), .ref (a 27), .ref (a 28), .int 0])), ((a 28), .inl ((k 28), 4, .inl (fun _ => 0)))] H.size)) (cwV 1 hts g_X9_sleep_X9_isDone_231 rfl rfl rfl (by decide +kernel) ⟨Nat.le_of_ble_eq_true rfl, Nat.le_of_ble_eq_true rfl⟩) (q_preWV hK hP hD (ci := 9) (q0 := 0) rfl rfl [0, 3] (by decide) rfl rfl [0] rfl) rfl rfl hl.1 rfl (lv_room (Nat.le_of_ble_eq_true rfl)) dX9_sleep_15 ⟨Nat.le_of_ble_eq_true rfl, Nat.le_of_ble_eq_true rfl⟩) hP hD hS hA [0, 3] [1, 2] rfl rfl (by decide) (by decide) (fun H locs hP hD hS => ?_)
  have hP : va_P (dC, dI) vwCl [((a 14), .inr (0, [.ref (a 15), .ref (a 7)])), ((a 7), .inr (5, [.ref (a 8), .ref (a 9), .int 0]))] H := hP
  have hD : va_D A [((a 14), .inr (0, [.ref (a 15), .ref (a 7)])), ((a 7), .inr (5, [.ref (a 8), .ref (a 9), .int 0]))] := hD
  refine lv_istore_n (lv' := [(2, .int 0), (0, .ref (a 0)), (1, .int z1)]) hx hb dX9_sleep_18 rfl hl (by decide) rfl (fun ls hl => ?_)
  refine lv_iload_n hx hb dX9_sleep_19 rfl (lv_at hl 0 rfl) ?_
  refine lv_if_eq (tgt := 49) hx hb dX9_sleep_20 (by decide) (fun c_1 => ?_) (fun c_1 => ?_)
  · skip
    refine lv_iconst (v := (-1)) hx hb dX9_sleep_49 (by decide) ?_
    exact W.iret (v := (-1)) hx hb hr (fun t ht hW => ⟨⟨(-1), (), rfl, rfl, trivial⟩, hS.F ht⟩) hS.2.2 dX9_sleep_50
  · exact absurd (by decide) c_1

def wq_X9_end : List Cond := .code yX9_end cX9_end 2 (some .boolean) :: ([.fieldLink RX9 12 "HubTree" "tape" "LHubTree$Tape;", .fieldLink RX9 102 "HubTree$Tape" "length" "I"] ++ wsX90 ++ wsX80)
theorem iq_X9_end_9 : ∀ w ∈ wsX90, w ∈ wq_X9_end := fun _ h => List.mem_cons_of_mem _ (List.mem_append_left _ (List.mem_append_right _ h))
theorem iq_X9_end_8 : ∀ w ∈ wsX80, w ∈ wq_X9_end := fun _ h => List.mem_cons_of_mem _ (List.mem_append_right _ h)
set_option maxHeartbeats 4000000 in
set_option maxRecDepth 100000 in
theorem c_X9_end (l : Launch) (dC : Nat → ClassId) (dI : Nat → Nat → Nat) (a : Nat → Nat) (z1 : Int32) (A : Nat → Prop) : Met l yX9_end wq_X9_end ({ frames := 0, cells := 0, slots := 0, locals := 0 }) (va_Pc [.ref (a 0), .int z1] (q_W (dC, dI) A [((a 0), .inr (9, [.ref (a 1), .ref (a 3), .ref (a 4), .ref (a 7), .ref (a 10), .ref (a 14), .ref (a 16), .ref (a 18), .ref (a 19), .ref (a 21), .ref (a 23), .ref (a 25), .ref (a 27), .ref (a 28), .int 0])), ((a 1), .inr (8, [.ref (a 2), .int 0]))] [])) (q_wi ((q_in z1 0 0)) A) 0 0 A := by
  refine Met.ofW (cc := cX9_end) (maxL := 2) (ret := (some .boolean)) (by decide) rfl ?_
  intro p e s m args below meth c s₁ B hml hv
  obtain ⟨rfl, hP, hK, hD, hA⟩ := hv
  have hx := B.exec
  have hb := B.bytes
  have hr := B.returns
  have hts := atoms_spec (ws := wq_X9_end) B.pre
  have hown : s.vm.findClass RX9 = some m.cls := findClass_of_methodNamed B.named
  have hlocks := B.notSynchronized
  have hS : va_S A s.heap s.heap [] := va_S.rf
  have hl := lv_entry ([.ref (a 0), .int z1]) (n := 2) (Nat.le_of_ble_eq_true rfl)
  rw [lg_entry_eq]
  generalize (lg_sl ([.ref (a 0), .int z1]) ++ List.replicate (2 - (lg_sl ([.ref (a 0), .int z1])).length) Slot.unset).toArray = ls at hl ⊢
  have hl : lv_has ls 2 [(0, .ref (a 0)), (1, .int z1)] := hl
  refine lv_iload_n hx hb dX9_end_0 rfl (lv_at hl 1 rfl) ?_
  refine lv_if_lt (tgt := 15) hx hb dX9_end_1 (by decide) (fun c_1 => ?_) (fun c_1 => ?_)
  · skip
    refine lv_iconst (v := 0) hx hb dX9_end_15 (by decide) ?_
    exact W.zret (v := 0) hx hb hr rfl (fun t ht hW => ⟨⟨0, (), rfl, (by first | (rw [q_in, if_pos c_1]; done) | (rw [q_in, if_neg c_1, if_neg (Int32.not_lt.mpr c_2)]; done) | (rw [q_in, if_neg c_1, if_pos (Int32.not_le.mp c_2)])), trivial⟩, hS.F ht⟩) hS.2.2 dX9_end_16
  · skip
    refine lv_iload_n hx hb dX9_end_4 rfl (lv_at hl 1 rfl) ?_
    refine lv_aload_n hx hb dX9_end_5 rfl (lv_at hl 0 rfl) ?_
    refine va_get (D := (dC, dI)) (ci := 9) (v := .ref (a 1)) (C := RX9) (T := TX9) (N := 15) hx hb hts iq_X9_end_9 hown hK hP 0 rfl rfl 0 (by decide) (hts (.fieldLink RX9 12 "HubTree" "tape" "LHubTree$Tape;") (List.mem_of_getElem? (i := 1) rfl)) (fun _ h9 => h9) rfl dX9_end_6 ?_
    refine va_get (D := (dC, dI)) (ci := 8) (v := .int 0) (C := RX8) (T := TX8) (N := 2) hx hb hts iq_X9_end_8 hown hK hP 1 rfl rfl 1 (by decide) (hts (.fieldLink RX9 102 "HubTree$Tape" "length" "I") (List.mem_of_getElem? (i := 2) rfl)) (fun _ h9 => h9) rfl dX9_end_9 ?_
    refine lv_icmp_le (tgt := 17) hx hb dX9_end_12 (by decide) (fun c_2 => ?_) (fun c_2 => ?_)
    · skip
      refine lv_aload_n hx hb dX9_end_17 rfl (lv_at hl 0 rfl) ?_
      refine va_get (D := (dC, dI)) (ci := 9) (v := .ref (a 1)) (C := RX9) (T := TX9) (N := 15) hx hb hts iq_X9_end_9 hown hK hP 0 rfl rfl 0 (by decide) (hts (.fieldLink RX9 12 "HubTree" "tape" "LHubTree$Tape;") (List.mem_of_getElem? (i := 1) rfl)) (fun _ h9 => h9) rfl dX9_end_18 ?_
      refine lv_iload_n hx hb dX9_end_21 rfl (lv_at hl 1 rfl) ?_
      refine va_put (D := (dC, dI)) (ci := 8) (v := .int z1) (ty := .int) (C := RX8) (T := TX8) (N := 2) hx hb hts iq_X9_end_8 tyX8 tyX8_ok nmX8 hown hK hP hD hS 1 rfl rfl 1 (by decide) (hts (.fieldLink RX9 102 "HubTree$Tape" "length" "I") (List.mem_of_getElem? (i := 2) rfl)) (fun _ h9 => h9) rfl (by decide +kernel) rfl rfl (Nat.le_of_ble_eq_true rfl) dX9_end_22 (fun H locs hP hD hS => ?_)
      have hP : va_P (dC, dI) vwCl [((a 0), .inr (9, [.ref (a 1), .ref (a 3), .ref (a 4), .ref (a 7), .ref (a 10), .ref (a 14), .ref (a 16), .ref (a 18), .ref (a 19), .ref (a 21), .ref (a 23), .ref (a 25), .ref (a 27), .ref (a 28), .int 0])), ((a 1), .inr (8, [.ref (a 2), .int z1]))] H := hP
      have hD : va_D A [((a 0), .inr (9, [.ref (a 1), .ref (a 3), .ref (a 4), .ref (a 7), .ref (a 10), .ref (a 14), .ref (a 16), .ref (a 18), .ref (a 19), .ref (a 21), .ref (a 23), .ref (a 25), .ref (a 27), .ref (a 28), .int 0])), ((a 1), .inr (8, [.ref (a 2), .int z1]))] := hD
      refine lv_iconst (v := 1) hx hb dX9_end_25 (by decide) ?_
      exact W.zret (v := 1) hx hb hr rfl (fun t ht hW => ⟨⟨1, (), rfl, (by first | (rw [q_in, if_pos c_1]; done) | (rw [q_in, if_neg c_1, if_neg (Int32.not_lt.mpr c_2)]; done) | (rw [q_in, if_neg c_1, if_pos (Int32.not_le.mp c_2)])), trivial⟩, hS.F ht⟩) hS.2.2 dX9_end_26
    · skip
      refine lv_iconst (v := 0) hx hb dX9_end_15 (by decide) ?_
      exact W.zret (v := 0) hx hb hr rfl (fun t ht hW => ⟨⟨0, (), rfl, (by first | (rw [q_in, if_pos c_1]; done) | (rw [q_in, if_neg c_1, if_neg (Int32.not_lt.mpr c_2)]; done) | (rw [q_in, if_neg c_1, if_pos (Int32.not_le.mp c_2)])), trivial⟩, hS.F ht⟩) hS.2.2 dX9_end_16

def wq_X6_skipBlanks : List Cond := .code yX6_skipBlanks cX6_skipBlanks 1 none :: ([.fieldLink RX6 9 "HubTree$Reader" "at" "I", .fieldLink RX6 18 "HubTree$Reader" "tape" "LHubTree$Tape;", .fieldLink RX6 67 "HubTree$Tape" "length" "I"] ++ wsX60 ++ wsX80)
theorem iq_X6_skipBlanks_6 : ∀ w ∈ wsX60, w ∈ wq_X6_skipBlanks := fun _ h => List.mem_cons_of_mem _ (List.mem_append_left _ (List.mem_append_right _ h))
theorem iq_X6_skipBlanks_8 : ∀ w ∈ wsX80, w ∈ wq_X6_skipBlanks := fun _ h => List.mem_cons_of_mem _ (List.mem_append_right _ h)
set_option maxHeartbeats 4000000 in
set_option maxRecDepth 100000 in
theorem c_X6_skipBlanks (l : Launch) (dC : Nat → ClassId) (dI : Nat → Nat → Nat) (h : Nat) (tp : Nat) (by_ : Nat) : Met l yX6_skipBlanks wq_X6_skipBlanks ({ frames := 0, cells := 0, slots := 0, locals := 0 }) (va_Pc [.ref h] (q_R (dC, dI) [(h, .inr (6, [.ref tp, .int 0, .int 0])), (tp, .inr (8, [.ref by_, .int 0]))] [])) q_v 0 0 (fun _ => False) := by
  refine Met.ofW (cc := cX6_skipBlanks) (maxL := 1) (ret := none) (by decide) rfl ?_
  intro p e s m args below meth c s₁ B hml hv
  obtain ⟨rfl, hP, hK⟩ := hv
  have hx := B.exec
  have hb := B.bytes
  have hr := B.returns
  have hts := atoms_spec (ws := wq_X6_skipBlanks) B.pre
  have hown : s.vm.findClass RX6 = some m.cls := findClass_of_methodNamed B.named
  have hlocks := B.notSynchronized
  have hS : va_S (fun _ => False) s.heap s.heap [] := va_S.rf
  have hl := lv_entry ([.ref h]) (n := 1) (Nat.le_of_ble_eq_true rfl)
  rw [lg_entry_eq]
  generalize (lg_sl ([.ref h]) ++ List.replicate (1 - (lg_sl ([.ref h])).length) Slot.unset).toArray = ls at hl ⊢
  have hl : lv_has ls 1 [(0, .ref h)] := hl
  refine lv_aload_n hx hb dX6_skipBlanks_0 rfl (lv_at hl 0 rfl) ?_
  refine va_get (D := (dC, dI)) (ci := 6) (v := .int 0) (C := RX6) (T := TX6) (N := 3) hx hb hts iq_X6_skipBlanks_6 hown hK hP 0 rfl rfl 1 (by decide) (hts (.fieldLink RX6 9 "HubTree$Reader" "at" "I") (List.mem_of_getElem? (i := 1) rfl)) (fun _ h9 => h9) rfl dX6_skipBlanks_1 ?_
  refine lv_aload_n hx hb dX6_skipBlanks_4 rfl (lv_at hl 0 rfl) ?_
  refine va_get (D := (dC, dI)) (ci := 6) (v := .ref tp) (C := RX6) (T := TX6) (N := 3) hx hb hts iq_X6_skipBlanks_6 hown hK hP 0 rfl rfl 0 (by decide) (hts (.fieldLink RX6 18 "HubTree$Reader" "tape" "LHubTree$Tape;") (List.mem_of_getElem? (i := 2) rfl)) (fun _ h9 => h9) rfl dX6_skipBlanks_5 ?_
  refine va_get (D := (dC, dI)) (ci := 8) (v := .int 0) (C := RX8) (T := TX8) (N := 2) hx hb hts iq_X6_skipBlanks_8 hown hK hP 1 rfl rfl 1 (by decide) (hts (.fieldLink RX6 67 "HubTree$Tape" "length" "I") (List.mem_of_getElem? (i := 3) rfl)) (fun _ h9 => h9) rfl dX6_skipBlanks_8 ?_
  refine lv_icmp_ge (tgt := 44) hx hb dX6_skipBlanks_11 (by decide) (fun c_1 => ?_) (fun c_1 => ?_)
  · skip
    exact W.vret hx hb hr (fun t ht hW => ⟨⟨(), rfl, trivial, trivial⟩, hS.F ht⟩) hS.2.2 dX6_skipBlanks_44
  · exact absurd (by decide) c_1

def wq_X6_stands : List Cond := .code yX6_stands cX6_stands 2 (some .boolean) :: ([.fieldLink RX6 9 "HubTree$Reader" "at" "I", .fieldLink RX6 18 "HubTree$Reader" "tape" "LHubTree$Tape;", .fieldLink RX6 67 "HubTree$Tape" "length" "I"] ++ wsX60 ++ wsX80)
theorem iq_X6_stands_6 : ∀ w ∈ wsX60, w ∈ wq_X6_stands := fun _ h => List.mem_cons_of_mem _ (List.mem_append_left _ (List.mem_append_right _ h))
theorem iq_X6_stands_8 : ∀ w ∈ wsX80, w ∈ wq_X6_stands := fun _ h => List.mem_cons_of_mem _ (List.mem_append_right _ h)
set_option maxHeartbeats 4000000 in
set_option maxRecDepth 100000 in
theorem c_X6_stands (l : Launch) (dC : Nat → ClassId) (dI : Nat → Nat → Nat) (h : Nat) (tp : Nat) (by_ : Nat) (d : Int32) : Met l yX6_stands wq_X6_stands ({ frames := 0, cells := 0, slots := 0, locals := 0 }) (va_Pc [.ref h, .int d] (q_R (dC, dI) [(h, .inr (6, [.ref tp, .int 0, .int 0])), (tp, .inr (8, [.ref by_, .int 0]))] [])) (q_i (0)) 0 0 (fun _ => False) := by
  refine Met.ofW (cc := cX6_stands) (maxL := 2) (ret := (some .boolean)) (by decide) rfl ?_
  intro p e s m args below meth c s₁ B hml hv
  obtain ⟨rfl, hP, hK⟩ := hv
  have hx := B.exec
  have hb := B.bytes
  have hr := B.returns
  have hts := atoms_spec (ws := wq_X6_stands) B.pre
  have hown : s.vm.findClass RX6 = some m.cls := findClass_of_methodNamed B.named
  have hlocks := B.notSynchronized
  have hS : va_S (fun _ => False) s.heap s.heap [] := va_S.rf
  have hl := lv_entry ([.ref h, .int d]) (n := 2) (Nat.le_of_ble_eq_true rfl)
  rw [lg_entry_eq]
  generalize (lg_sl ([.ref h, .int d]) ++ List.replicate (2 - (lg_sl ([.ref h, .int d])).length) Slot.unset).toArray = ls at hl ⊢
  have hl : lv_has ls 2 [(0, .ref h), (1, .int d)] := hl
  refine lv_aload_n hx hb dX6_stands_0 rfl (lv_at hl 0 rfl) ?_
  refine va_get (D := (dC, dI)) (ci := 6) (v := .int 0) (C := RX6) (T := TX6) (N := 3) hx hb hts iq_X6_stands_6 hown hK hP 0 rfl rfl 1 (by decide) (hts (.fieldLink RX6 9 "HubTree$Reader" "at" "I") (List.mem_of_getElem? (i := 1) rfl)) (fun _ h9 => h9) rfl dX6_stands_1 ?_
  refine lv_aload_n hx hb dX6_stands_4 rfl (lv_at hl 0 rfl) ?_
  refine va_get (D := (dC, dI)) (ci := 6) (v := .ref tp) (C := RX6) (T := TX6) (N := 3) hx hb hts iq_X6_stands_6 hown hK hP 0 rfl rfl 0 (by decide) (hts (.fieldLink RX6 18 "HubTree$Reader" "tape" "LHubTree$Tape;") (List.mem_of_getElem? (i := 2) rfl)) (fun _ h9 => h9) rfl dX6_stands_5 ?_
  refine va_get (D := (dC, dI)) (ci := 8) (v := .int 0) (C := RX8) (T := TX8) (N := 2) hx hb hts iq_X6_stands_8 hown hK hP 1 rfl rfl 1 (by decide) (hts (.fieldLink RX6 67 "HubTree$Tape" "length" "I") (List.mem_of_getElem? (i := 3) rfl)) (fun _ h9 => h9) rfl dX6_stands_8 ?_
  refine lv_icmp_ge (tgt := 34) hx hb dX6_stands_11 (by decide) (fun c_1 => ?_) (fun c_1 => ?_)
  · skip
    refine lv_iconst (v := 0) hx hb dX6_stands_34 (by decide) ?_
    exact W.zret (v := 0) hx hb hr rfl (fun t ht hW => ⟨⟨0, (), rfl, rfl, trivial⟩, hS.F ht⟩) hS.2.2 dX6_stands_35
  · exact absurd (by decide) c_1

def wq_X5_clear : List Cond := .code yX5_clear cX5_clear 1 none :: ([.fieldLink RX5 9 "HubTree$Plan" "rules" "[I", .methodLink RX5 25 arraycopyName, .native arraycopyName, .static arraycopyName, .initialized "java/lang/System", .fieldLink RX5 18 "HubTree$Plan" "devices" "I"] ++ wsX50)
theorem iq_X5_clear_5 : ∀ w ∈ wsX50, w ∈ wq_X5_clear := fun _ h => List.mem_cons_of_mem _ (List.mem_append_right _ h)
set_option maxHeartbeats 4000000 in
set_option maxRecDepth 100000 in
theorem c_X5_clear (l : Launch) (dC : Nat → ClassId) (dI : Nat → Nat → Nat) (h : Nat) (r1 : Nat) (r2 : Nat) (c1 : ClassId) (f1 : Nat → Int32) (t : Nat) (f : Nat → Int32) (A : Nat → Prop) : Met l yX5_clear wq_X5_clear ({ frames := 1, cells := 0, slots := 0, locals := 60 }) (va_Pc [.ref h] (q_WE (dC, dI) A [(h, .inr (5, [.ref r1, .ref r2, .int 0])), (r1, .inl (c1, 8, .inl f1))] [(c1, .int)] (q_E t f A))) (q_wv A) 0 0 A := by
  refine Met.ofW (cc := cX5_clear) (maxL := 1) (ret := none) (by decide) rfl ?_
  intro p e s m args below meth c s₁ B hml hv
  obtain ⟨rfl, hP, hK, hD, hA, hE⟩ := hv
  have hx := B.exec
  have hb := B.bytes
  have hr := B.returns
  have hts := atoms_spec (ws := wq_X5_clear) B.pre
  have hown : s.vm.findClass RX5 = some m.cls := findClass_of_methodNamed B.named
  have hlocks := B.notSynchronized
  have hS : va_S A s.heap s.heap [] := va_S.rf
  have hl := lv_entry ([.ref h]) (n := 1) (Nat.le_of_ble_eq_true rfl)
  rw [lg_entry_eq]
  generalize (lg_sl ([.ref h]) ++ List.replicate (1 - (lg_sl ([.ref h])).length) Slot.unset).toArray = ls at hl ⊢
  have hl : lv_has ls 1 [(0, .ref h)] := hl
  refine va_getsN hx hb hE.2.1 hS hown (va_Nw.use rfl hE.1) (fun _ h9 => h9) dX5_clear_0 ?_
  refine lv_iconst (v := 0) hx hb dX5_clear_3 (by decide) ?_
  refine lv_aload_n hx hb dX5_clear_4 rfl (lv_at hl 0 rfl) ?_
  refine va_get (D := (dC, dI)) (ci := 5) (v := .ref r1) (C := RX5) (T := TX5) (N := 3) hx hb hts iq_X5_clear_5 hown hK hP 0 rfl rfl 0 (by decide) (hts (.fieldLink RX5 9 "HubTree$Plan" "rules" "[I") (List.mem_of_getElem? (i := 1) rfl)) (fun _ h9 => h9) rfl dX5_clear_5 ?_
  refine lv_iconst (v := 0) hx hb dX5_clear_8 (by decide) ?_
  refine lv_bipush (v := 8) hx hb dX5_clear_9 (by decide) ?_
  refine q_copyt hx hb (by rw [hml, hl.1]) hown (hts (.methodLink RX5 25 arraycopyName) (List.mem_of_getElem? (i := 2) rfl)) (hts (.native arraycopyName) (List.mem_of_getElem? (i := 3) rfl)) (hts (.static arraycopyName) (List.mem_of_getElem? (i := 4) rfl)) (hts (.initialized "java/lang/System") (List.mem_of_getElem? (i := 5) rfl)) hK hP hD hS hE.2.2 1 0 rfl rfl (by decide) (by decide) (by decide) (by decide) (by decide) (Nat.le_of_ble_eq_true rfl) (Nat.le_of_ble_eq_true rfl) dX5_clear_11 (fun H locs hP hD hS => ?_)
  obtain ⟨f_1, hP, hD⟩ : ∃ f9 : Nat → Int32, va_P (dC, dI) vwCl [(h, .inr (5, [.ref r1, .ref r2, .int 0])), (r1, .inl (c1, 8, .inl f9))] H ∧ va_D A [(h, .inr (5, [.ref r1, .ref r2, .int 0])), (r1, .inl (c1, 8, .inl f9))] := ⟨_, hP, hD⟩
  refine lv_aload_n hx hb dX5_clear_14 rfl (lv_at hl 0 rfl) ?_
  refine lv_iconst (v := 0) hx hb dX5_clear_15 (by decide) ?_
  refine va_put (D := (dC, dI)) (ci := 5) (v := .int 0) (ty := .int) (C := RX5) (T := TX5) (N := 3) hx hb hts iq_X5_clear_5 tyX5 tyX5_ok nmX5 hown hK hP hD hS 0 rfl rfl 2 (by decide) (hts (.fieldLink RX5 18 "HubTree$Plan" "devices" "I") (List.mem_of_getElem? (i := 6) rfl)) (fun _ h9 => h9) rfl (by decide +kernel) rfl rfl (Nat.le_of_ble_eq_true rfl) dX5_clear_16 (fun H locs hP hD hS => ?_)
  have hP : va_P (dC, dI) vwCl [(h, .inr (5, [.ref r1, .ref r2, .int 0])), (r1, .inl (c1, 8, .inl f_1))] H := hP
  have hD : va_D A [(h, .inr (5, [.ref r1, .ref r2, .int 0])), (r1, .inl (c1, 8, .inl f_1))] := hD
  exact W.vret hx hb hr (fun t ht hW => ⟨⟨(), rfl, trivial, trivial⟩, hS.F ht⟩) hS.2.2 dX5_clear_19

def wq_X6_readTree : List Cond := .code yX6_readTree cX6_readTree 6 (some .int) :: ([.methodLink RX6 22 yX5_clear, .instanceMethod yX5_clear, .selects RX5 yX5_clear yX5_clear, .initialized RX5, .code yX5_clear cX5_clear 1 none, .fieldLink RX5 9 "HubTree$Plan" "rules" "[I", .methodLink RX5 25 arraycopyName, .native arraycopyName, .static arraycopyName, .initialized "java/lang/System", .fieldLink RX5 18 "HubTree$Plan" "devices" "I", .fieldLink RX6 9 "HubTree$Reader" "at" "I", .methodLink RX6 27 yX6_skipBlanks, .instanceMethod yX6_skipBlanks, .selects RX6 yX6_skipBlanks yX6_skipBlanks, .initialized RX6, .code yX6_skipBlanks cX6_skipBlanks 1 none, .fieldLink RX6 18 "HubTree$Reader" "tape" "LHubTree$Tape;", .fieldLink RX6 67 "HubTree$Tape" "length" "I", .methodLink RX6 30 yX6_stands, .instanceMethod yX6_stands, .selects RX6 yX6_stands yX6_stands, .code yX6_stands cX6_stands 2 (some .boolean)] ++ wsX50 ++ wsX60 ++ wsX80)
set_option maxRecDepth 20000 in
theorem g_X6_readTree_X5_clear_22 : GoodIn wq_X6_readTree (wsV RX6 22 RX5 yX5_clear wq_X5_clear) := goodIn_r _ [1, 2, 3, 4, 5, 6, 7, 8, 9, 10, 11, 24, 25, 26] (by decide +kernel) (by decide +kernel)
set_option maxRecDepth 20000 in
theorem g_X6_readTree_X6_skipBlanks_27 : GoodIn wq_X6_readTree (wsV RX6 27 RX6 yX6_skipBlanks wq_X6_skipBlanks) := goodIn_r _ [13, 14, 15, 16, 17, 12, 18, 19, 27, 28, 29, 30, 31] (by decide +kernel) (by decide +kernel)
set_option maxRecDepth 20000 in
theorem g_X6_readTree_X6_stands_30 : GoodIn wq_X6_readTree (wsV RX6 30 RX6 yX6_stands wq_X6_stands) := goodIn_r _ [20, 21, 22, 16, 23, 12, 18, 19, 27, 28, 29, 30, 31] (by decide +kernel) (by decide +kernel)
theorem iq_X6_readTree_5 : ∀ w ∈ wsX50, w ∈ wq_X6_readTree := fun _ h => List.mem_cons_of_mem _ (List.mem_append_left _ (List.mem_append_left _ (List.mem_append_right _ h)))
theorem iq_X6_readTree_6 : ∀ w ∈ wsX60, w ∈ wq_X6_readTree := fun _ h => List.mem_cons_of_mem _ (List.mem_append_left _ (List.mem_append_right _ h))
theorem iq_X6_readTree_8 : ∀ w ∈ wsX80, w ∈ wq_X6_readTree := fun _ h => List.mem_cons_of_mem _ (List.mem_append_right _ h)
set_option maxHeartbeats 4000000 in
set_option maxRecDepth 100000 in
theorem c_X6_readTree (l : Launch) (dC : Nat → ClassId) (dI : Nat → Nat → Nat) (h : Nat) (tp : Nat) (by_ : Nat) (g : Nat) (r1 : Nat) (r2 : Nat) (c1 : ClassId) (f1 : Nat → Int32) (t : Nat) (f : Nat → Int32) (A : Nat → Prop) : Met l yX6_readTree wq_X6_readTree ({ frames := 2, cells := 0, slots := 0, locals := 80 }) (va_Pc [.ref h, .ref g] (q_WE (dC, dI) A [(h, .inr (6, [.ref tp, .int 0, .int 0])), (tp, .inr (8, [.ref by_, .int 0])), (g, .inr (5, [.ref r1, .ref r2, .int 0])), (r1, .inl (c1, 8, .inl f1))] [(c1, .int)] (q_E t f A))) (q_wi (0) A) 0 0 A := by
  refine Met.ofW (cc := cX6_readTree) (maxL := 6) (ret := (some .int)) (by decide) rfl ?_
  intro p e s m args below meth c s₁ B hml hv
  obtain ⟨rfl, hP, hK, hD, hA, hE⟩ := hv
  have hx := B.exec
  have hb := B.bytes
  have hr := B.returns
  have hts := atoms_spec (ws := wq_X6_readTree) B.pre
  have hown : s.vm.findClass RX6 = some m.cls := findClass_of_methodNamed B.named
  have hlocks := B.notSynchronized
  have hS : va_S A s.heap s.heap [] := va_S.rf
  have hl := lv_entry ([.ref h, .ref g]) (n := 6) (Nat.le_of_ble_eq_true rfl)
  rw [lg_entry_eq]
  generalize (lg_sl ([.ref h, .ref g]) ++ List.replicate (6 - (lg_sl ([.ref h, .ref g])).length) Slot.unset).toArray = ls at hl ⊢
  have hl : lv_has ls 6 [(0, .ref h), (1, .ref g)] := hl
  refine lv_aload_n hx hb dX6_readTree_0 rfl (lv_at hl 1 rfl) ?_
  refine q_govF (wr := [(h, .inr (6, [.ref tp, .int 0, .int 0])), (tp, .inr (8, [.ref by_, .int 0]))]) (va_runV (As := []) (rest := []) ⟨hx, hb, hml, hown, hts⟩ (c_X5_clear l dC dI g r1 r2 c1 f1 t f (va_A [(g, .inr (5, [.ref r1, .ref r2, .int 0])), (r1, .inl (c1, 8, .inl f1))] s.heap.size)) (cwV 0 hts g_X6_readTree_X5_clear_22 rfl rfl rfl (by decide +kernel) ⟨Nat.le_of_ble_eq_true rfl, Nat.le_of_ble_eq_true rfl⟩) (q_preWVE hK hP hD (ci := 5) (q0 := 2) rfl rfl [2, 3] (by decide) rfl rfl [0] rfl q_E_bl (q_E_give hE hS (va_free (wc := [(g, .inr (5, [.ref r1, .ref r2, .int 0])), (r1, .inl (c1, 8, .inl f1))]) hD hS hA [2, 3] rfl))) rfl rfl hl.1 rfl (lv_room (Nat.le_of_ble_eq_true rfl)) dX6_readTree_1 ⟨Nat.le_of_ble_eq_true rfl, Nat.le_of_ble_eq_true rfl⟩) hP hD hS hA [2, 3] [0, 1] rfl rfl (by decide) (by decide) (fun H locs hP hD hS => ?_)
  have hP : va_P (dC, dI) vwCl [(h, .inr (6, [.ref tp, .int 0, .int 0])), (tp, .inr (8, [.ref by_, .int 0]))] H := hP
  have hD : va_D A [(h, .inr (6, [.ref tp, .int 0, .int 0])), (tp, .inr (8, [.ref by_, .int 0]))] := hD
  refine lv_aload_n hx hb dX6_readTree_4 rfl (lv_at hl 0 rfl) ?_
  refine lv_iconst (v := 0) hx hb dX6_readTree_5 (by decide) ?_
  refine va_put (D := (dC, dI)) (ci := 6) (v := .int 0) (ty := .int) (C := RX6) (T := TX6) (N := 3) hx hb hts iq_X6_readTree_6 tyX6 tyX6_ok nmX6 hown hK hP hD hS 0 rfl rfl 1 (by decide) (hts (.fieldLink RX6 9 "HubTree$Reader" "at" "I") (List.mem_of_getElem? (i := 12) rfl)) (fun _ h9 => h9) rfl (by decide +kernel) rfl rfl (Nat.le_of_ble_eq_true rfl) dX6_readTree_6 (fun H locs hP hD hS => ?_)
  have hP : va_P (dC, dI) vwCl [(h, .inr (6, [.ref tp, .int 0, .int 0])), (tp, .inr (8, [.ref by_, .int 0]))] H := hP
  have hD : va_D A [(h, .inr (6, [.ref tp, .int 0, .int 0])), (tp, .inr (8, [.ref by_, .int 0]))] := hD
  refine lv_iconst (v := 0) hx hb dX6_readTree_9 (by decide) ?_
  refine lv_istore_n (lv' := [(2, .int 0), (0, .ref h), (1, .ref g)]) hx hb dX6_readTree_10 rfl hl (by decide) rfl (fun ls hl => ?_)
  refine lv_iconst (v := 0) hx hb dX6_readTree_11 (by decide) ?_
  refine lv_istore_n (lv' := [(3, .int 0), (2, .int 0), (0, .ref h), (1, .ref g)]) hx hb dX6_readTree_12 rfl hl (by decide) rfl (fun ls hl => ?_)
  refine lv_iload_n hx hb dX6_readTree_13 rfl (lv_at hl 0 rfl) ?_
  refine lv_sipush (v := 240) hx hb dX6_readTree_14 (by decide) ?_
  refine lv_icmp_ge (tgt := 177) hx hb dX6_readTree_17 (by decide) (fun c_1 => ?_) (fun c_1 => ?_)
  · exact absurd c_1 (by decide)
  refine lv_aload_n hx hb dX6_readTree_20 rfl (lv_at hl 2 rfl) ?_
  refine q_gov (va_runV (As := []) (rest := []) ⟨hx, hb, hml, hown, hts⟩ (c_X6_skipBlanks l dC dI h tp by_) (cwV 0 hts g_X6_readTree_X6_skipBlanks_27 rfl rfl rfl (by decide +kernel) ⟨Nat.le_of_ble_eq_true rfl, Nat.le_of_ble_eq_true rfl⟩) (q_preV hK hP (ci := 6) (q0 := 0) rfl rfl [0, 1] rfl [] rfl) rfl rfl hl.1 rfl (lv_room (Nat.le_of_ble_eq_true rfl)) dX6_readTree_21 ⟨Nat.le_of_ble_eq_true rfl, Nat.le_of_ble_eq_true rfl⟩) hP hS (fun H locs hP hS => ?_)
  refine lv_aload_n hx hb dX6_readTree_24 rfl (lv_at hl 2 rfl) ?_
  refine lv_bipush (v := 115) hx hb dX6_readTree_25 (by decide) ?_
  refine q_goi (v := 0) (va_runV (As := [.int 115]) (rest := []) ⟨hx, hb, hml, hown, hts⟩ (c_X6_stands l dC dI h tp by_ 115) (cwV 1 hts g_X6_readTree_X6_stands_30 rfl rfl rfl (by decide +kernel) ⟨Nat.le_of_ble_eq_true rfl, Nat.le_of_ble_eq_true rfl⟩) (q_preV hK hP (ci := 6) (q0 := 0) rfl rfl [0, 1] rfl [] rfl) rfl rfl hl.1 rfl (lv_room (Nat.le_of_ble_eq_true rfl)) dX6_readTree_27 ⟨Nat.le_of_ble_eq_true rfl, Nat.le_of_ble_eq_true rfl⟩) hP hS (fun H locs hP hS => ?_)
  refine lv_if_eq (tgt := 62) hx hb dX6_readTree_30 (by decide) (fun c_2 => ?_) (fun c_2 => ?_)
  · skip
    refine lv_aload_n hx hb dX6_readTree_62 rfl (lv_at hl 2 rfl) ?_
    refine lv_bipush (v := 100) hx hb dX6_readTree_63 (by decide) ?_
    refine q_goi (v := 0) (va_runV (As := [.int 100]) (rest := []) ⟨hx, hb, hml, hown, hts⟩ (c_X6_stands l dC dI h tp by_ 100) (cwV 1 hts g_X6_readTree_X6_stands_30 rfl rfl rfl (by decide +kernel) ⟨Nat.le_of_ble_eq_true rfl, Nat.le_of_ble_eq_true rfl⟩) (q_preV hK hP (ci := 6) (q0 := 0) rfl rfl [0, 1] rfl [] rfl) rfl rfl hl.1 rfl (lv_room (Nat.le_of_ble_eq_true rfl)) dX6_readTree_65 ⟨Nat.le_of_ble_eq_true rfl, Nat.le_of_ble_eq_true rfl⟩) hP hS (fun H locs hP hS => ?_)
    refine lv_if_eq (tgt := 117) hx hb dX6_readTree_68 (by decide) (fun c_3 => ?_) (fun c_3 => ?_)
    · skip
      refine lv_aload_n hx hb dX6_readTree_117 rfl (lv_at hl 2 rfl) ?_
      refine va_get (D := (dC, dI)) (ci := 6) (v := .int 0) (C := RX6) (T := TX6) (N := 3) hx hb hts iq_X6_readTree_6 hown hK hP 0 rfl rfl 1 (by decide) (hts (.fieldLink RX6 9 "HubTree$Reader" "at" "I") (List.mem_of_getElem? (i := 12) rfl)) (fun _ h9 => h9) rfl dX6_readTree_118 ?_
      exact W.iret (v := 0) hx hb hr (fun t ht hW => ⟨⟨0, (), rfl, rfl, trivial⟩, hS.F ht⟩) hS.2.2 dX6_readTree_121
    · exact absurd (by decide) c_3
  · exact absurd (by decide) c_2

def wq_J7_fill_53178 : List Cond := .code yJ7_fill_53178 cJ7_fill_53178 4 none :: ([])
set_option maxHeartbeats 4000000 in
set_option maxRecDepth 100000 in
theorem c_J7_fill_53178 (l : Launch) (dC : Nat → ClassId) (dI : Nat → Nat → Nat) (h : Nat) (c1 : ClassId) (f1 : Nat → Int32) (d : Int32) (A : Nat → Prop) : Met l yJ7_fill_53178 wq_J7_fill_53178 ({ frames := 0, cells := 0, slots := 0, locals := 0 }) (va_Pc [.ref h, .int d] (q_W (dC, dI) A [(h, .inl (c1, 64, .inl f1))] [(c1, .int)])) (q_wv A) 0 0 A := by
  refine Met.ofW (cc := cJ7_fill_53178) (maxL := 4) (ret := none) (by decide) rfl ?_
  intro p e s m args below meth c s₁ B hml hv
  obtain ⟨rfl, hP, hK, hD, hA⟩ := hv
  have hx := B.exec
  have hb := B.bytes
  have hr := B.returns
  have hts := atoms_spec (ws := wq_J7_fill_53178) B.pre
  have hown : s.vm.findClass RJ7 = some m.cls := findClass_of_methodNamed B.named
  have hlocks := B.notSynchronized
  have hS : va_S A s.heap s.heap [] := va_S.rf
  have hl := lv_entry ([.ref h, .int d]) (n := 4) (Nat.le_of_ble_eq_true rfl)
  rw [lg_entry_eq]
  generalize (lg_sl ([.ref h, .int d]) ++ List.replicate (4 - (lg_sl ([.ref h, .int d])).length) Slot.unset).toArray = ls at hl ⊢
  have hl : lv_has ls 4 [(0, .ref h), (1, .int d)] := hl
  refine lv_iconst (v := 0) hx hb dJ7_fill_53178_0 (by decide) ?_
  refine lv_istore_n (lv' := [(2, .int 0), (0, .ref h), (1, .int d)]) hx hb dJ7_fill_53178_1 rfl hl (by decide) rfl (fun ls hl => ?_)
  refine lv_aload_n hx hb dJ7_fill_53178_2 rfl (lv_at hl 1 rfl) ?_
  refine va_alen hx hb hK hP 0 0 rfl rfl (v := 64) rfl dJ7_fill_53178_3 ?_
  refine lv_istore_n (lv' := [(3, .int 64), (2, .int 0), (0, .ref h), (1, .int d)]) hx hb dJ7_fill_53178_4 rfl hl (by decide) rfl (fun ls hl => ?_)
  have loop : ∀ (n i : Nat), i ≤ 64 → 64 < i + n → ∀ (x : Int32) (f : Nat → Int32) (H : Heap) (locs : List Loc) (ls : Array Slot), x = nI i → va_P (dC, dI) vwCl [(h, .inl (c1, 64, .inl f))] H → va_D A [(h, .inl (c1, 64, .inl f))] → va_S A s.heap H locs → lv_has ls 4 [(3, .int 64), (2, .int x), (0, .ref h), (1, .int d)] → W p l e (headSpec wq_J7_fill_53178 ({ frames := 0, cells := 0, slots := 0, locals := 0 })).room s m #[.ref h, .int d] below meth c H locs 0 0 (MQ below (q_wv A) #[.ref h, .int d] s 0 0 A) (F0 m 5 ls []) := by
    clear hP hD hS hl
    intro n
    induction n with
    | zero => intro i h1 h2; omega
    | succ n ih =>
      intro i h1 h2 x f H locs ls ex hP hD hS hl
      refine lv_iload_n hx hb dJ7_fill_53178_5 rfl (lv_at hl 1 rfl) ?_
      refine lv_iload_n hx hb dJ7_fill_53178_6 rfl (lv_at hl 0 rfl) ?_
      refine lv_icmp_ge (tgt := 20) hx hb dJ7_fill_53178_7 (by decide) (fun c_1 => ?_) (fun c_1 => ?_)
      · exact W.vret hx hb hr (fun t ht hW => ⟨⟨(), rfl, trivial, trivial⟩, hS.F ht⟩) hS.2.2 dJ7_fill_53178_20
      · have hi : i < 64 := by
          rcases Nat.lt_or_ge i 64 with q | q
          · exact q
          · exact absurd (by rw [ex]; exact nI_le q (by omega)) c_1
        refine lv_aload_n hx hb dJ7_fill_53178_10 rfl (lv_at hl 2 rfl) ?_
        refine lv_iload_n hx hb dJ7_fill_53178_11 rfl (lv_at hl 1 rfl) ?_
        refine lv_iload_n hx hb dJ7_fill_53178_12 rfl (lv_at hl 3 rfl) ?_
        refine va_iast hx hb hK hP hD hS 0 0 rfl rfl (i := x) (x := d) (by rw [ex]; exact vp_in_nI hi (by decide)) dJ7_fill_53178_13 (fun H locs hP hD hS => ?_)
        refine lv_iinc (v := x + 1) (lv' := [(2, .int (x + 1)), (3, .int 64), (0, .ref h), (1, .int d)]) hx hb dJ7_fill_53178_14 hl (k := 1) rfl rfl (by decide) rfl (fun ls hl => ?_)
        refine lv_goto (tgt := 5) hx hb dJ7_fill_53178_17 (by decide) ?_
        exact ih (i + 1) hi (by omega) (x + 1) _ H locs ls (by rw [ex]; exact nI_1 i) hP hD hS (lv_sub hl [1, 0, 2, 3] rfl)
  exact loop 65 0 (by decide) (by decide) 0 f1 s.heap [] ls rfl hP hD hS hl

def wq_X6_readScript : List Cond := .code yX6_readScript cX6_readScript 4 (some .int) :: ([.fieldLink RX6 93 "HubTree$Scripts" "draft" "[I", .methodLink RX6 98 yJ7_fill_53178, .static yJ7_fill_53178, .initialized RJ7, .code yJ7_fill_53178 cJ7_fill_53178 4 none, .fieldLink RX6 9 "HubTree$Reader" "at" "I", .methodLink RX6 27 yX6_skipBlanks, .instanceMethod yX6_skipBlanks, .selects RX6 yX6_skipBlanks yX6_skipBlanks, .initialized RX6, .code yX6_skipBlanks cX6_skipBlanks 1 none, .fieldLink RX6 18 "HubTree$Reader" "tape" "LHubTree$Tape;", .fieldLink RX6 67 "HubTree$Tape" "length" "I"] ++ wsX70 ++ wsX60 ++ wsX80)
set_option maxRecDepth 20000 in
theorem g_X6_readScript_J7_fill_53178_98 : GoodIn wq_X6_readScript (va_wsS RX6 98 yJ7_fill_53178 wq_J7_fill_53178) := goodIn_r _ [2, 3, 4, 5] (by decide +kernel) (by decide +kernel)
set_option maxRecDepth 20000 in
theorem g_X6_readScript_X6_skipBlanks_27 : GoodIn wq_X6_readScript (wsV RX6 27 RX6 yX6_skipBlanks wq_X6_skipBlanks) := goodIn_r _ [7, 8, 9, 10, 11, 6, 12, 13, 19, 20, 21, 22, 23] (by decide +kernel) (by decide +kernel)
theorem iq_X6_readScript_7 : ∀ w ∈ wsX70, w ∈ wq_X6_readScript := fun _ h => List.mem_cons_of_mem _ (List.mem_append_left _ (List.mem_append_left _ (List.mem_append_right _ h)))
theorem iq_X6_readScript_6 : ∀ w ∈ wsX60, w ∈ wq_X6_readScript := fun _ h => List.mem_cons_of_mem _ (List.mem_append_left _ (List.mem_append_right _ h))
theorem iq_X6_readScript_8 : ∀ w ∈ wsX80, w ∈ wq_X6_readScript := fun _ h => List.mem_cons_of_mem _ (List.mem_append_right _ h)
set_option maxHeartbeats 4000000 in
set_option maxRecDepth 100000 in
theorem c_X6_readScript (l : Launch) (dC : Nat → ClassId) (dI : Nat → Nat → Nat) (h : Nat) (tp : Nat) (by_ : Nat) (g : Nat) (s1 : Nat) (s2 : Nat) (s3 : Nat) (c3 : ClassId) (f3 : Nat → Int32) (A : Nat → Prop) : Met l yX6_readScript wq_X6_readScript ({ frames := 1, cells := 0, slots := 0, locals := 23 }) (va_Pc [.ref h, .ref g] (q_W (dC, dI) A [(h, .inr (6, [.ref tp, .int 0, .int 0])), (tp, .inr (8, [.ref by_, .int 0])), (g, .inr (7, [.ref s1, .ref s2, .ref s3, .int 0, .int 0])), (s3, .inl (c3, 64, .inl f3))] [(c3, .int)])) (q_wi (0) A) 0 0 A := by
  refine Met.ofW (cc := cX6_readScript) (maxL := 4) (ret := (some .int)) (by decide) rfl ?_
  intro p e s m args below meth c s₁ B hml hv
  obtain ⟨rfl, hP, hK, hD, hA⟩ := hv
  have hx := B.exec
  have hb := B.bytes
  have hr := B.returns
  have hts := atoms_spec (ws := wq_X6_readScript) B.pre
  have hown : s.vm.findClass RX6 = some m.cls := findClass_of_methodNamed B.named
  have hlocks := B.notSynchronized
  have hS : va_S A s.heap s.heap [] := va_S.rf
  have hl := lv_entry ([.ref h, .ref g]) (n := 4) (Nat.le_of_ble_eq_true rfl)
  rw [lg_entry_eq]
  generalize (lg_sl ([.ref h, .ref g]) ++ List.replicate (4 - (lg_sl ([.ref h, .ref g])).length) Slot.unset).toArray = ls at hl ⊢
  have hl : lv_has ls 4 [(0, .ref h), (1, .ref g)] := hl
  refine lv_aload_n hx hb dX6_readScript_0 rfl (lv_at hl 1 rfl) ?_
  refine va_get (D := (dC, dI)) (ci := 7) (v := .ref s3) (C := RX7) (T := TX7) (N := 5) hx hb hts iq_X6_readScript_7 hown hK hP 2 rfl rfl 2 (by decide) (hts (.fieldLink RX6 93 "HubTree$Scripts" "draft" "[I") (List.mem_of_getElem? (i := 1) rfl)) (fun _ h9 => h9) rfl dX6_readScript_1 ?_
  refine lv_iconst (v := (-1)) hx hb dX6_readScript_4 (by decide) ?_
  refine q_govF (wr := [(h, .inr (6, [.ref tp, .int 0, .int 0])), (tp, .inr (8, [.ref by_, .int 0])), (g, .inr (7, [.ref s1, .ref s2, .ref s3, .int 0, .int 0]))]) (va_runS (As := [.ref s3, .int (-1)]) (rest := []) ⟨hx, hb, hml, hown, hts⟩ (c_J7_fill_53178 l dC dI s3 c3 f3 (-1) (va_A [(s3, .inl (c3, 64, .inl f3))] s.heap.size)) (va_cwS 2 hts g_X6_readScript_J7_fill_53178_98 rfl rfl rfl (by decide +kernel) ⟨Nat.le_of_ble_eq_true rfl, Nat.le_of_ble_eq_true rfl⟩) (q_preW hK hP hD [3] (by decide) rfl rfl [0] rfl) rfl rfl hl.1 rfl (lv_room (Nat.le_of_ble_eq_true rfl)) dX6_readScript_5 ⟨Nat.le_of_ble_eq_true rfl, Nat.le_of_ble_eq_true rfl⟩) hP hD hS hA [3] [0, 1, 2] rfl rfl (by decide) (by decide) (fun H locs hP hD hS => ?_)
  have hP : va_P (dC, dI) vwCl [(h, .inr (6, [.ref tp, .int 0, .int 0])), (tp, .inr (8, [.ref by_, .int 0])), (g, .inr (7, [.ref s1, .ref s2, .ref s3, .int 0, .int 0]))] H := hP
  have hD : va_D A [(h, .inr (6, [.ref tp, .int 0, .int 0])), (tp, .inr (8, [.ref by_, .int 0])), (g, .inr (7, [.ref s1, .ref s2, .ref s3, .int 0, .int 0]))] := hD
  refine lv_aload_n hx hb dX6_readScript_8 rfl (lv_at hl 0 rfl) ?_
  refine lv_iconst (v := 0) hx hb dX6_readScript_9 (by decide) ?_
  refine va_put (D := (dC, dI)) (ci := 6) (v := .int 0) (ty := .int) (C := RX6) (T := TX6) (N := 3) hx hb hts iq_X6_readScript_6 tyX6 tyX6_ok nmX6 hown hK hP hD hS 0 rfl rfl 1 (by decide) (hts (.fieldLink RX6 9 "HubTree$Reader" "at" "I") (List.mem_of_getElem? (i := 6) rfl)) (fun _ h9 => h9) rfl (by decide +kernel) rfl rfl (Nat.le_of_ble_eq_true rfl) dX6_readScript_10 (fun H locs hP hD hS => ?_)
  have hP : va_P (dC, dI) vwCl [(h, .inr (6, [.ref tp, .int 0, .int 0])), (tp, .inr (8, [.ref by_, .int 0])), (g, .inr (7, [.ref s1, .ref s2, .ref s3, .int 0, .int 0]))] H := hP
  have hD : va_D A [(h, .inr (6, [.ref tp, .int 0, .int 0])), (tp, .inr (8, [.ref by_, .int 0])), (g, .inr (7, [.ref s1, .ref s2, .ref s3, .int 0, .int 0]))] := hD
  refine lv_iconst (v := 0) hx hb dX6_readScript_13 (by decide) ?_
  refine lv_istore_n (lv' := [(2, .int 0), (0, .ref h), (1, .ref g)]) hx hb dX6_readScript_14 rfl hl (by decide) rfl (fun ls hl => ?_)
  refine lv_iload_n hx hb dX6_readScript_15 rfl (lv_at hl 0 rfl) ?_
  refine lv_bipush (v := 16) hx hb dX6_readScript_16 (by decide) ?_
  refine lv_icmp_ge (tgt := 163) hx hb dX6_readScript_18 (by decide) (fun c_1 => ?_) (fun c_1 => ?_)
  · exact absurd c_1 (by decide)
  refine lv_aload_n hx hb dX6_readScript_21 rfl (lv_at hl 1 rfl) ?_
  refine q_gov (va_runV (As := []) (rest := []) ⟨hx, hb, hml, hown, hts⟩ (c_X6_skipBlanks l dC dI h tp by_) (cwV 0 hts g_X6_readScript_X6_skipBlanks_27 rfl rfl rfl (by decide +kernel) ⟨Nat.le_of_ble_eq_true rfl, Nat.le_of_ble_eq_true rfl⟩) (q_preV hK hP (ci := 6) (q0 := 0) rfl rfl [0, 1] rfl [] rfl) rfl rfl hl.1 rfl (lv_room (Nat.le_of_ble_eq_true rfl)) dX6_readScript_22 ⟨Nat.le_of_ble_eq_true rfl, Nat.le_of_ble_eq_true rfl⟩) hP hS (fun H locs hP hS => ?_)
  refine lv_aload_n hx hb dX6_readScript_25 rfl (lv_at hl 1 rfl) ?_
  refine va_get (D := (dC, dI)) (ci := 6) (v := .int 0) (C := RX6) (T := TX6) (N := 3) hx hb hts iq_X6_readScript_6 hown hK hP 0 rfl rfl 1 (by decide) (hts (.fieldLink RX6 9 "HubTree$Reader" "at" "I") (List.mem_of_getElem? (i := 6) rfl)) (fun _ h9 => h9) rfl dX6_readScript_26 ?_
  refine lv_aload_n hx hb dX6_readScript_29 rfl (lv_at hl 1 rfl) ?_
  refine va_get (D := (dC, dI)) (ci := 6) (v := .ref tp) (C := RX6) (T := TX6) (N := 3) hx hb hts iq_X6_readScript_6 hown hK hP 0 rfl rfl 0 (by decide) (hts (.fieldLink RX6 18 "HubTree$Reader" "tape" "LHubTree$Tape;") (List.mem_of_getElem? (i := 12) rfl)) (fun _ h9 => h9) rfl dX6_readScript_30 ?_
  refine va_get (D := (dC, dI)) (ci := 8) (v := .int 0) (C := RX8) (T := TX8) (N := 2) hx hb hts iq_X6_readScript_8 hown hK hP 1 rfl rfl 1 (by decide) (hts (.fieldLink RX6 67 "HubTree$Tape" "length" "I") (List.mem_of_getElem? (i := 13) rfl)) (fun _ h9 => h9) rfl dX6_readScript_33 ?_
  refine lv_icmp_ge (tgt := 59) hx hb dX6_readScript_36 (by decide) (fun c_2 => ?_) (fun c_2 => ?_)
  · skip
    refine lv_iconst (v := (-1)) hx hb dX6_readScript_59 (by decide) ?_
    refine lv_istore_n (lv' := [(3, .int (-1)), (2, .int 0), (0, .ref h), (1, .ref g)]) hx hb dX6_readScript_60 rfl hl (by decide) rfl (fun ls hl => ?_)
    refine lv_iload_n hx hb dX6_readScript_61 rfl (lv_at hl 0 rfl) ?_
    refine lv_if_ge (tgt := 70) hx hb dX6_readScript_62 (by decide) (fun c_3 => ?_) (fun c_3 => ?_)
    · exact absurd c_3 (by decide)
    refine lv_aload_n hx hb dX6_readScript_65 rfl (lv_at hl 2 rfl) ?_
    refine va_get (D := (dC, dI)) (ci := 6) (v := .int 0) (C := RX6) (T := TX6) (N := 3) hx hb hts iq_X6_readScript_6 hown hK hP 0 rfl rfl 1 (by decide) (hts (.fieldLink RX6 9 "HubTree$Reader" "at" "I") (List.mem_of_getElem? (i := 6) rfl)) (fun _ h9 => h9) rfl dX6_readScript_66 ?_
    exact W.iret (v := 0) hx hb hr (fun t ht hW => ⟨⟨0, (), rfl, rfl, trivial⟩, hS.F ht⟩) hS.2.2 dX6_readScript_69
  · exact absurd (by decide) c_2

def wq_X9_takeTree : List Cond := .code yX9_takeTree cX9_takeTree 1 (some .int) :: ([.fieldLink RX9 21 "HubTree" "reader" "LHubTree$Reader;", .fieldLink RX9 28 "HubTree" "draft" "LHubTree$Plan;", .methodLink RX9 110 yX6_readTree, .instanceMethod yX6_readTree, .selects RX6 yX6_readTree yX6_readTree, .initialized RX6, .code yX6_readTree cX6_readTree 6 (some .int), .methodLink RX6 22 yX5_clear, .instanceMethod yX5_clear, .selects RX5 yX5_clear yX5_clear, .initialized RX5, .code yX5_clear cX5_clear 1 none, .fieldLink RX5 9 "HubTree$Plan" "rules" "[I", .methodLink RX5 25 arraycopyName, .native arraycopyName, .static arraycopyName, .initialized "java/lang/System", .fieldLink RX5 18 "HubTree$Plan" "devices" "I", .fieldLink RX6 9 "HubTree$Reader" "at" "I", .methodLink RX6 27 yX6_skipBlanks, .instanceMethod yX6_skipBlanks, .selects RX6 yX6_skipBlanks yX6_skipBlanks, .code yX6_skipBlanks cX6_skipBlanks 1 none, .fieldLink RX6 18 "HubTree$Reader" "tape" "LHubTree$Tape;", .fieldLink RX6 67 "HubTree$Tape" "length" "I", .methodLink RX6 30 yX6_stands, .instanceMethod yX6_stands, .selects RX6 yX6_stands yX6_stands, .code yX6_stands cX6_stands 2 (some .boolean)] ++ wsX90 ++ wsX50 ++ wsX60 ++ wsX80)
set_option maxRecDepth 20000 in
theorem g_X9_takeTree_X6_readTree_110 : GoodIn wq_X9_takeTree (wsV RX9 110 RX6 yX6_readTree wq_X6_readTree) := goodIn_r _ [3, 4, 5, 6, 7, 8, 9, 10, 11, 12, 13, 14, 15, 16, 17, 18, 19, 20, 21, 22, 6, 23, 24, 25, 26, 27, 28, 29, 45, 46, 47, 48, 49, 50, 51, 52] (by decide +kernel) (by decide +kernel)
theorem iq_X9_takeTree_9 : ∀ w ∈ wsX90, w ∈ wq_X9_takeTree := fun _ h => List.mem_cons_of_mem _ (List.mem_append_left _ (List.mem_append_left _ (List.mem_append_left _ (List.mem_append_right _ h))))
theorem iq_X9_takeTree_5 : ∀ w ∈ wsX50, w ∈ wq_X9_takeTree := fun _ h => List.mem_cons_of_mem _ (List.mem_append_left _ (List.mem_append_left _ (List.mem_append_right _ h)))
theorem iq_X9_takeTree_6 : ∀ w ∈ wsX60, w ∈ wq_X9_takeTree := fun _ h => List.mem_cons_of_mem _ (List.mem_append_left _ (List.mem_append_right _ h))
theorem iq_X9_takeTree_8 : ∀ w ∈ wsX80, w ∈ wq_X9_takeTree := fun _ h => List.mem_cons_of_mem _ (List.mem_append_right _ h)
set_option maxHeartbeats 4000000 in
set_option maxRecDepth 100000 in
theorem c_X9_takeTree (l : Launch) (dC : Nat → ClassId) (dI : Nat → Nat → Nat) (a : Nat → Nat) (k : Nat → ClassId) (t : Nat) (f : Nat → Int32) (A : Nat → Prop) : Met l yX9_takeTree wq_X9_takeTree ({ frames := 3, cells := 0, slots := 0, locals := 105 }) (va_Pc [.ref (a 0)] (q_WE (dC, dI) A [((a 0), .inr (9, [.ref (a 1), .ref (a 3), .ref (a 4), .ref (a 7), .ref (a 10), .ref (a 14), .ref (a 16), .ref (a 18), .ref (a 19), .ref (a 21), .ref (a 23), .ref (a 25), .ref (a 27), .ref (a 28), .int 0])), ((a 3), .inr (6, [.ref (a 1), .int 0, .int 0])), ((a 1), .inr (8, [.ref (a 2), .int 0])), ((a 4), .inr (5, [.ref (a 5), .ref (a 6), .int 0])), ((a 5), .inl ((k 5), 8, .inl (fun _ => 0)))] [((k 5), .int)] (q_E t f A))) (q_wi (-1) A) 0 0 A := by
  refine Met.ofW (cc := cX9_takeTree) (maxL := 1) (ret := (some .int)) (by decide) rfl ?_
  intro p e s m args below meth c s₁ B hml hv
  obtain ⟨rfl, hP, hK, hD, hA, hE⟩ := hv
  have hx := B.exec
  have hb := B.bytes
  have hr := B.returns
  have hts := atoms_spec (ws := wq_X9_takeTree) B.pre
  have hown : s.vm.findClass RX9 = some m.cls := findClass_of_methodNamed B.named
  have hlocks := B.notSynchronized
  have hS : va_S A s.heap s.heap [] := va_S.rf
  have hl := lv_entry ([.ref (a 0)]) (n := 1) (Nat.le_of_ble_eq_true rfl)
  rw [lg_entry_eq]
  generalize (lg_sl ([.ref (a 0)]) ++ List.replicate (1 - (lg_sl ([.ref (a 0)])).length) Slot.unset).toArray = ls at hl ⊢
  have hl : lv_has ls 1 [(0, .ref (a 0))] := hl
  refine lv_aload_n hx hb dX9_takeTree_0 rfl (lv_at hl 0 rfl) ?_
  refine va_get (D := (dC, dI)) (ci := 9) (v := .ref (a 3)) (C := RX9) (T := TX9) (N := 15) hx hb hts iq_X9_takeTree_9 hown hK hP 0 rfl rfl 1 (by decide) (hts (.fieldLink RX9 21 "HubTree" "reader" "LHubTree$Reader;") (List.mem_of_getElem? (i := 1) rfl)) (fun _ h9 => h9) rfl dX9_takeTree_1 ?_
  refine lv_aload_n hx hb dX9_takeTree_4 rfl (lv_at hl 0 rfl) ?_
  refine va_get (D := (dC, dI)) (ci := 9) (v := .ref (a 4)) (C := RX9) (T := TX9) (N := 15) hx hb hts iq_X9_takeTree_9 hown hK hP 0 rfl rfl 2 (by decide) (hts (.fieldLink RX9 28 "HubTree" "draft" "LHubTree$Plan;") (List.mem_of_getElem? (i := 2) rfl)) (fun _ h9 => h9) rfl dX9_takeTree_5 ?_
  refine q_goiF (v := 0) (wr := [((a 0), .inr (9, [.ref (a 1), .ref (a 3), .ref (a 4), .ref (a 7), .ref (a 10), .ref (a 14), .ref (a 16), .ref (a 18), .ref (a 19), .ref (a 21), .ref (a 23), .ref (a 25), .ref (a 27), .ref (a 28), .int 0]))]) (va_runV (As := [.ref (a 4)]) (rest := []) ⟨hx, hb, hml, hown, hts⟩ (c_X6_readTree l dC dI (a 3) (a 1) (a 2) (a 4) (a 5) (a 6) (k 5) (fun _ => 0) t f (va_A [((a 3), .inr (6, [.ref (a 1), .int 0, .int 0])), ((a 1), .inr (8, [.ref (a 2), .int 0])), ((a 4), .inr (5, [.ref (a 5), .ref (a 6), .int 0])), ((a 5), .inl ((k 5), 8, .inl (fun _ => 0)))] s.heap.size)) (cwV 1 hts g_X9_takeTree_X6_readTree_110 rfl rfl rfl (by decide +kernel) ⟨Nat.le_of_ble_eq_true rfl, Nat.le_of_ble_eq_true rfl⟩) (q_preWVE hK hP hD (ci := 6) (q0 := 1) rfl rfl [1, 2, 3, 4] (by decide) rfl rfl [0] rfl q_E_bl (q_E_give hE hS (va_free (wc := [((a 3), .inr (6, [.ref (a 1), .int 0, .int 0])), ((a 1), .inr (8, [.ref (a 2), .int 0])), ((a 4), .inr (5, [.ref (a 5), .ref (a 6), .int 0])), ((a 5), .inl ((k 5), 8, .inl (fun _ => 0)))]) hD hS hA [1, 2, 3, 4] rfl))) rfl rfl hl.1 rfl (lv_room (Nat.le_of_ble_eq_true rfl)) dX9_takeTree_8 ⟨Nat.le_of_ble_eq_true rfl, Nat.le_of_ble_eq_true rfl⟩) hP hD hS hA [1, 2, 3, 4] [0] rfl rfl (by decide) (by decide) (fun H locs hP hD hS => ?_)
  have hP : va_P (dC, dI) vwCl [((a 0), .inr (9, [.ref (a 1), .ref (a 3), .ref (a 4), .ref (a 7), .ref (a 10), .ref (a 14), .ref (a 16), .ref (a 18), .ref (a 19), .ref (a 21), .ref (a 23), .ref (a 25), .ref (a 27), .ref (a 28), .int 0]))] H := hP
  have hD : va_D A [((a 0), .inr (9, [.ref (a 1), .ref (a 3), .ref (a 4), .ref (a 7), .ref (a 10), .ref (a 14), .ref (a 16), .ref (a 18), .ref (a 19), .ref (a 21), .ref (a 23), .ref (a 25), .ref (a 27), .ref (a 28), .int 0]))] := hD
  refine lv_iconst (v := (-1)) hx hb dX9_takeTree_11 (by decide) ?_
  refine lv_icmp_eq (tgt := 17) hx hb dX9_takeTree_12 (by decide) (fun c_1 => ?_) (fun c_1 => ?_)
  · exact absurd c_1 (by decide)
  refine lv_iconst (v := (-1)) hx hb dX9_takeTree_15 (by decide) ?_
  exact W.iret (v := (-1)) hx hb hr (fun t ht hW => ⟨⟨(-1), (), rfl, rfl, trivial⟩, hS.F ht⟩) hS.2.2 dX9_takeTree_16

def wq_X9_takeScript : List Cond := .code yX9_takeScript cX9_takeScript 1 (some .int) :: ([.fieldLink RX9 38 "HubTree" "scripts" "LHubTree$Scripts;", .fieldLink RX9 140 "HubTree$Scripts" "held" "I", .fieldLink RX9 21 "HubTree" "reader" "LHubTree$Reader;", .methodLink RX9 114 yX6_readScript, .instanceMethod yX6_readScript, .selects RX6 yX6_readScript yX6_readScript, .initialized RX6, .code yX6_readScript cX6_readScript 4 (some .int), .fieldLink RX6 93 "HubTree$Scripts" "draft" "[I", .methodLink RX6 98 yJ7_fill_53178, .static yJ7_fill_53178, .initialized RJ7, .code yJ7_fill_53178 cJ7_fill_53178 4 none, .fieldLink RX6 9 "HubTree$Reader" "at" "I", .methodLink RX6 27 yX6_skipBlanks, .instanceMethod yX6_skipBlanks, .selects RX6 yX6_skipBlanks yX6_skipBlanks, .code yX6_skipBlanks cX6_skipBlanks 1 none, .fieldLink RX6 18 "HubTree$Reader" "tape" "LHubTree$Tape;", .fieldLink RX6 67 "HubTree$Tape" "length" "I"] ++ wsX90 ++ wsX70 ++ wsX60 ++ wsX80)
set_option maxRecDepth 20000 in
theorem g_X9_takeScript_X6_readScript_114 : GoodIn wq_X9_takeScript (wsV RX9 114 RX6 yX6_readScript wq_X6_readScript) := goodIn_r _ [4, 5, 6, 7, 8, 9, 10, 11, 12, 13, 14, 15, 16, 17, 7, 18, 19, 20, 36, 37, 38, 39, 40, 41, 42, 43, 44, 45] (by decide +kernel) (by decide +kernel)
theorem iq_X9_takeScript_9 : ∀ w ∈ wsX90, w ∈ wq_X9_takeScript := fun _ h => List.mem_cons_of_mem _ (List.mem_append_left _ (List.mem_append_left _ (List.mem_append_left _ (List.mem_append_right _ h))))
theorem iq_X9_takeScript_7 : ∀ w ∈ wsX70, w ∈ wq_X9_takeScript := fun _ h => List.mem_cons_of_mem _ (List.mem_append_left _ (List.mem_append_left _ (List.mem_append_right _ h)))
theorem iq_X9_takeScript_6 : ∀ w ∈ wsX60, w ∈ wq_X9_takeScript := fun _ h => List.mem_cons_of_mem _ (List.mem_append_left _ (List.mem_append_right _ h))
theorem iq_X9_takeScript_8 : ∀ w ∈ wsX80, w ∈ wq_X9_takeScript := fun _ h => List.mem_cons_of_mem _ (List.mem_append_right _ h)
set_option maxHeartbeats 4000000 in
set_option maxRecDepth 100000 in
theorem c_X9_takeScript (l : Launch) (dC : Nat → ClassId) (dI : Nat → Nat → Nat) (a : Nat → Nat) (k : Nat → ClassId) (A : Nat → Prop) : Met l yX9_takeScript wq_X9_takeScript ({ frames := 2, cells := 0, slots := 0, locals := 46 }) (va_Pc [.ref (a 0)] (q_W (dC, dI) A [((a 0), .inr (9, [.ref (a 1), .ref (a 3), .ref (a 4), .ref (a 7), .ref (a 10), .ref (a 14), .ref (a 16), .ref (a 18), .ref (a 19), .ref (a 21), .ref (a 23), .ref (a 25), .ref (a 27), .ref (a 28), .int 0])), ((a 3), .inr (6, [.ref (a 1), .int 0, .int 0])), ((a 1), .inr (8, [.ref (a 2), .int 0])), ((a 10), .inr (7, [.ref (a 11), .ref (a 12), .ref (a 13), .int 0, .int 0])), ((a 13), .inl ((k 13), 64, .inl (fun _ => 0)))] [((k 13), .int)])) (q_wi (-1) A) 0 0 A := by
  refine Met.ofW (cc := cX9_takeScript) (maxL := 1) (ret := (some .int)) (by decide) rfl ?_
  intro p e s m args below meth c s₁ B hml hv
  obtain ⟨rfl, hP, hK, hD, hA⟩ := hv
  have hx := B.exec
  have hb := B.bytes
  have hr := B.returns
  have hts := atoms_spec (ws := wq_X9_takeScript) B.pre
  have hown : s.vm.findClass RX9 = some m.cls := findClass_of_methodNamed B.named
  have hlocks := B.notSynchronized
  have hS : va_S A s.heap s.heap [] := va_S.rf
  have hl := lv_entry ([.ref (a 0)]) (n := 1) (Nat.le_of_ble_eq_true rfl)
  rw [lg_entry_eq]
  generalize (lg_sl ([.ref (a 0)]) ++ List.replicate (1 - (lg_sl ([.ref (a 0)])).length) Slot.unset).toArray = ls at hl ⊢
  have hl : lv_has ls 1 [(0, .ref (a 0))] := hl
  refine lv_aload_n hx hb dX9_takeScript_0 rfl (lv_at hl 0 rfl) ?_
  refine va_get (D := (dC, dI)) (ci := 9) (v := .ref (a 10)) (C := RX9) (T := TX9) (N := 15) hx hb hts iq_X9_takeScript_9 hown hK hP 0 rfl rfl 4 (by decide) (hts (.fieldLink RX9 38 "HubTree" "scripts" "LHubTree$Scripts;") (List.mem_of_getElem? (i := 1) rfl)) (fun _ h9 => h9) rfl dX9_takeScript_1 ?_
  refine va_get (D := (dC, dI)) (ci := 7) (v := .int 0) (C := RX7) (T := TX7) (N := 5) hx hb hts iq_X9_takeScript_7 hown hK hP 3 rfl rfl 4 (by decide) (hts (.fieldLink RX9 140 "HubTree$Scripts" "held" "I") (List.mem_of_getElem? (i := 2) rfl)) (fun _ h9 => h9) rfl dX9_takeScript_4 ?_
  refine lv_iconst (v := 4) hx hb dX9_takeScript_7 (by decide) ?_
  refine lv_icmp_ge (tgt := 26) hx hb dX9_takeScript_8 (by decide) (fun c_1 => ?_) (fun c_1 => ?_)
  · exact absurd c_1 (by decide)
  refine lv_aload_n hx hb dX9_takeScript_11 rfl (lv_at hl 0 rfl) ?_
  refine va_get (D := (dC, dI)) (ci := 9) (v := .ref (a 3)) (C := RX9) (T := TX9) (N := 15) hx hb hts iq_X9_takeScript_9 hown hK hP 0 rfl rfl 1 (by decide) (hts (.fieldLink RX9 21 "HubTree" "reader" "LHubTree$Reader;") (List.mem_of_getElem? (i := 3) rfl)) (fun _ h9 => h9) rfl dX9_takeScript_12 ?_
  refine lv_aload_n hx hb dX9_takeScript_15 rfl (lv_at hl 0 rfl) ?_
  refine va_get (D := (dC, dI)) (ci := 9) (v := .ref (a 10)) (C := RX9) (T := TX9) (N := 15) hx hb hts iq_X9_takeScript_9 hown hK hP 0 rfl rfl 4 (by decide) (hts (.fieldLink RX9 38 "HubTree" "scripts" "LHubTree$Scripts;") (List.mem_of_getElem? (i := 1) rfl)) (fun _ h9 => h9) rfl dX9_takeScript_16 ?_
  refine q_goiF (v := 0) (wr := [((a 0), .inr (9, [.ref (a 1), .ref (a 3), .ref (a 4), .ref (a 7), .ref (a 10), .ref (a 14), .ref (a 16), .ref (a 18), .ref (a 19), .ref (a 21), .ref (a 23), .ref (a 25), .ref (a 27), .ref (a 28), .int 0]))]) (va_runV (As := [.ref (a 10)]) (rest := []) ⟨hx, hb, hml, hown, hts⟩ (c_X6_readScript l dC dI (a 3) (a 1) (a 2) (a 10) (a 11) (a 12) (a 13) (k 13) (fun _ => 0) (va_A [((a 3), .inr (6, [.ref (a 1), .int 0, .int 0])), ((a 1), .inr (8, [.ref (a 2), .int 0])), ((a 10), .inr (7, [.ref (a 11), .ref (a 12), .ref (a 13), .int 0, .int 0])), ((a 13), .inl ((k 13), 64, .inl (fun _ => 0)))] s.heap.size)) (cwV 1 hts g_X9_takeScript_X6_readScript_114 rfl rfl rfl (by decide +kernel) ⟨Nat.le_of_ble_eq_true rfl, Nat.le_of_ble_eq_true rfl⟩) (q_preWV hK hP hD (ci := 6) (q0 := 1) rfl rfl [1, 2, 3, 4] (by decide) rfl rfl [0] rfl) rfl rfl hl.1 rfl (lv_room (Nat.le_of_ble_eq_true rfl)) dX9_takeScript_19 ⟨Nat.le_of_ble_eq_true rfl, Nat.le_of_ble_eq_true rfl⟩) hP hD hS hA [1, 2, 3, 4] [0] rfl rfl (by decide) (by decide) (fun H locs hP hD hS => ?_)
  have hP : va_P (dC, dI) vwCl [((a 0), .inr (9, [.ref (a 1), .ref (a 3), .ref (a 4), .ref (a 7), .ref (a 10), .ref (a 14), .ref (a 16), .ref (a 18), .ref (a 19), .ref (a 21), .ref (a 23), .ref (a 25), .ref (a 27), .ref (a 28), .int 0]))] H := hP
  have hD : va_D A [((a 0), .inr (9, [.ref (a 1), .ref (a 3), .ref (a 4), .ref (a 7), .ref (a 10), .ref (a 14), .ref (a 16), .ref (a 18), .ref (a 19), .ref (a 21), .ref (a 23), .ref (a 25), .ref (a 27), .ref (a 28), .int 0]))] := hD
  refine lv_iconst (v := (-1)) hx hb dX9_takeScript_22 (by decide) ?_
  refine lv_icmp_eq (tgt := 28) hx hb dX9_takeScript_23 (by decide) (fun c_2 => ?_) (fun c_2 => ?_)
  · exact absurd c_2 (by decide)
  refine lv_iconst (v := (-1)) hx hb dX9_takeScript_26 (by decide) ?_
  exact W.iret (v := (-1)) hx hb hr (fun t ht hW => ⟨⟨(-1), (), rfl, rfl, trivial⟩, hS.F ht⟩) hS.2.2 dX9_takeScript_27

def wq_X9_fault : List Cond := .code yX9_fault cX9_fault 2 (some .int) :: ([.fieldLink RX9 21 "HubTree" "reader" "LHubTree$Reader;", .fieldLink RX9 38 "HubTree" "scripts" "LHubTree$Scripts;", .methodLink RX9 114 yX6_readScript, .instanceMethod yX6_readScript, .selects RX6 yX6_readScript yX6_readScript, .initialized RX6, .code yX6_readScript cX6_readScript 4 (some .int), .fieldLink RX6 93 "HubTree$Scripts" "draft" "[I", .methodLink RX6 98 yJ7_fill_53178, .static yJ7_fill_53178, .initialized RJ7, .code yJ7_fill_53178 cJ7_fill_53178 4 none, .fieldLink RX6 9 "HubTree$Reader" "at" "I", .methodLink RX6 27 yX6_skipBlanks, .instanceMethod yX6_skipBlanks, .selects RX6 yX6_skipBlanks yX6_skipBlanks, .code yX6_skipBlanks cX6_skipBlanks 1 none, .fieldLink RX6 18 "HubTree$Reader" "tape" "LHubTree$Tape;", .fieldLink RX6 67 "HubTree$Tape" "length" "I", .fieldLink RX9 28 "HubTree" "draft" "LHubTree$Plan;", .methodLink RX9 110 yX6_readTree, .instanceMethod yX6_readTree, .selects RX6 yX6_readTree yX6_readTree, .code yX6_readTree cX6_readTree 6 (some .int), .methodLink RX6 22 yX5_clear, .instanceMethod yX5_clear, .selects RX5 yX5_clear yX5_clear, .initialized RX5, .code yX5_clear cX5_clear 1 none, .fieldLink RX5 9 "HubTree$Plan" "rules" "[I", .methodLink RX5 25 arraycopyName, .native arraycopyName, .static arraycopyName, .initialized "java/lang/System", .fieldLink RX5 18 "HubTree$Plan" "devices" "I", .methodLink RX6 30 yX6_stands, .instanceMethod yX6_stands, .selects RX6 yX6_stands yX6_stands, .code yX6_stands cX6_stands 2 (some .boolean)] ++ wsX90 ++ wsX70 ++ wsX60 ++ wsX80 ++ wsX50)
set_option maxRecDepth 20000 in
theorem g_X9_fault_X6_readScript_114 : GoodIn wq_X9_fault (wsV RX9 114 RX6 yX6_readScript wq_X6_readScript) := goodIn_r _ [3, 4, 5, 6, 7, 8, 9, 10, 11, 12, 13, 14, 15, 16, 6, 17, 18, 19, 55, 56, 57, 58, 59, 60, 61, 62, 63, 64] (by decide +kernel) (by decide +kernel)
set_option maxRecDepth 20000 in
theorem g_X9_fault_X6_readTree_110 : GoodIn wq_X9_fault (wsV RX9 110 RX6 yX6_readTree wq_X6_readTree) := goodIn_r _ [21, 22, 23, 6, 24, 25, 26, 27, 28, 29, 30, 31, 32, 33, 34, 35, 13, 14, 15, 16, 6, 17, 18, 19, 36, 37, 38, 39, 65, 66, 67, 60, 61, 62, 63, 64] (by decide +kernel) (by decide +kernel)
theorem iq_X9_fault_9 : ∀ w ∈ wsX90, w ∈ wq_X9_fault := fun _ h => List.mem_cons_of_mem _ (List.mem_append_left _ (List.mem_append_left _ (List.mem_append_left _ (List.mem_append_left _ (List.mem_append_right _ h)))))
theorem iq_X9_fault_7 : ∀ w ∈ wsX70, w ∈ wq_X9_fault := fun _ h => List.mem_cons_of_mem _ (List.mem_append_left _ (List.mem_append_left _ (List.mem_append_left _ (List.mem_append_right _ h))))
theorem iq_X9_fault_6 : ∀ w ∈ wsX60, w ∈ wq_X9_fault := fun _ h => List.mem_cons_of_mem _ (List.mem_append_left _ (List.mem_append_left _ (List.mem_append_right _ h)))
theorem iq_X9_fault_8 : ∀ w ∈ wsX80, w ∈ wq_X9_fault := fun _ h => List.mem_cons_of_mem _ (List.mem_append_left _ (List.mem_append_right _ h))
theorem iq_X9_fault_5 : ∀ w ∈ wsX50, w ∈ wq_X9_fault := fun _ h => List.mem_cons_of_mem _ (List.mem_append_right _ h)
set_option maxHeartbeats 4000000 in
set_option maxRecDepth 100000 in
theorem c_X9_fault (l : Launch) (dC : Nat → ClassId) (dI : Nat → Nat → Nat) (a : Nat → Nat) (k : Nat → ClassId) (t : Nat) (f : Nat → Int32) (z1 : Int32) (A : Nat → Prop) : Met l yX9_fault wq_X9_fault ({ frames := 3, cells := 0, slots := 0, locals := 105 }) (va_Pc [.ref (a 0), .int z1] (q_WE (dC, dI) A [((a 0), .inr (9, [.ref (a 1), .ref (a 3), .ref (a 4), .ref (a 7), .ref (a 10), .ref (a 14), .ref (a 16), .ref (a 18), .ref (a 19), .ref (a 21), .ref (a 23), .ref (a 25), .ref (a 27), .ref (a 28), .int 0])), ((a 3), .inr (6, [.ref (a 1), .int 0, .int 0])), ((a 1), .inr (8, [.ref (a 2), .int 0])), ((a 4), .inr (5, [.ref (a 5), .ref (a 6), .int 0])), ((a 5), .inl ((k 5), 8, .inl (fun _ => 0))), ((a 10), .inr (7, [.ref (a 11), .ref (a 12), .ref (a 13), .int 0, .int 0])), ((a 13), .inl ((k 13), 64, .inl (fun _ => 0)))] [((k 5), .int), ((k 13), .int)] (q_E t f A))) (q_wi ((q_fl z1)) A) 0 0 A := by
  refine Met.ofW (cc := cX9_fault) (maxL := 2) (ret := (some .int)) (by decide) rfl ?_
  intro p e s m args below meth c s₁ B hml hv
  obtain ⟨rfl, hP, hK, hD, hA, hE⟩ := hv
  have hx := B.exec
  have hb := B.bytes
  have hr := B.returns
  have hts := atoms_spec (ws := wq_X9_fault) B.pre
  have hown : s.vm.findClass RX9 = some m.cls := findClass_of_methodNamed B.named
  have hlocks := B.notSynchronized
  have hS : va_S A s.heap s.heap [] := va_S.rf
  have hl := lv_entry ([.ref (a 0), .int z1]) (n := 2) (Nat.le_of_ble_eq_true rfl)
  rw [lg_entry_eq]
  generalize (lg_sl ([.ref (a 0), .int z1]) ++ List.replicate (2 - (lg_sl ([.ref (a 0), .int z1])).length) Slot.unset).toArray = ls at hl ⊢
  have hl : lv_has ls 2 [(0, .ref (a 0)), (1, .int z1)] := hl
  refine lv_iload_n hx hb dX9_fault_0 rfl (lv_at hl 1 rfl) ?_
  refine lv_if_ne (tgt := 16) hx hb dX9_fault_1 (by decide) (fun c_1 => ?_) (fun c_1 => ?_)
  · skip
    refine lv_iload_n hx hb dX9_fault_16 rfl (lv_at hl 1 rfl) ?_
    refine lv_iconst (v := 1) hx hb dX9_fault_17 (by decide) ?_
    refine lv_icmp_ne (tgt := 35) hx hb dX9_fault_18 (by decide) (fun c_2 => ?_) (fun c_2 => ?_)
    · skip
      refine lv_bipush (v := (-2)) hx hb dX9_fault_35 (by decide) ?_
      exact W.iret (v := (-2)) hx hb hr (fun t ht hW => ⟨⟨(-2), (), rfl, (by simp [q_fl, c_1, c_2]), trivial⟩, hS.F ht⟩) hS.2.2 dX9_fault_37
    · skip
      refine lv_aload_n hx hb dX9_fault_21 rfl (lv_at hl 0 rfl) ?_
      refine va_get (D := (dC, dI)) (ci := 9) (v := .ref (a 3)) (C := RX9) (T := TX9) (N := 15) hx hb hts iq_X9_fault_9 hown hK hP 0 rfl rfl 1 (by decide) (hts (.fieldLink RX9 21 "HubTree" "reader" "LHubTree$Reader;") (List.mem_of_getElem? (i := 1) rfl)) (fun _ h9 => h9) rfl dX9_fault_22 ?_
      refine lv_aload_n hx hb dX9_fault_25 rfl (lv_at hl 0 rfl) ?_
      refine va_get (D := (dC, dI)) (ci := 9) (v := .ref (a 10)) (C := RX9) (T := TX9) (N := 15) hx hb hts iq_X9_fault_9 hown hK hP 0 rfl rfl 4 (by decide) (hts (.fieldLink RX9 38 "HubTree" "scripts" "LHubTree$Scripts;") (List.mem_of_getElem? (i := 2) rfl)) (fun _ h9 => h9) rfl dX9_fault_26 ?_
      refine q_goiF (v := 0) (wr := [((a 0), .inr (9, [.ref (a 1), .ref (a 3), .ref (a 4), .ref (a 7), .ref (a 10), .ref (a 14), .ref (a 16), .ref (a 18), .ref (a 19), .ref (a 21), .ref (a 23), .ref (a 25), .ref (a 27), .ref (a 28), .int 0])), ((a 4), .inr (5, [.ref (a 5), .ref (a 6), .int 0])), ((a 5), .inl ((k 5), 8, .inl (fun _ => 0)))]) (va_runV (As := [.ref (a 10)]) (rest := []) ⟨hx, hb, hml, hown, hts⟩ (c_X6_readScript l dC dI (a 3) (a 1) (a 2) (a 10) (a 11) (a 12) (a 13) (k 13) (fun _ => 0) (va_A [((a 3), .inr (6, [.ref (a 1), .int 0, .int 0])), ((a 1), .inr (8, [.ref (a 2), .int 0])), ((a 10), .inr (7, [.ref (a 11), .ref (a 12), .ref (a 13), .int 0, .int 0])), ((a 13), .inl ((k 13), 64, .inl (fun _ => 0)))] s.heap.size)) (cwV 1 hts g_X9_fault_X6_readScript_114 rfl rfl rfl (by decide +kernel) ⟨Nat.le_of_ble_eq_true rfl, Nat.le_of_ble_eq_true rfl⟩) (q_preWV hK hP hD (ci := 6) (q0 := 1) rfl rfl [1, 2, 5, 6] (by decide) rfl rfl [1] rfl) rfl rfl hl.1 rfl (lv_room (Nat.le_of_ble_eq_true rfl)) dX9_fault_29 ⟨Nat.le_of_ble_eq_true rfl, Nat.le_of_ble_eq_true rfl⟩) hP hD hS hA [1, 2, 5, 6] [0, 3, 4] rfl rfl (by decide) (by decide) (fun H locs hP hD hS => ?_)
      have hP : va_P (dC, dI) vwCl [((a 0), .inr (9, [.ref (a 1), .ref (a 3), .ref (a 4), .ref (a 7), .ref (a 10), .ref (a 14), .ref (a 16), .ref (a 18), .ref (a 19), .ref (a 21), .ref (a 23), .ref (a 25), .ref (a 27), .ref (a 28), .int 0])), ((a 4), .inr (5, [.ref (a 5), .ref (a 6), .int 0])), ((a 5), .inl ((k 5), 8, .inl (fun _ => 0)))] H := hP
      have hD : va_D A [((a 0), .inr (9, [.ref (a 1), .ref (a 3), .ref (a 4), .ref (a 7), .ref (a 10), .ref (a 14), .ref (a 16), .ref (a 18), .ref (a 19), .ref (a 21), .ref (a 23), .ref (a 25), .ref (a 27), .ref (a 28), .int 0])), ((a 4), .inr (5, [.ref (a 5), .ref (a 6), .int 0])), ((a 5), .inl ((k 5), 8, .inl (fun _ => 0)))] := hD
      refine lv_goto (tgt := 37) hx hb dX9_fault_32 (by decide) ?_
      exact W.iret (v := 0) hx hb hr (fun t ht hW => ⟨⟨0, (), rfl, (by simp [q_fl, c_1, c_2]), trivial⟩, hS.F ht⟩) hS.2.2 dX9_fault_37
  · skip
    refine lv_aload_n hx hb dX9_fault_4 rfl (lv_at hl 0 rfl) ?_
    refine va_get (D := (dC, dI)) (ci := 9) (v := .ref (a 3)) (C := RX9) (T := TX9) (N := 15) hx hb hts iq_X9_fault_9 hown hK hP 0 rfl rfl 1 (by decide) (hts (.fieldLink RX9 21 "HubTree" "reader" "LHubTree$Reader;") (List.mem_of_getElem? (i := 1) rfl)) (fun _ h9 => h9) rfl dX9_fault_5 ?_
    refine lv_aload_n hx hb dX9_fault_8 rfl (lv_at hl 0 rfl) ?_
    refine va_get (D := (dC, dI)) (ci := 9) (v := .ref (a 4)) (C := RX9) (T := TX9) (N := 15) hx hb hts iq_X9_fault_9 hown hK hP 0 rfl rfl 2 (by decide) (hts (.fieldLink RX9 28 "HubTree" "draft" "LHubTree$Plan;") (List.mem_of_getElem? (i := 20) rfl)) (fun _ h9 => h9) rfl dX9_fault_9 ?_
    refine q_goiF (v := 0) (wr := [((a 0), .inr (9, [.ref (a 1), .ref (a 3), .ref (a 4), .ref (a 7), .ref (a 10), .ref (a 14), .ref (a 16), .ref (a 18), .ref (a 19), .ref (a 21), .ref (a 23), .ref (a 25), .ref (a 27), .ref (a 28), .int 0])), ((a 10), .inr (7, [.ref (a 11), .ref (a 12), .ref (a 13), .int 0, .int 0])), ((a 13), .inl ((k 13), 64, .inl (fun _ => 0)))]) (va_runV (As := [.ref (a 4)]) (rest := []) ⟨hx, hb, hml, hown, hts⟩ (c_X6_readTree l dC dI (a 3) (a 1) (a 2) (a 4) (a 5) (a 6) (k 5) (fun _ => 0) t f (va_A [((a 3), .inr (6, [.ref (a 1), .int 0, .int 0])), ((a 1), .inr (8, [.ref (a 2), .int 0])), ((a 4), .inr (5, [.ref (a 5), .ref (a 6), .int 0])), ((a 5), .inl ((k 5), 8, .inl (fun _ => 0)))] s.heap.size)) (cwV 1 hts g_X9_fault_X6_readTree_110 rfl rfl rfl (by decide +kernel) ⟨Nat.le_of_ble_eq_true rfl, Nat.le_of_ble_eq_true rfl⟩) (q_preWVE hK hP hD (ci := 6) (q0 := 1) rfl rfl [1, 2, 3, 4] (by decide) rfl rfl [0] rfl q_E_bl (q_E_give hE hS (va_free (wc := [((a 3), .inr (6, [.ref (a 1), .int 0, .int 0])), ((a 1), .inr (8, [.ref (a 2), .int 0])), ((a 4), .inr (5, [.ref (a 5), .ref (a 6), .int 0])), ((a 5), .inl ((k 5), 8, .inl (fun _ => 0)))]) hD hS hA [1, 2, 3, 4] rfl))) rfl rfl hl.1 rfl (lv_room (Nat.le_of_ble_eq_true rfl)) dX9_fault_12 ⟨Nat.le_of_ble_eq_true rfl, Nat.le_of_ble_eq_true rfl⟩) hP hD hS hA [1, 2, 3, 4] [0, 5, 6] rfl rfl (by decide) (by decide) (fun H locs hP hD hS => ?_)
    have hP : va_P (dC, dI) vwCl [((a 0), .inr (9, [.ref (a 1), .ref (a 3), .ref (a 4), .ref (a 7), .ref (a 10), .ref (a 14), .ref (a 16), .ref (a 18), .ref (a 19), .ref (a 21), .ref (a 23), .ref (a 25), .ref (a 27), .ref (a 28), .int 0])), ((a 10), .inr (7, [.ref (a 11), .ref (a 12), .ref (a 13), .int 0, .int 0])), ((a 13), .inl ((k 13), 64, .inl (fun _ => 0)))] H := hP
    have hD : va_D A [((a 0), .inr (9, [.ref (a 1), .ref (a 3), .ref (a 4), .ref (a 7), .ref (a 10), .ref (a 14), .ref (a 16), .ref (a 18), .ref (a 19), .ref (a 21), .ref (a 23), .ref (a 25), .ref (a 27), .ref (a 28), .int 0])), ((a 10), .inr (7, [.ref (a 11), .ref (a 12), .ref (a 13), .int 0, .int 0])), ((a 13), .inl ((k 13), 64, .inl (fun _ => 0)))] := hD
    exact W.iret (v := 0) hx hb hr (fun t ht hW => ⟨⟨0, (), rfl, (by simp [q_fl, c_1]), trivial⟩, hS.F ht⟩) hS.2.2 dX9_fault_15

def wq_X9_text : List Cond := .code yX9_text cX9_text 2 (some .int) :: ([.methodLink RX9 122 yX9_takeScript, .instanceMethod yX9_takeScript, .selects RX9 yX9_takeScript yX9_takeScript, .initialized RX9, .code yX9_takeScript cX9_takeScript 1 (some .int), .fieldLink RX9 38 "HubTree" "scripts" "LHubTree$Scripts;", .fieldLink RX9 140 "HubTree$Scripts" "held" "I", .fieldLink RX9 21 "HubTree" "reader" "LHubTree$Reader;", .methodLink RX9 114 yX6_readScript, .instanceMethod yX6_readScript, .selects RX6 yX6_readScript yX6_readScript, .initialized RX6, .code yX6_readScript cX6_readScript 4 (some .int), .fieldLink RX6 93 "HubTree$Scripts" "draft" "[I", .methodLink RX6 98 yJ7_fill_53178, .static yJ7_fill_53178, .initialized RJ7, .code yJ7_fill_53178 cJ7_fill_53178 4 none, .fieldLink RX6 9 "HubTree$Reader" "at" "I", .methodLink RX6 27 yX6_skipBlanks, .instanceMethod yX6_skipBlanks, .selects RX6 yX6_skipBlanks yX6_skipBlanks, .code yX6_skipBlanks cX6_skipBlanks 1 none, .fieldLink RX6 18 "HubTree$Reader" "tape" "LHubTree$Tape;", .fieldLink RX6 67 "HubTree$Tape" "length" "I", .methodLink RX9 118 yX9_takeTree, .instanceMethod yX9_takeTree, .selects RX9 yX9_takeTree yX9_takeTree, .code yX9_takeTree cX9_takeTree 1 (some .int), .fieldLink RX9 28 "HubTree" "draft" "LHubTree$Plan;", .methodLink RX9 110 yX6_readTree, .instanceMethod yX6_readTree, .selects RX6 yX6_readTree yX6_readTree, .code yX6_readTree cX6_readTree 6 (some .int), .methodLink RX6 22 yX5_clear, .instanceMethod yX5_clear, .selects RX5 yX5_clear yX5_clear, .initialized RX5, .code yX5_clear cX5_clear 1 none, .fieldLink RX5 9 "HubTree$Plan" "rules" "[I", .methodLink RX5 25 arraycopyName, .native arraycopyName, .static arraycopyName, .initialized "java/lang/System", .fieldLink RX5 18 "HubTree$Plan" "devices" "I", .methodLink RX6 30 yX6_stands, .instanceMethod yX6_stands, .selects RX6 yX6_stands yX6_stands, .code yX6_stands cX6_stands 2 (some .boolean)] ++ wsX90 ++ wsX70 ++ wsX60 ++ wsX80 ++ wsX50)
set_option maxRecDepth 20000 in
theorem g_X9_text_X9_takeScript_122 : GoodIn wq_X9_text (wsV RX9 122 RX9 yX9_takeScript wq_X9_takeScript) := goodIn_r _ [1, 2, 3, 4, 5, 6, 7, 8, 9, 10, 11, 12, 13, 14, 15, 16, 17, 18, 19, 20, 21, 22, 23, 24, 25, 50, 51, 52, 53, 54, 55, 56, 57, 58, 59, 60, 61, 62, 63, 64, 65, 66, 67, 68, 69, 70, 71, 72, 73, 74] (by decide +kernel) (by decide +kernel)
set_option maxRecDepth 20000 in
theorem g_X9_text_X9_takeTree_118 : GoodIn wq_X9_text (wsV RX9 118 RX9 yX9_takeTree wq_X9_takeTree) := goodIn_r _ [26, 27, 28, 4, 29, 8, 30, 31, 32, 33, 12, 34, 35, 36, 37, 38, 39, 40, 41, 42, 43, 44, 45, 19, 20, 21, 22, 23, 24, 25, 46, 47, 48, 49, 50, 51, 52, 53, 54, 55, 56, 57, 58, 59, 60, 61, 62, 63, 64, 75, 76, 77, 70, 71, 72, 73, 74] (by decide +kernel) (by decide +kernel)
theorem iq_X9_text_9 : ∀ w ∈ wsX90, w ∈ wq_X9_text := fun _ h => List.mem_cons_of_mem _ (List.mem_append_left _ (List.mem_append_left _ (List.mem_append_left _ (List.mem_append_left _ (List.mem_append_right _ h)))))
theorem iq_X9_text_7 : ∀ w ∈ wsX70, w ∈ wq_X9_text := fun _ h => List.mem_cons_of_mem _ (List.mem_append_left _ (List.mem_append_left _ (List.mem_append_left _ (List.mem_append_right _ h))))
theorem iq_X9_text_6 : ∀ w ∈ wsX60, w ∈ wq_X9_text := fun _ h => List.mem_cons_of_mem _ (List.mem_append_left _ (List.mem_append_left _ (List.mem_append_right _ h)))
theorem iq_X9_text_8 : ∀ w ∈ wsX80, w ∈ wq_X9_text := fun _ h => List.mem_cons_of_mem _ (List.mem_append_left _ (List.mem_append_right _ h))
theorem iq_X9_text_5 : ∀ w ∈ wsX50, w ∈ wq_X9_text := fun _ h => List.mem_cons_of_mem _ (List.mem_append_right _ h)
set_option maxHeartbeats 4000000 in
set_option maxRecDepth 100000 in
theorem c_X9_text (l : Launch) (dC : Nat → ClassId) (dI : Nat → Nat → Nat) (a : Nat → Nat) (k : Nat → ClassId) (t : Nat) (f : Nat → Int32) (z1 : Int32) (A : Nat → Prop) : Met l yX9_text wq_X9_text ({ frames := 4, cells := 0, slots := 0, locals := 125 }) (va_Pc [.ref (a 0), .int z1] (q_WE (dC, dI) A [((a 0), .inr (9, [.ref (a 1), .ref (a 3), .ref (a 4), .ref (a 7), .ref (a 10), .ref (a 14), .ref (a 16), .ref (a 18), .ref (a 19), .ref (a 21), .ref (a 23), .ref (a 25), .ref (a 27), .ref (a 28), .int 0])), ((a 3), .inr (6, [.ref (a 1), .int 0, .int 0])), ((a 1), .inr (8, [.ref (a 2), .int 0])), ((a 4), .inr (5, [.ref (a 5), .ref (a 6), .int 0])), ((a 5), .inl ((k 5), 8, .inl (fun _ => 0))), ((a 10), .inr (7, [.ref (a 11), .ref (a 12), .ref (a 13), .int 0, .int 0])), ((a 13), .inl ((k 13), 64, .inl (fun _ => 0)))] [((k 5), .int), ((k 13), .int)] (q_E t f A))) (q_wi (-1) A) 0 0 A := by
  refine Met.ofW (cc := cX9_text) (maxL := 2) (ret := (some .int)) (by decide) rfl ?_
  intro p e s m args below meth c s₁ B hml hv
  obtain ⟨rfl, hP, hK, hD, hA, hE⟩ := hv
  have hx := B.exec
  have hb := B.bytes
  have hr := B.returns
  have hts := atoms_spec (ws := wq_X9_text) B.pre
  have hown : s.vm.findClass RX9 = some m.cls := findClass_of_methodNamed B.named
  have hlocks := B.notSynchronized
  have hS : va_S A s.heap s.heap [] := va_S.rf
  have hl := lv_entry ([.ref (a 0), .int z1]) (n := 2) (Nat.le_of_ble_eq_true rfl)
  rw [lg_entry_eq]
  generalize (lg_sl ([.ref (a 0), .int z1]) ++ List.replicate (2 - (lg_sl ([.ref (a 0), .int z1])).length) Slot.unset).toArray = ls at hl ⊢
  have hl : lv_has ls 2 [(0, .ref (a 0)), (1, .int z1)] := hl
  refine lv_iload_n hx hb dX9_text_0 rfl (lv_at hl 1 rfl) ?_
  refine lv_if_ne (tgt := 9) hx hb dX9_text_1 (by decide) (fun c_1 => ?_) (fun c_1 => ?_)
  · skip
    refine lv_iload_n hx hb dX9_text_9 rfl (lv_at hl 1 rfl) ?_
    refine lv_iconst (v := 1) hx hb dX9_text_10 (by decide) ?_
    refine lv_icmp_ne (tgt := 21) hx hb dX9_text_11 (by decide) (fun c_2 => ?_) (fun c_2 => ?_)
    · skip
      refine lv_iconst (v := (-1)) hx hb dX9_text_21 (by decide) ?_
      exact W.iret (v := (-1)) hx hb hr (fun t ht hW => ⟨⟨(-1), (), rfl, rfl, trivial⟩, hS.F ht⟩) hS.2.2 dX9_text_22
    · skip
      refine lv_aload_n hx hb dX9_text_14 rfl (lv_at hl 0 rfl) ?_
      refine q_goiF (v := (-1)) (wr := [((a 4), .inr (5, [.ref (a 5), .ref (a 6), .int 0])), ((a 5), .inl ((k 5), 8, .inl (fun _ => 0)))]) (va_runV (As := []) (rest := []) ⟨hx, hb, hml, hown, hts⟩ (c_X9_takeScript l dC dI a k (va_A [((a 0), .inr (9, [.ref (a 1), .ref (a 3), .ref (a 4), .ref (a 7), .ref (a 10), .ref (a 14), .ref (a 16), .ref (a 18), .ref (a 19), .ref (a 21), .ref (a 23), .ref (a 25), .ref (a 27), .ref (a 28), .int 0])), ((a 3), .inr (6, [.ref (a 1), .int 0, .int 0])), ((a 1), .inr (8, [.ref (a 2), .int 0])), ((a 10), .inr (7, [.ref (a 11), .ref (a 12), .ref (a 13), .int 0, .int 0])), ((a 13), .inl ((k 13), 64, .inl (fun _ => 0)))] s.heap.size)) (cwV 0 hts g_X9_text_X9_takeScript_122 rfl rfl rfl (by decide +kernel) ⟨Nat.le_of_ble_eq_true rfl, Nat.le_of_ble_eq_true rfl⟩) (q_preWV hK hP hD (ci := 9) (q0 := 0) rfl rfl [0, 1, 2, 5, 6] (by decide) rfl rfl [1] rfl) rfl rfl hl.1 rfl (lv_room (Nat.le_of_ble_eq_true rfl)) dX9_text_15 ⟨Nat.le_of_ble_eq_true rfl, Nat.le_of_ble_eq_true rfl⟩) hP hD hS hA [0, 1, 2, 5, 6] [3, 4] rfl rfl (by decide) (by decide) (fun H locs hP hD hS => ?_)
      have hP : va_P (dC, dI) vwCl [((a 4), .inr (5, [.ref (a 5), .ref (a 6), .int 0])), ((a 5), .inl ((k 5), 8, .inl (fun _ => 0)))] H := hP
      have hD : va_D A [((a 4), .inr (5, [.ref (a 5), .ref (a 6), .int 0])), ((a 5), .inl ((k 5), 8, .inl (fun _ => 0)))] := hD
      refine lv_goto (tgt := 22) hx hb dX9_text_18 (by decide) ?_
      exact W.iret (v := (-1)) hx hb hr (fun t ht hW => ⟨⟨(-1), (), rfl, rfl, trivial⟩, hS.F ht⟩) hS.2.2 dX9_text_22
  · skip
    refine lv_aload_n hx hb dX9_text_4 rfl (lv_at hl 0 rfl) ?_
    refine q_goiF (v := (-1)) (wr := [((a 10), .inr (7, [.ref (a 11), .ref (a 12), .ref (a 13), .int 0, .int 0])), ((a 13), .inl ((k 13), 64, .inl (fun _ => 0)))]) (va_runV (As := []) (rest := []) ⟨hx, hb, hml, hown, hts⟩ (c_X9_takeTree l dC dI a k t f (va_A [((a 0), .inr (9, [.ref (a 1), .ref (a 3), .ref (a 4), .ref (a 7), .ref (a 10), .ref (a 14), .ref (a 16), .ref (a 18), .ref (a 19), .ref (a 21), .ref (a 23), .ref (a 25), .ref (a 27), .ref (a 28), .int 0])), ((a 3), .inr (6, [.ref (a 1), .int 0, .int 0])), ((a 1), .inr (8, [.ref (a 2), .int 0])), ((a 4), .inr (5, [.ref (a 5), .ref (a 6), .int 0])), ((a 5), .inl ((k 5), 8, .inl (fun _ => 0)))] s.heap.size)) (cwV 0 hts g_X9_text_X9_takeTree_118 rfl rfl rfl (by decide +kernel) ⟨Nat.le_of_ble_eq_true rfl, Nat.le_of_ble_eq_true rfl⟩) (q_preWVE hK hP hD (ci := 9) (q0 := 0) rfl rfl [0, 1, 2, 3, 4] (by decide) rfl rfl [0] rfl q_E_bl (q_E_give hE hS (va_free (wc := [((a 0), .inr (9, [.ref (a 1), .ref (a 3), .ref (a 4), .ref (a 7), .ref (a 10), .ref (a 14), .ref (a 16), .ref (a 18), .ref (a 19), .ref (a 21), .ref (a 23), .ref (a 25), .ref (a 27), .ref (a 28), .int 0])), ((a 3), .inr (6, [.ref (a 1), .int 0, .int 0])), ((a 1), .inr (8, [.ref (a 2), .int 0])), ((a 4), .inr (5, [.ref (a 5), .ref (a 6), .int 0])), ((a 5), .inl ((k 5), 8, .inl (fun _ => 0)))]) hD hS hA [0, 1, 2, 3, 4] rfl))) rfl rfl hl.1 rfl (lv_room (Nat.le_of_ble_eq_true rfl)) dX9_text_5 ⟨Nat.le_of_ble_eq_true rfl, Nat.le_of_ble_eq_true rfl⟩) hP hD hS hA [0, 1, 2, 3, 4] [5, 6] rfl rfl (by decide) (by decide) (fun H locs hP hD hS => ?_)
    have hP : va_P (dC, dI) vwCl [((a 10), .inr (7, [.ref (a 11), .ref (a 12), .ref (a 13), .int 0, .int 0])), ((a 13), .inl ((k 13), 64, .inl (fun _ => 0)))] H := hP
    have hD : va_D A [((a 10), .inr (7, [.ref (a 11), .ref (a 12), .ref (a 13), .int 0, .int 0])), ((a 13), .inl ((k 13), 64, .inl (fun _ => 0)))] := hD
    exact W.iret (v := (-1)) hx hb hr (fun t ht hW => ⟨⟨(-1), (), rfl, rfl, trivial⟩, hS.F ht⟩) hS.2.2 dX9_text_8
