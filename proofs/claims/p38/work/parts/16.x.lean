theorem dX9_again_0 : decode cX9_again 0 = .ok (.aload_n 0, 1) := q_o42 (by decide +kernel)
theorem dX9_again_1 : decode cX9_again 1 = .ok (.aload_n 0, 1) := q_o42 (by decide +kernel)
theorem dX9_again_2 : decode cX9_again 2 = .ok (.aload_n 0, 1) := q_o42 (by decide +kernel)
theorem dX9_again_3 : decode cX9_again 3 = .ok (.getfield 47, 3) := q_o180 (a := 0) (b := 47) (by decide +kernel)
theorem dX9_again_6 : decode cX9_again 6 = .ok (.iconst 1, 1) := q_o4 (by decide +kernel)
theorem dX9_again_7 : decode cX9_again 7 = .ok (.iconst 5, 1) := q_o8 (by decide +kernel)
theorem dX9_again_8 : decode cX9_again 8 = .ok (.iload_n 1, 1) := q_o27 (by decide +kernel)
theorem dX9_again_9 : decode cX9_again 9 = .ok (.iconst (-1), 1) := q_o2 (by decide +kernel)
theorem dX9_again_10 : decode cX9_again 10 = .ok (.iconst (-1), 1) := q_o2 (by decide +kernel)
theorem dX9_again_11 : decode cX9_again 11 = .ok (.invokevirtual 227, 3) := q_o182 (a := 0) (b := 227) (by decide +kernel)
theorem dX9_again_14 : decode cX9_again 14 = .ok (.invokevirtual 231, 3) := q_o182 (a := 0) (b := 231) (by decide +kernel)
theorem dX9_again_17 : decode cX9_again 17 = .ok (.istore_n 2, 1) := q_o61 (by decide +kernel)
theorem dX9_again_18 : decode cX9_again 18 = .ok (.iload_n 2, 1) := q_o28 (by decide +kernel)
theorem dX9_again_19 : decode cX9_again 19 = .ok (.ifCond .eq 29, 3) := q_o153 (a := 0) (b := 29) (by decide +kernel) rfl
theorem dX9_again_22 : decode cX9_again 22 = .ok (.aload_n 0, 1) := q_o42 (by decide +kernel)
theorem dX9_again_23 : decode cX9_again 23 = .ok (.getfield 32, 3) := q_o180 (a := 0) (b := 32) (by decide +kernel)
theorem dX9_again_26 : decode cX9_again 26 = .ok (.iload_n 1, 1) := q_o27 (by decide +kernel)
theorem dX9_again_27 : decode cX9_again 27 = .ok (.invokevirtual 153, 3) := q_o182 (a := 0) (b := 153) (by decide +kernel)
theorem dX9_again_30 : decode cX9_again 30 = .ok (.ifCond .eq 18, 3) := q_o153 (a := 0) (b := 18) (by decide +kernel) rfl
theorem dX9_again_33 : decode cX9_again 33 = .ok (.aload_n 0, 1) := q_o42 (by decide +kernel)
theorem dX9_again_34 : decode cX9_again 34 = .ok (.getfield 47, 3) := q_o180 (a := 0) (b := 47) (by decide +kernel)
theorem dX9_again_37 : decode cX9_again 37 = .ok (.getfield 157, 3) := q_o180 (a := 0) (b := 157) (by decide +kernel)
theorem dX9_again_40 : decode cX9_again 40 = .ok (.bipush 16, 2) := q_o16 (a := 16) (by decide +kernel) rfl
theorem dX9_again_42 : decode cX9_again 42 = .ok (.iload_n 1, 1) := q_o27 (by decide +kernel)
theorem dX9_again_43 : decode cX9_again 43 = .ok (.iadd, 1) := q_o96 (by decide +kernel)
theorem dX9_again_44 : decode cX9_again 44 = .ok (.iaload, 1) := q_o46 (by decide +kernel)
theorem dX9_again_45 : decode cX9_again 45 = .ok (.goto 4, 3) := q_o167 (a := 0) (b := 4) (by decide +kernel) rfl
theorem dX9_again_48 : decode cX9_again 48 = .ok (.iconst (-1), 1) := q_o2 (by decide +kernel)
theorem dX9_again_49 : decode cX9_again 49 = .ok (.ireturn, 1) := q_o172 (by decide +kernel)
theorem dX9_ahead_0 : decode cX9_ahead 0 = .ok (.aload_n 0, 1) := q_o42 (by decide +kernel)
theorem dX9_ahead_1 : decode cX9_ahead 1 = .ok (.getfield 32, 3) := q_o180 (a := 0) (b := 32) (by decide +kernel)
theorem dX9_ahead_4 : decode cX9_ahead 4 = .ok (.invokevirtual 146, 3) := q_o182 (a := 0) (b := 146) (by decide +kernel)
theorem dX9_ahead_7 : decode cX9_ahead 7 = .ok (.ifCond .eq 27, 3) := q_o153 (a := 0) (b := 27) (by decide +kernel) rfl
theorem dX9_ahead_10 : decode cX9_ahead 10 = .ok (.iload_n 1, 1) := q_o27 (by decide +kernel)
theorem dX9_ahead_11 : decode cX9_ahead 11 = .ok (.ifCond .lt 23, 3) := q_o155 (a := 0) (b := 23) (by decide +kernel) rfl
theorem dX9_ahead_14 : decode cX9_ahead 14 = .ok (.iload_n 1, 1) := q_o27 (by decide +kernel)
theorem dX9_ahead_15 : decode cX9_ahead 15 = .ok (.sipush 200, 3) := q_o17 (a := 0) (b := 200) (by decide +kernel) rfl
theorem dX9_ahead_18 : decode cX9_ahead 18 = .ok (.if_icmp .gt 16, 3) := q_o163 (a := 0) (b := 16) (by decide +kernel) rfl
theorem dX9_ahead_21 : decode cX9_ahead 21 = .ok (.iload_n 2, 1) := q_o28 (by decide +kernel)
theorem dX9_ahead_22 : decode cX9_ahead 22 = .ok (.ifCond .eq 8, 3) := q_o153 (a := 0) (b := 8) (by decide +kernel) rfl
theorem dX9_ahead_25 : decode cX9_ahead 25 = .ok (.iload_n 2, 1) := q_o28 (by decide +kernel)
theorem dX9_ahead_26 : decode cX9_ahead 26 = .ok (.iconst 1, 1) := q_o4 (by decide +kernel)
theorem dX9_ahead_27 : decode cX9_ahead 27 = .ok (.if_icmp .ne 7, 3) := q_o160 (a := 0) (b := 7) (by decide +kernel) rfl
theorem dX9_ahead_30 : decode cX9_ahead 30 = .ok (.iconst 1, 1) := q_o4 (by decide +kernel)
theorem dX9_ahead_31 : decode cX9_ahead 31 = .ok (.goto 4, 3) := q_o167 (a := 0) (b := 4) (by decide +kernel) rfl
theorem dX9_ahead_34 : decode cX9_ahead 34 = .ok (.iconst 0, 1) := q_o3 (by decide +kernel)
theorem dX9_ahead_35 : decode cX9_ahead 35 = .ok (.istore_n 3, 1) := q_o62 (by decide +kernel)
theorem dX9_ahead_36 : decode cX9_ahead 36 = .ok (.iload_n 3, 1) := q_o29 (by decide +kernel)
theorem dX9_ahead_37 : decode cX9_ahead 37 = .ok (.ifCond .eq 21, 3) := q_o153 (a := 0) (b := 21) (by decide +kernel) rfl
theorem dX9_ahead_40 : decode cX9_ahead 40 = .ok (.aload_n 0, 1) := q_o42 (by decide +kernel)
theorem dX9_ahead_41 : decode cX9_ahead 41 = .ok (.getfield 47, 3) := q_o180 (a := 0) (b := 47) (by decide +kernel)
theorem dX9_ahead_44 : decode cX9_ahead 44 = .ok (.getfield 157, 3) := q_o180 (a := 0) (b := 157) (by decide +kernel)
theorem dX9_ahead_47 : decode cX9_ahead 47 = .ok (.bipush 96, 2) := q_o16 (a := 96) (by decide +kernel) rfl
theorem dX9_ahead_49 : decode cX9_ahead 49 = .ok (.iaload, 1) := q_o46 (by decide +kernel)
theorem dX9_ahead_50 : decode cX9_ahead 50 = .ok (.iload_n 1, 1) := q_o27 (by decide +kernel)
theorem dX9_ahead_51 : decode cX9_ahead 51 = .ok (.iadd, 1) := q_o96 (by decide +kernel)
theorem dX9_ahead_52 : decode cX9_ahead 52 = .ok (.sipush 9999, 3) := q_o17 (a := 39) (b := 15) (by decide +kernel) rfl
theorem dX9_ahead_55 : decode cX9_ahead 55 = .ok (.if_icmp .le 5, 3) := q_o164 (a := 0) (b := 5) (by decide +kernel) rfl
theorem dX9_ahead_58 : decode cX9_ahead 58 = .ok (.iconst (-1), 1) := q_o2 (by decide +kernel)
theorem dX9_ahead_59 : decode cX9_ahead 59 = .ok (.ireturn, 1) := q_o172 (by decide +kernel)
theorem dX9_ahead_60 : decode cX9_ahead 60 = .ok (.aload_n 0, 1) := q_o42 (by decide +kernel)
theorem dX9_ahead_61 : decode cX9_ahead 61 = .ok (.getfield 59, 3) := q_o180 (a := 0) (b := 59) (by decide +kernel)
theorem dX9_ahead_64 : decode cX9_ahead 64 = .ok (.iload_n 1, 1) := q_o27 (by decide +kernel)
theorem dX9_ahead_65 : decode cX9_ahead 65 = .ok (.iload_n 2, 1) := q_o28 (by decide +kernel)
theorem dX9_ahead_66 : decode cX9_ahead 66 = .ok (.ifCond .ne 8, 3) := q_o154 (a := 0) (b := 8) (by decide +kernel) rfl
theorem dX9_ahead_69 : decode cX9_ahead 69 = .ok (.bipush 6, 2) := q_o16 (a := 6) (by decide +kernel) rfl
theorem dX9_ahead_71 : decode cX9_ahead 71 = .ok (.goto 5, 3) := q_o167 (a := 0) (b := 5) (by decide +kernel) rfl
theorem dX9_ahead_74 : decode cX9_ahead 74 = .ok (.bipush 7, 2) := q_o16 (a := 7) (by decide +kernel) rfl
theorem dX9_ahead_76 : decode cX9_ahead 76 = .ok (.invokevirtual 264, 3) := q_o182 (a := 1) (b := 8) (by decide +kernel)
theorem dX9_ahead_79 : decode cX9_ahead 79 = .ok (.ireturn, 1) := q_o172 (by decide +kernel)
theorem dX9_error_0 : decode cX9_error 0 = .ok (.aload_n 0, 1) := q_o42 (by decide +kernel)
theorem dX9_error_1 : decode cX9_error 1 = .ok (.getfield 32, 3) := q_o180 (a := 0) (b := 32) (by decide +kernel)
theorem dX9_error_4 : decode cX9_error 4 = .ok (.iload_n 1, 1) := q_o27 (by decide +kernel)
theorem dX9_error_5 : decode cX9_error 5 = .ok (.invokevirtual 153, 3) := q_o182 (a := 0) (b := 153) (by decide +kernel)
theorem dX9_error_8 : decode cX9_error 8 = .ok (.ifCond .eq 18, 3) := q_o153 (a := 0) (b := 18) (by decide +kernel) rfl
theorem dX9_error_11 : decode cX9_error 11 = .ok (.aload_n 0, 1) := q_o42 (by decide +kernel)
theorem dX9_error_12 : decode cX9_error 12 = .ok (.getfield 47, 3) := q_o180 (a := 0) (b := 47) (by decide +kernel)
theorem dX9_error_15 : decode cX9_error 15 = .ok (.getfield 157, 3) := q_o180 (a := 0) (b := 157) (by decide +kernel)
theorem dX9_error_18 : decode cX9_error 18 = .ok (.bipush 80, 2) := q_o16 (a := 80) (by decide +kernel) rfl
theorem dX9_error_20 : decode cX9_error 20 = .ok (.iload_n 1, 1) := q_o27 (by decide +kernel)
theorem dX9_error_21 : decode cX9_error 21 = .ok (.iadd, 1) := q_o96 (by decide +kernel)
theorem dX9_error_22 : decode cX9_error 22 = .ok (.iaload, 1) := q_o46 (by decide +kernel)
theorem dX9_error_23 : decode cX9_error 23 = .ok (.goto 4, 3) := q_o167 (a := 0) (b := 4) (by decide +kernel) rfl
theorem dX9_error_26 : decode cX9_error 26 = .ok (.iconst (-1), 1) := q_o2 (by decide +kernel)
theorem dX9_error_27 : decode cX9_error 27 = .ok (.istore_n 3, 1) := q_o62 (by decide +kernel)
theorem dX9_error_28 : decode cX9_error 28 = .ok (.aload_n 0, 1) := q_o42 (by decide +kernel)
theorem dX9_error_29 : decode cX9_error 29 = .ok (.aload_n 0, 1) := q_o42 (by decide +kernel)
theorem dX9_error_30 : decode cX9_error 30 = .ok (.aload_n 0, 1) := q_o42 (by decide +kernel)
theorem dX9_error_31 : decode cX9_error 31 = .ok (.getfield 47, 3) := q_o180 (a := 0) (b := 47) (by decide +kernel)
theorem dX9_error_34 : decode cX9_error 34 = .ok (.iconst 1, 1) := q_o4 (by decide +kernel)
theorem dX9_error_35 : decode cX9_error 35 = .ok (.iconst 4, 1) := q_o7 (by decide +kernel)
theorem dX9_error_36 : decode cX9_error 36 = .ok (.iload_n 1, 1) := q_o27 (by decide +kernel)
theorem dX9_error_37 : decode cX9_error 37 = .ok (.iload_n 2, 1) := q_o28 (by decide +kernel)
theorem dX9_error_38 : decode cX9_error 38 = .ok (.iconst (-1), 1) := q_o2 (by decide +kernel)
theorem dX9_error_39 : decode cX9_error 39 = .ok (.invokevirtual 227, 3) := q_o182 (a := 0) (b := 227) (by decide +kernel)
theorem dX9_error_42 : decode cX9_error 42 = .ok (.invokevirtual 231, 3) := q_o182 (a := 0) (b := 231) (by decide +kernel)
theorem dX9_error_45 : decode cX9_error 45 = .ok (.ifCond .eq 7, 3) := q_o153 (a := 0) (b := 7) (by decide +kernel) rfl
theorem dX9_error_48 : decode cX9_error 48 = .ok (.iload_n 3, 1) := q_o29 (by decide +kernel)
theorem dX9_error_49 : decode cX9_error 49 = .ok (.goto 4, 3) := q_o167 (a := 0) (b := 4) (by decide +kernel) rfl
theorem dX9_error_52 : decode cX9_error 52 = .ok (.iconst (-1), 1) := q_o2 (by decide +kernel)
theorem dX9_error_53 : decode cX9_error 53 = .ok (.ireturn, 1) := q_o172 (by decide +kernel)
theorem dX9_isDone_0 : decode cX9_isDone 0 = .ok (.iload_n 1, 1) := q_o27 (by decide +kernel)
theorem dX9_isDone_1 : decode cX9_isDone 1 = .ok (.ifCond .lt 22, 3) := q_o155 (a := 0) (b := 22) (by decide +kernel) rfl
theorem dX9_isDone_4 : decode cX9_isDone 4 = .ok (.iload_n 1, 1) := q_o27 (by decide +kernel)
theorem dX9_isDone_5 : decode cX9_isDone 5 = .ok (.aload_n 0, 1) := q_o42 (by decide +kernel)
theorem dX9_isDone_6 : decode cX9_isDone 6 = .ok (.getfield 90, 3) := q_o180 (a := 0) (b := 90) (by decide +kernel)
theorem dX9_isDone_9 : decode cX9_isDone 9 = .ok (.arraylength, 1) := by decide +kernel
theorem dX9_isDone_10 : decode cX9_isDone 10 = .ok (.if_icmp .ge 13, 3) := q_o162 (a := 0) (b := 13) (by decide +kernel) rfl
theorem dX9_isDone_13 : decode cX9_isDone 13 = .ok (.aload_n 0, 1) := q_o42 (by decide +kernel)
theorem dX9_isDone_14 : decode cX9_isDone 14 = .ok (.getfield 90, 3) := q_o180 (a := 0) (b := 90) (by decide +kernel)
theorem dX9_isDone_17 : decode cX9_isDone 17 = .ok (.iload_n 1, 1) := q_o27 (by decide +kernel)
theorem dX9_isDone_18 : decode cX9_isDone 18 = .ok (.dup2, 1) := by decide +kernel
theorem dX9_isDone_19 : decode cX9_isDone 19 = .ok (.iaload, 1) := q_o46 (by decide +kernel)
theorem dX9_isDone_20 : decode cX9_isDone 20 = .ok (.iconst 1, 1) := q_o4 (by decide +kernel)
theorem dX9_isDone_21 : decode cX9_isDone 21 = .ok (.iadd, 1) := q_o96 (by decide +kernel)
theorem dX9_isDone_22 : decode cX9_isDone 22 = .ok (.iastore, 1) := q_o79 (by decide +kernel)
theorem dX9_isDone_23 : decode cX9_isDone 23 = .ok (.iload_n 1, 1) := q_o27 (by decide +kernel)
theorem dX9_isDone_24 : decode cX9_isDone 24 = .ok (.iconst (-1), 1) := q_o2 (by decide +kernel)
theorem dX9_isDone_25 : decode cX9_isDone 25 = .ok (.if_icmp .ne 7, 3) := q_o160 (a := 0) (b := 7) (by decide +kernel) rfl
theorem dX9_isDone_28 : decode cX9_isDone 28 = .ok (.iconst 1, 1) := q_o4 (by decide +kernel)
theorem dX9_isDone_29 : decode cX9_isDone 29 = .ok (.goto 4, 3) := q_o167 (a := 0) (b := 4) (by decide +kernel) rfl
theorem dX9_isDone_32 : decode cX9_isDone 32 = .ok (.iconst 0, 1) := q_o3 (by decide +kernel)
theorem dX9_isDone_33 : decode cX9_isDone 33 = .ok (.ireturn, 1) := q_o172 (by decide +kernel)
theorem dX9_last_0 : decode cX9_last 0 = .ok (.aload_n 0, 1) := q_o42 (by decide +kernel)
theorem dX9_last_1 : decode cX9_last 1 = .ok (.getfield 32, 3) := q_o180 (a := 0) (b := 32) (by decide +kernel)
theorem dX9_last_4 : decode cX9_last 4 = .ok (.invokevirtual 146, 3) := q_o182 (a := 0) (b := 146) (by decide +kernel)
theorem dX9_last_7 : decode cX9_last 7 = .ok (.ifCond .eq 13, 3) := q_o153 (a := 0) (b := 13) (by decide +kernel) rfl
theorem dX9_last_10 : decode cX9_last 10 = .ok (.aload_n 0, 1) := q_o42 (by decide +kernel)
theorem dX9_last_11 : decode cX9_last 11 = .ok (.getfield 59, 3) := q_o180 (a := 0) (b := 59) (by decide +kernel)
theorem dX9_last_14 : decode cX9_last 14 = .ok (.invokevirtual 267, 3) := q_o182 (a := 1) (b := 11) (by decide +kernel)
theorem dX9_last_17 : decode cX9_last 17 = .ok (.goto 4, 3) := q_o167 (a := 0) (b := 4) (by decide +kernel) rfl
theorem dX9_last_20 : decode cX9_last 20 = .ok (.iconst (-1), 1) := q_o2 (by decide +kernel)
theorem dX9_last_21 : decode cX9_last 21 = .ok (.ireturn, 1) := q_o172 (by decide +kernel)
theorem dX9_log_0 : decode cX9_log 0 = .ok (.iload_n 1, 1) := q_o27 (by decide +kernel)
theorem dX9_log_1 : decode cX9_log 1 = .ok (.ifCond .lt 23, 3) := q_o155 (a := 0) (b := 23) (by decide +kernel) rfl
theorem dX9_log_4 : decode cX9_log 4 = .ok (.iload_n 1, 1) := q_o27 (by decide +kernel)
theorem dX9_log_5 : decode cX9_log 5 = .ok (.aload_n 0, 1) := q_o42 (by decide +kernel)
theorem dX9_log_6 : decode cX9_log 6 = .ok (.getfield 73, 3) := q_o180 (a := 0) (b := 73) (by decide +kernel)
theorem dX9_log_9 : decode cX9_log 9 = .ok (.invokevirtual 255, 3) := q_o182 (a := 0) (b := 255) (by decide +kernel)
theorem dX9_log_12 : decode cX9_log 12 = .ok (.if_icmp .ge 12, 3) := q_o162 (a := 0) (b := 12) (by decide +kernel) rfl
theorem dX9_log_15 : decode cX9_log 15 = .ok (.iload_n 2, 1) := q_o28 (by decide +kernel)
theorem dX9_log_16 : decode cX9_log 16 = .ok (.ifCond .lt 8, 3) := q_o155 (a := 0) (b := 8) (by decide +kernel) rfl
theorem dX9_log_19 : decode cX9_log 19 = .ok (.iload_n 2, 1) := q_o28 (by decide +kernel)
theorem dX9_log_20 : decode cX9_log 20 = .ok (.iconst 3, 1) := q_o6 (by decide +kernel)
theorem dX9_log_21 : decode cX9_log 21 = .ok (.if_icmp .lt 6, 3) := q_o161 (a := 0) (b := 6) (by decide +kernel) rfl
theorem dX9_log_24 : decode cX9_log 24 = .ok (.ldc 185, 2) := by decide +kernel
theorem dX9_log_26 : decode cX9_log 26 = .ok (.ireturn, 1) := q_o172 (by decide +kernel)
theorem dX9_log_27 : decode cX9_log 27 = .ok (.aload_n 0, 1) := q_o42 (by decide +kernel)
theorem dX9_log_28 : decode cX9_log 28 = .ok (.getfield 73, 3) := q_o180 (a := 0) (b := 73) (by decide +kernel)
theorem dX9_log_31 : decode cX9_log 31 = .ok (.iload_n 1, 1) := q_o27 (by decide +kernel)
theorem dX9_log_32 : decode cX9_log 32 = .ok (.iload_n 2, 1) := q_o28 (by decide +kernel)
theorem dX9_log_33 : decode cX9_log 33 = .ok (.invokevirtual 258, 3) := q_o182 (a := 1) (b := 2) (by decide +kernel)
theorem dX9_log_36 : decode cX9_log 36 = .ok (.ireturn, 1) := q_o172 (by decide +kernel)
theorem dX9_lost_0 : decode cX9_lost 0 = .ok (.aload_n 0, 1) := q_o42 (by decide +kernel)
theorem dX9_lost_1 : decode cX9_lost 1 = .ok (.getfield 32, 3) := q_o180 (a := 0) (b := 32) (by decide +kernel)
theorem dX9_lost_4 : decode cX9_lost 4 = .ok (.iload_n 1, 1) := q_o27 (by decide +kernel)
theorem dX9_lost_5 : decode cX9_lost 5 = .ok (.invokevirtual 153, 3) := q_o182 (a := 0) (b := 153) (by decide +kernel)
theorem dX9_lost_8 : decode cX9_lost 8 = .ok (.ifCond .eq 23, 3) := q_o153 (a := 0) (b := 23) (by decide +kernel) rfl
theorem dX9_lost_11 : decode cX9_lost 11 = .ok (.aload_n 0, 1) := q_o42 (by decide +kernel)
theorem dX9_lost_12 : decode cX9_lost 12 = .ok (.getfield 47, 3) := q_o180 (a := 0) (b := 47) (by decide +kernel)
theorem dX9_lost_15 : decode cX9_lost 15 = .ok (.getfield 157, 3) := q_o180 (a := 0) (b := 157) (by decide +kernel)
theorem dX9_lost_18 : decode cX9_lost 18 = .ok (.bipush 72, 2) := q_o16 (a := 72) (by decide +kernel) rfl
theorem dX9_lost_20 : decode cX9_lost 20 = .ok (.iload_n 1, 1) := q_o27 (by decide +kernel)
theorem dX9_lost_21 : decode cX9_lost 21 = .ok (.iadd, 1) := q_o96 (by decide +kernel)
theorem dX9_lost_22 : decode cX9_lost 22 = .ok (.iaload, 1) := q_o46 (by decide +kernel)
theorem dX9_lost_23 : decode cX9_lost 23 = .ok (.iconst 1, 1) := q_o4 (by decide +kernel)
theorem dX9_lost_24 : decode cX9_lost 24 = .ok (.if_icmp .ne 7, 3) := q_o160 (a := 0) (b := 7) (by decide +kernel) rfl
theorem dX9_lost_27 : decode cX9_lost 27 = .ok (.iconst 1, 1) := q_o4 (by decide +kernel)
theorem dX9_lost_28 : decode cX9_lost 28 = .ok (.goto 4, 3) := q_o167 (a := 0) (b := 4) (by decide +kernel) rfl
theorem dX9_lost_31 : decode cX9_lost 31 = .ok (.iconst 0, 1) := q_o3 (by decide +kernel)
theorem dX9_lost_32 : decode cX9_lost 32 = .ok (.istore_n 2, 1) := q_o61 (by decide +kernel)
theorem dX9_lost_33 : decode cX9_lost 33 = .ok (.iload_n 2, 1) := q_o28 (by decide +kernel)
theorem dX9_lost_34 : decode cX9_lost 34 = .ok (.ifCond .eq 14, 3) := q_o153 (a := 0) (b := 14) (by decide +kernel) rfl
theorem dX9_lost_37 : decode cX9_lost 37 = .ok (.aload_n 0, 1) := q_o42 (by decide +kernel)
theorem dX9_lost_38 : decode cX9_lost 38 = .ok (.getfield 59, 3) := q_o180 (a := 0) (b := 59) (by decide +kernel)
theorem dX9_lost_41 : decode cX9_lost 41 = .ok (.iload_n 1, 1) := q_o27 (by decide +kernel)
theorem dX9_lost_42 : decode cX9_lost 42 = .ok (.invokevirtual 276, 3) := q_o182 (a := 1) (b := 20) (by decide +kernel)
theorem dX9_lost_45 : decode cX9_lost 45 = .ok (.goto 4, 3) := q_o167 (a := 0) (b := 4) (by decide +kernel) rfl
theorem dX9_lost_48 : decode cX9_lost 48 = .ok (.iconst (-1), 1) := q_o2 (by decide +kernel)
theorem dX9_lost_49 : decode cX9_lost 49 = .ok (.ireturn, 1) := q_o172 (by decide +kernel)
theorem dX9_order_0 : decode cX9_order 0 = .ok (.aload_n 0, 1) := q_o42 (by decide +kernel)
theorem dX9_order_1 : decode cX9_order 1 = .ok (.getfield 32, 3) := q_o180 (a := 0) (b := 32) (by decide +kernel)
theorem dX9_order_4 : decode cX9_order 4 = .ok (.invokevirtual 146, 3) := q_o182 (a := 0) (b := 146) (by decide +kernel)
theorem dX9_order_7 : decode cX9_order 7 = .ok (.ifCond .eq 24, 3) := q_o153 (a := 0) (b := 24) (by decide +kernel) rfl
theorem dX9_order_10 : decode cX9_order 10 = .ok (.iload_n 1, 1) := q_o27 (by decide +kernel)
theorem dX9_order_11 : decode cX9_order 11 = .ok (.ifCond .lt 20, 3) := q_o155 (a := 0) (b := 20) (by decide +kernel) rfl
theorem dX9_order_14 : decode cX9_order 14 = .ok (.iload_n 1, 1) := q_o27 (by decide +kernel)
theorem dX9_order_15 : decode cX9_order 15 = .ok (.bipush 8, 2) := q_o16 (a := 8) (by decide +kernel) rfl
theorem dX9_order_17 : decode cX9_order 17 = .ok (.if_icmp .ge 14, 3) := q_o162 (a := 0) (b := 14) (by decide +kernel) rfl
theorem dX9_order_20 : decode cX9_order 20 = .ok (.aload_n 0, 1) := q_o42 (by decide +kernel)
theorem dX9_order_21 : decode cX9_order 21 = .ok (.getfield 59, 3) := q_o180 (a := 0) (b := 59) (by decide +kernel)
theorem dX9_order_24 : decode cX9_order 24 = .ok (.iload_n 1, 1) := q_o27 (by decide +kernel)
theorem dX9_order_25 : decode cX9_order 25 = .ok (.invokevirtual 273, 3) := q_o182 (a := 1) (b := 17) (by decide +kernel)
theorem dX9_order_28 : decode cX9_order 28 = .ok (.goto 4, 3) := q_o167 (a := 0) (b := 4) (by decide +kernel) rfl
theorem dX9_order_31 : decode cX9_order 31 = .ok (.iconst (-1), 1) := q_o2 (by decide +kernel)
theorem dX9_order_32 : decode cX9_order 32 = .ok (.ireturn, 1) := q_o172 (by decide +kernel)
theorem dX9_place_0 : decode cX9_place 0 = .ok (.aload_n 0, 1) := q_o42 (by decide +kernel)
theorem dX9_place_1 : decode cX9_place 1 = .ok (.getfield 32, 3) := q_o180 (a := 0) (b := 32) (by decide +kernel)
theorem dX9_place_4 : decode cX9_place 4 = .ok (.iload_n 1, 1) := q_o27 (by decide +kernel)
theorem dX9_place_5 : decode cX9_place 5 = .ok (.invokevirtual 153, 3) := q_o182 (a := 0) (b := 153) (by decide +kernel)
theorem dX9_place_8 : decode cX9_place 8 = .ok (.ifCond .eq 26, 3) := q_o153 (a := 0) (b := 26) (by decide +kernel) rfl
theorem dX9_place_11 : decode cX9_place 11 = .ok (.aload_n 0, 1) := q_o42 (by decide +kernel)
theorem dX9_place_12 : decode cX9_place 12 = .ok (.getfield 47, 3) := q_o180 (a := 0) (b := 47) (by decide +kernel)
theorem dX9_place_15 : decode cX9_place 15 = .ok (.iload_n 1, 1) := q_o27 (by decide +kernel)
theorem dX9_place_16 : decode cX9_place 16 = .ok (.iconst 0, 1) := q_o3 (by decide +kernel)
theorem dX9_place_17 : decode cX9_place 17 = .ok (.invokevirtual 198, 3) := q_o182 (a := 0) (b := 198) (by decide +kernel)
theorem dX9_place_20 : decode cX9_place 20 = .ok (.ifCond .eq 14, 3) := q_o153 (a := 0) (b := 14) (by decide +kernel) rfl
theorem dX9_place_23 : decode cX9_place 23 = .ok (.aload_n 0, 1) := q_o42 (by decide +kernel)
theorem dX9_place_24 : decode cX9_place 24 = .ok (.getfield 59, 3) := q_o180 (a := 0) (b := 59) (by decide +kernel)
theorem dX9_place_27 : decode cX9_place 27 = .ok (.iload_n 1, 1) := q_o27 (by decide +kernel)
theorem dX9_place_28 : decode cX9_place 28 = .ok (.invokevirtual 270, 3) := q_o182 (a := 1) (b := 14) (by decide +kernel)
theorem dX9_place_31 : decode cX9_place 31 = .ok (.goto 4, 3) := q_o167 (a := 0) (b := 4) (by decide +kernel) rfl
theorem dX9_place_34 : decode cX9_place 34 = .ok (.iconst (-1), 1) := q_o2 (by decide +kernel)
theorem dX9_place_35 : decode cX9_place 35 = .ok (.ireturn, 1) := q_o172 (by decide +kernel)
theorem dX9_plug_0 : decode cX9_plug 0 = .ok (.aload_n 0, 1) := q_o42 (by decide +kernel)
theorem dX9_plug_1 : decode cX9_plug 1 = .ok (.aload_n 0, 1) := q_o42 (by decide +kernel)
theorem dX9_plug_2 : decode cX9_plug 2 = .ok (.aload_n 0, 1) := q_o42 (by decide +kernel)
theorem dX9_plug_3 : decode cX9_plug 3 = .ok (.getfield 47, 3) := q_o180 (a := 0) (b := 47) (by decide +kernel)
theorem dX9_plug_6 : decode cX9_plug 6 = .ok (.iconst 1, 1) := q_o4 (by decide +kernel)
theorem dX9_plug_7 : decode cX9_plug 7 = .ok (.iconst 0, 1) := q_o3 (by decide +kernel)
theorem dX9_plug_8 : decode cX9_plug 8 = .ok (.iload_n 1, 1) := q_o27 (by decide +kernel)
theorem dX9_plug_9 : decode cX9_plug 9 = .ok (.iload_n 2, 1) := q_o28 (by decide +kernel)
theorem dX9_plug_10 : decode cX9_plug 10 = .ok (.iload_n 3, 1) := q_o29 (by decide +kernel)
theorem dX9_plug_11 : decode cX9_plug 11 = .ok (.invokevirtual 227, 3) := q_o182 (a := 0) (b := 227) (by decide +kernel)
theorem dX9_plug_14 : decode cX9_plug 14 = .ok (.invokevirtual 231, 3) := q_o182 (a := 0) (b := 231) (by decide +kernel)
theorem dX9_plug_17 : decode cX9_plug 17 = .ok (.ifCond .eq 14, 3) := q_o153 (a := 0) (b := 14) (by decide +kernel) rfl
theorem dX9_plug_20 : decode cX9_plug 20 = .ok (.aload_n 0, 1) := q_o42 (by decide +kernel)
theorem dX9_plug_21 : decode cX9_plug 21 = .ok (.getfield 47, 3) := q_o180 (a := 0) (b := 47) (by decide +kernel)
theorem dX9_plug_24 : decode cX9_plug 24 = .ok (.iload_n 1, 1) := q_o27 (by decide +kernel)
theorem dX9_plug_25 : decode cX9_plug 25 = .ok (.invokevirtual 168, 3) := q_o182 (a := 0) (b := 168) (by decide +kernel)
theorem dX9_plug_28 : decode cX9_plug 28 = .ok (.goto 4, 3) := q_o167 (a := 0) (b := 4) (by decide +kernel) rfl
theorem dX9_plug_31 : decode cX9_plug 31 = .ok (.iconst (-1), 1) := q_o2 (by decide +kernel)
theorem dX9_plug_32 : decode cX9_plug 32 = .ok (.ireturn, 1) := q_o172 (by decide +kernel)
theorem dX9_shares_0 : decode cX9_shares 0 = .ok (.aload_n 0, 1) := q_o42 (by decide +kernel)
theorem dX9_shares_1 : decode cX9_shares 1 = .ok (.getfield 32, 3) := q_o180 (a := 0) (b := 32) (by decide +kernel)
theorem dX9_shares_4 : decode cX9_shares 4 = .ok (.iload_n 1, 1) := q_o27 (by decide +kernel)
theorem dX9_shares_5 : decode cX9_shares 5 = .ok (.invokevirtual 153, 3) := q_o182 (a := 0) (b := 153) (by decide +kernel)
theorem dX9_shares_8 : decode cX9_shares 8 = .ok (.ifCond .eq 27, 3) := q_o153 (a := 0) (b := 27) (by decide +kernel) rfl
theorem dX9_shares_11 : decode cX9_shares 11 = .ok (.aload_n 0, 1) := q_o42 (by decide +kernel)
theorem dX9_shares_12 : decode cX9_shares 12 = .ok (.getfield 47, 3) := q_o180 (a := 0) (b := 47) (by decide +kernel)
theorem dX9_shares_15 : decode cX9_shares 15 = .ok (.iload_n 1, 1) := q_o27 (by decide +kernel)
theorem dX9_shares_16 : decode cX9_shares 16 = .ok (.bipush 6, 2) := q_o16 (a := 6) (by decide +kernel) rfl
theorem dX9_shares_18 : decode cX9_shares 18 = .ok (.invokevirtual 198, 3) := q_o182 (a := 0) (b := 198) (by decide +kernel)
theorem dX9_shares_21 : decode cX9_shares 21 = .ok (.ifCond .eq 14, 3) := q_o153 (a := 0) (b := 14) (by decide +kernel) rfl
theorem dX9_shares_24 : decode cX9_shares 24 = .ok (.iload_n 2, 1) := q_o28 (by decide +kernel)
theorem dX9_shares_25 : decode cX9_shares 25 = .ok (.ifCond .lt 10, 3) := q_o155 (a := 0) (b := 10) (by decide +kernel) rfl
theorem dX9_shares_28 : decode cX9_shares 28 = .ok (.iload_n 2, 1) := q_o28 (by decide +kernel)
theorem dX9_shares_29 : decode cX9_shares 29 = .ok (.sipush 999, 3) := q_o17 (a := 3) (b := 231) (by decide +kernel) rfl
theorem dX9_shares_32 : decode cX9_shares 32 = .ok (.if_icmp .le 5, 3) := q_o164 (a := 0) (b := 5) (by decide +kernel) rfl
theorem dX9_shares_35 : decode cX9_shares 35 = .ok (.iconst (-1), 1) := q_o2 (by decide +kernel)
theorem dX9_shares_36 : decode cX9_shares 36 = .ok (.ireturn, 1) := q_o172 (by decide +kernel)
theorem dX9_shares_37 : decode cX9_shares 37 = .ok (.iconst 0, 1) := q_o3 (by decide +kernel)
theorem dX9_shares_38 : decode cX9_shares 38 = .ok (.istore_n 3, 1) := q_o62 (by decide +kernel)
theorem dX9_shares_39 : decode cX9_shares 39 = .ok (.iconst 0, 1) := q_o3 (by decide +kernel)
theorem dX9_shares_40 : decode cX9_shares 40 = .ok (.istore 4, 2) := q_o54 (a := 4) (by decide +kernel)
theorem dX9_shares_42 : decode cX9_shares 42 = .ok (.iload 4, 2) := q_o21 (a := 4) (by decide +kernel)
theorem dX9_shares_44 : decode cX9_shares 44 = .ok (.aload_n 0, 1) := q_o42 (by decide +kernel)
theorem dX9_shares_45 : decode cX9_shares 45 = .ok (.getfield 32, 3) := q_o180 (a := 0) (b := 32) (by decide +kernel)
theorem dX9_shares_48 : decode cX9_shares 48 = .ok (.getfield 137, 3) := q_o180 (a := 0) (b := 137) (by decide +kernel)
theorem dX9_shares_51 : decode cX9_shares 51 = .ok (.if_icmp .ge 43, 3) := q_o162 (a := 0) (b := 43) (by decide +kernel) rfl
theorem dX9_shares_54 : decode cX9_shares 54 = .ok (.iload_n 3, 1) := q_o29 (by decide +kernel)
theorem dX9_shares_55 : decode cX9_shares 55 = .ok (.aload_n 0, 1) := q_o42 (by decide +kernel)
theorem dX9_shares_56 : decode cX9_shares 56 = .ok (.getfield 47, 3) := q_o180 (a := 0) (b := 47) (by decide +kernel)
theorem dX9_shares_59 : decode cX9_shares 59 = .ok (.iload 4, 2) := q_o21 (a := 4) (by decide +kernel)
theorem dX9_shares_61 : decode cX9_shares 61 = .ok (.bipush 6, 2) := q_o16 (a := 6) (by decide +kernel) rfl
theorem dX9_shares_63 : decode cX9_shares 63 = .ok (.invokevirtual 198, 3) := q_o182 (a := 0) (b := 198) (by decide +kernel)
theorem dX9_shares_66 : decode cX9_shares 66 = .ok (.ifCond .eq 19, 3) := q_o153 (a := 0) (b := 19) (by decide +kernel) rfl
theorem dX9_shares_69 : decode cX9_shares 69 = .ok (.aload_n 0, 1) := q_o42 (by decide +kernel)
theorem dX9_shares_70 : decode cX9_shares 70 = .ok (.getfield 32, 3) := q_o180 (a := 0) (b := 32) (by decide +kernel)
theorem dX9_shares_73 : decode cX9_shares 73 = .ok (.getfield 160, 3) := q_o180 (a := 0) (b := 160) (by decide +kernel)
theorem dX9_shares_76 : decode cX9_shares 76 = .ok (.bipush 32, 2) := q_o16 (a := 32) (by decide +kernel) rfl
theorem dX9_shares_78 : decode cX9_shares 78 = .ok (.iload 4, 2) := q_o21 (a := 4) (by decide +kernel)
theorem dX9_shares_80 : decode cX9_shares 80 = .ok (.iadd, 1) := q_o96 (by decide +kernel)
theorem dX9_shares_81 : decode cX9_shares 81 = .ok (.iaload, 1) := q_o46 (by decide +kernel)
theorem dX9_shares_82 : decode cX9_shares 82 = .ok (.goto 4, 3) := q_o167 (a := 0) (b := 4) (by decide +kernel) rfl
theorem dX9_shares_85 : decode cX9_shares 85 = .ok (.iconst 0, 1) := q_o3 (by decide +kernel)
theorem dX9_shares_86 : decode cX9_shares 86 = .ok (.iadd, 1) := q_o96 (by decide +kernel)
theorem dX9_shares_87 : decode cX9_shares 87 = .ok (.istore_n 3, 1) := q_o62 (by decide +kernel)
theorem dX9_shares_88 : decode cX9_shares 88 = .ok (.iinc 4 1, 3) := q_o132 (a := 4) (b := 1) (by decide +kernel) rfl
theorem dX9_shares_91 : decode cX9_shares 91 = .ok (.goto (-49), 3) := q_o167 (a := 255) (b := 207) (by decide +kernel) rfl
theorem dX9_shares_94 : decode cX9_shares 94 = .ok (.iload_n 3, 1) := q_o29 (by decide +kernel)
theorem dX9_shares_95 : decode cX9_shares 95 = .ok (.ifCond .ne 7, 3) := q_o154 (a := 0) (b := 7) (by decide +kernel) rfl
theorem dX9_shares_98 : decode cX9_shares 98 = .ok (.iconst 0, 1) := q_o3 (by decide +kernel)
theorem dX9_shares_99 : decode cX9_shares 99 = .ok (.goto 19, 3) := q_o167 (a := 0) (b := 19) (by decide +kernel) rfl
theorem dX9_shares_102 : decode cX9_shares 102 = .ok (.iload_n 2, 1) := q_o28 (by decide +kernel)
theorem dX9_shares_103 : decode cX9_shares 103 = .ok (.aload_n 0, 1) := q_o42 (by decide +kernel)
theorem dX9_shares_104 : decode cX9_shares 104 = .ok (.getfield 32, 3) := q_o180 (a := 0) (b := 32) (by decide +kernel)
theorem dX9_shares_107 : decode cX9_shares 107 = .ok (.getfield 160, 3) := q_o180 (a := 0) (b := 160) (by decide +kernel)
theorem dX9_shares_110 : decode cX9_shares 110 = .ok (.bipush 32, 2) := q_o16 (a := 32) (by decide +kernel) rfl
theorem dX9_shares_112 : decode cX9_shares 112 = .ok (.iload_n 1, 1) := q_o27 (by decide +kernel)
theorem dX9_shares_113 : decode cX9_shares 113 = .ok (.iadd, 1) := q_o96 (by decide +kernel)
theorem dX9_shares_114 : decode cX9_shares 114 = .ok (.iaload, 1) := q_o46 (by decide +kernel)
theorem dX9_shares_115 : decode cX9_shares 115 = .ok (.imul, 1) := q_o104 (by decide +kernel)
theorem dX9_shares_116 : decode cX9_shares 116 = .ok (.iload_n 3, 1) := q_o29 (by decide +kernel)
theorem dX9_shares_117 : decode cX9_shares 117 = .ok (.idiv, 1) := by decide +kernel
theorem dX9_shares_118 : decode cX9_shares 118 = .ok (.ireturn, 1) := q_o172 (by decide +kernel)
theorem dX9_sleep_0 : decode cX9_sleep 0 = .ok (.aload_n 0, 1) := q_o42 (by decide +kernel)
theorem dX9_sleep_1 : decode cX9_sleep 1 = .ok (.aload_n 0, 1) := q_o42 (by decide +kernel)
theorem dX9_sleep_2 : decode cX9_sleep 2 = .ok (.aload_n 0, 1) := q_o42 (by decide +kernel)
theorem dX9_sleep_3 : decode cX9_sleep 3 = .ok (.getfield 47, 3) := q_o180 (a := 0) (b := 47) (by decide +kernel)
theorem dX9_sleep_6 : decode cX9_sleep 6 = .ok (.iconst 1, 1) := q_o4 (by decide +kernel)
theorem dX9_sleep_7 : decode cX9_sleep 7 = .ok (.bipush 6, 2) := q_o16 (a := 6) (by decide +kernel) rfl
theorem dX9_sleep_9 : decode cX9_sleep 9 = .ok (.iload_n 1, 1) := q_o27 (by decide +kernel)
theorem dX9_sleep_10 : decode cX9_sleep 10 = .ok (.iconst (-1), 1) := q_o2 (by decide +kernel)
theorem dX9_sleep_11 : decode cX9_sleep 11 = .ok (.iconst (-1), 1) := q_o2 (by decide +kernel)
theorem dX9_sleep_12 : decode cX9_sleep 12 = .ok (.invokevirtual 227, 3) := q_o182 (a := 0) (b := 227) (by decide +kernel)
theorem dX9_sleep_15 : decode cX9_sleep 15 = .ok (.invokevirtual 231, 3) := q_o182 (a := 0) (b := 231) (by decide +kernel)
theorem dX9_sleep_18 : decode cX9_sleep 18 = .ok (.istore_n 2, 1) := q_o61 (by decide +kernel)
theorem dX9_sleep_19 : decode cX9_sleep 19 = .ok (.iload_n 2, 1) := q_o28 (by decide +kernel)
theorem dX9_sleep_20 : decode cX9_sleep 20 = .ok (.ifCond .eq 29, 3) := q_o153 (a := 0) (b := 29) (by decide +kernel) rfl
theorem dX9_sleep_23 : decode cX9_sleep 23 = .ok (.aload_n 0, 1) := q_o42 (by decide +kernel)
theorem dX9_sleep_24 : decode cX9_sleep 24 = .ok (.getfield 32, 3) := q_o180 (a := 0) (b := 32) (by decide +kernel)
theorem dX9_sleep_27 : decode cX9_sleep 27 = .ok (.iload_n 1, 1) := q_o27 (by decide +kernel)
theorem dX9_sleep_28 : decode cX9_sleep 28 = .ok (.invokevirtual 153, 3) := q_o182 (a := 0) (b := 153) (by decide +kernel)
theorem dX9_sleep_31 : decode cX9_sleep 31 = .ok (.ifCond .eq 18, 3) := q_o153 (a := 0) (b := 18) (by decide +kernel) rfl
theorem dX9_sleep_34 : decode cX9_sleep 34 = .ok (.aload_n 0, 1) := q_o42 (by decide +kernel)
theorem dX9_sleep_35 : decode cX9_sleep 35 = .ok (.getfield 47, 3) := q_o180 (a := 0) (b := 47) (by decide +kernel)
theorem dX9_sleep_38 : decode cX9_sleep 38 = .ok (.getfield 157, 3) := q_o180 (a := 0) (b := 157) (by decide +kernel)
theorem dX9_sleep_41 : decode cX9_sleep 41 = .ok (.bipush 88, 2) := q_o16 (a := 88) (by decide +kernel) rfl
theorem dX9_sleep_43 : decode cX9_sleep 43 = .ok (.iload_n 1, 1) := q_o27 (by decide +kernel)
theorem dX9_sleep_44 : decode cX9_sleep 44 = .ok (.iadd, 1) := q_o96 (by decide +kernel)
theorem dX9_sleep_45 : decode cX9_sleep 45 = .ok (.iaload, 1) := q_o46 (by decide +kernel)
theorem dX9_sleep_46 : decode cX9_sleep 46 = .ok (.goto 4, 3) := q_o167 (a := 0) (b := 4) (by decide +kernel) rfl
theorem dX9_sleep_49 : decode cX9_sleep 49 = .ok (.iconst (-1), 1) := q_o2 (by decide +kernel)
theorem dX9_sleep_50 : decode cX9_sleep 50 = .ok (.ireturn, 1) := q_o172 (by decide +kernel)
theorem dX9_status_0 : decode cX9_status 0 = .ok (.iload_n 1, 1) := q_o27 (by decide +kernel)
theorem dX9_status_1 : decode cX9_status 1 = .ok (.ifCond .lt 21, 3) := q_o155 (a := 0) (b := 21) (by decide +kernel) rfl
theorem dX9_status_4 : decode cX9_status 4 = .ok (.iload_n 1, 1) := q_o27 (by decide +kernel)
theorem dX9_status_5 : decode cX9_status 5 = .ok (.aload_n 0, 1) := q_o42 (by decide +kernel)
theorem dX9_status_6 : decode cX9_status 6 = .ok (.getfield 90, 3) := q_o180 (a := 0) (b := 90) (by decide +kernel)
theorem dX9_status_9 : decode cX9_status 9 = .ok (.arraylength, 1) := by decide +kernel
theorem dX9_status_10 : decode cX9_status 10 = .ok (.if_icmp .ge 12, 3) := q_o162 (a := 0) (b := 12) (by decide +kernel) rfl
theorem dX9_status_13 : decode cX9_status 13 = .ok (.aload_n 0, 1) := q_o42 (by decide +kernel)
theorem dX9_status_14 : decode cX9_status 14 = .ok (.getfield 90, 3) := q_o180 (a := 0) (b := 90) (by decide +kernel)
theorem dX9_status_17 : decode cX9_status 17 = .ok (.iload_n 1, 1) := q_o27 (by decide +kernel)
theorem dX9_status_18 : decode cX9_status 18 = .ok (.iaload, 1) := q_o46 (by decide +kernel)
theorem dX9_status_19 : decode cX9_status 19 = .ok (.goto 4, 3) := q_o167 (a := 0) (b := 4) (by decide +kernel) rfl
theorem dX9_status_22 : decode cX9_status 22 = .ok (.iconst (-1), 1) := q_o2 (by decide +kernel)
theorem dX9_status_23 : decode cX9_status 23 = .ok (.ireturn, 1) := q_o172 (by decide +kernel)
theorem dX9_step_0 : decode cX9_step 0 = .ok (.aload_n 0, 1) := q_o42 (by decide +kernel)
theorem dX9_step_1 : decode cX9_step 1 = .ok (.getfield 38, 3) := q_o180 (a := 0) (b := 38) (by decide +kernel)
theorem dX9_step_4 : decode cX9_step 4 = .ok (.iload_n 1, 1) := q_o27 (by decide +kernel)
theorem dX9_step_5 : decode cX9_step 5 = .ok (.invokevirtual 279, 3) := q_o182 (a := 1) (b := 23) (by decide +kernel)
theorem dX9_step_8 : decode cX9_step 8 = .ok (.ifCond .eq 29, 3) := q_o153 (a := 0) (b := 29) (by decide +kernel) rfl
theorem dX9_step_11 : decode cX9_step 11 = .ok (.iload_n 2, 1) := q_o28 (by decide +kernel)
theorem dX9_step_12 : decode cX9_step 12 = .ok (.ifCond .lt 25, 3) := q_o155 (a := 0) (b := 25) (by decide +kernel) rfl
theorem dX9_step_15 : decode cX9_step 15 = .ok (.iload_n 2, 1) := q_o28 (by decide +kernel)
theorem dX9_step_16 : decode cX9_step 16 = .ok (.aload_n 0, 1) := q_o42 (by decide +kernel)
theorem dX9_step_17 : decode cX9_step 17 = .ok (.getfield 38, 3) := q_o180 (a := 0) (b := 38) (by decide +kernel)
theorem dX9_step_20 : decode cX9_step 20 = .ok (.getfield 280, 3) := q_o180 (a := 1) (b := 24) (by decide +kernel)
theorem dX9_step_23 : decode cX9_step 23 = .ok (.iload_n 1, 1) := q_o27 (by decide +kernel)
theorem dX9_step_24 : decode cX9_step 24 = .ok (.iaload, 1) := q_o46 (by decide +kernel)
theorem dX9_step_25 : decode cX9_step 25 = .ok (.if_icmp .ge 12, 3) := q_o162 (a := 0) (b := 12) (by decide +kernel) rfl
theorem dX9_step_28 : decode cX9_step 28 = .ok (.iload_n 3, 1) := q_o29 (by decide +kernel)
theorem dX9_step_29 : decode cX9_step 29 = .ok (.ifCond .lt 8, 3) := q_o155 (a := 0) (b := 8) (by decide +kernel) rfl
theorem dX9_step_32 : decode cX9_step 32 = .ok (.iload_n 3, 1) := q_o29 (by decide +kernel)
theorem dX9_step_33 : decode cX9_step 33 = .ok (.iconst 4, 1) := q_o7 (by decide +kernel)
theorem dX9_step_34 : decode cX9_step 34 = .ok (.if_icmp .lt 6, 3) := q_o161 (a := 0) (b := 6) (by decide +kernel) rfl
theorem dX9_step_37 : decode cX9_step 37 = .ok (.ldc 185, 2) := by decide +kernel
theorem dX9_step_39 : decode cX9_step 39 = .ok (.ireturn, 1) := q_o172 (by decide +kernel)
theorem dX9_step_40 : decode cX9_step 40 = .ok (.aload_n 0, 1) := q_o42 (by decide +kernel)
theorem dX9_step_41 : decode cX9_step 41 = .ok (.getfield 38, 3) := q_o180 (a := 0) (b := 38) (by decide +kernel)
theorem dX9_step_44 : decode cX9_step 44 = .ok (.iload_n 1, 1) := q_o27 (by decide +kernel)
theorem dX9_step_45 : decode cX9_step 45 = .ok (.iload_n 2, 1) := q_o28 (by decide +kernel)
theorem dX9_step_46 : decode cX9_step 46 = .ok (.iload_n 3, 1) := q_o29 (by decide +kernel)
theorem dX9_step_47 : decode cX9_step 47 = .ok (.invokevirtual 283, 3) := q_o182 (a := 1) (b := 27) (by decide +kernel)
theorem dX9_step_50 : decode cX9_step 50 = .ok (.ireturn, 1) := q_o172 (by decide +kernel)
theorem dX9_supply_0 : decode cX9_supply 0 = .ok (.aload_n 0, 1) := q_o42 (by decide +kernel)
theorem dX9_supply_1 : decode cX9_supply 1 = .ok (.aload_n 0, 1) := q_o42 (by decide +kernel)
theorem dX9_supply_2 : decode cX9_supply 2 = .ok (.aload_n 0, 1) := q_o42 (by decide +kernel)
theorem dX9_supply_3 : decode cX9_supply 3 = .ok (.getfield 47, 3) := q_o180 (a := 0) (b := 47) (by decide +kernel)
theorem dX9_supply_6 : decode cX9_supply 6 = .ok (.iconst 1, 1) := q_o4 (by decide +kernel)
theorem dX9_supply_7 : decode cX9_supply 7 = .ok (.iconst 3, 1) := q_o6 (by decide +kernel)
theorem dX9_supply_8 : decode cX9_supply 8 = .ok (.iload_n 1, 1) := q_o27 (by decide +kernel)
theorem dX9_supply_9 : decode cX9_supply 9 = .ok (.iconst (-1), 1) := q_o2 (by decide +kernel)
theorem dX9_supply_10 : decode cX9_supply 10 = .ok (.iconst (-1), 1) := q_o2 (by decide +kernel)
theorem dX9_supply_11 : decode cX9_supply 11 = .ok (.invokevirtual 227, 3) := q_o182 (a := 0) (b := 227) (by decide +kernel)
theorem dX9_supply_14 : decode cX9_supply 14 = .ok (.invokevirtual 231, 3) := q_o182 (a := 0) (b := 231) (by decide +kernel)
theorem dX9_supply_17 : decode cX9_supply 17 = .ok (.istore_n 2, 1) := q_o61 (by decide +kernel)
theorem dX9_supply_18 : decode cX9_supply 18 = .ok (.iload_n 2, 1) := q_o28 (by decide +kernel)
theorem dX9_supply_19 : decode cX9_supply 19 = .ok (.ifCond .eq 29, 3) := q_o153 (a := 0) (b := 29) (by decide +kernel) rfl
theorem dX9_supply_22 : decode cX9_supply 22 = .ok (.aload_n 0, 1) := q_o42 (by decide +kernel)
theorem dX9_supply_23 : decode cX9_supply 23 = .ok (.getfield 32, 3) := q_o180 (a := 0) (b := 32) (by decide +kernel)
theorem dX9_supply_26 : decode cX9_supply 26 = .ok (.iload_n 1, 1) := q_o27 (by decide +kernel)
theorem dX9_supply_27 : decode cX9_supply 27 = .ok (.invokevirtual 153, 3) := q_o182 (a := 0) (b := 153) (by decide +kernel)
theorem dX9_supply_30 : decode cX9_supply 30 = .ok (.ifCond .eq 18, 3) := q_o153 (a := 0) (b := 18) (by decide +kernel) rfl
theorem dX9_supply_33 : decode cX9_supply 33 = .ok (.aload_n 0, 1) := q_o42 (by decide +kernel)
theorem dX9_supply_34 : decode cX9_supply 34 = .ok (.getfield 47, 3) := q_o180 (a := 0) (b := 47) (by decide +kernel)
theorem dX9_supply_37 : decode cX9_supply 37 = .ok (.getfield 157, 3) := q_o180 (a := 0) (b := 157) (by decide +kernel)
theorem dX9_supply_40 : decode cX9_supply 40 = .ok (.bipush 72, 2) := q_o16 (a := 72) (by decide +kernel) rfl
theorem dX9_supply_42 : decode cX9_supply 42 = .ok (.iload_n 1, 1) := q_o27 (by decide +kernel)
theorem dX9_supply_43 : decode cX9_supply 43 = .ok (.iadd, 1) := q_o96 (by decide +kernel)
theorem dX9_supply_44 : decode cX9_supply 44 = .ok (.iaload, 1) := q_o46 (by decide +kernel)
theorem dX9_supply_45 : decode cX9_supply 45 = .ok (.goto 4, 3) := q_o167 (a := 0) (b := 4) (by decide +kernel) rfl
theorem dX9_supply_48 : decode cX9_supply 48 = .ok (.iconst (-1), 1) := q_o2 (by decide +kernel)
theorem dX9_supply_49 : decode cX9_supply 49 = .ok (.ireturn, 1) := q_o172 (by decide +kernel)
theorem dX9_tick_0 : decode cX9_tick 0 = .ok (.aload_n 0, 1) := q_o42 (by decide +kernel)
theorem dX9_tick_1 : decode cX9_tick 1 = .ok (.aload_n 0, 1) := q_o42 (by decide +kernel)
theorem dX9_tick_2 : decode cX9_tick 2 = .ok (.aload_n 0, 1) := q_o42 (by decide +kernel)
theorem dX9_tick_3 : decode cX9_tick 3 = .ok (.getfield 47, 3) := q_o180 (a := 0) (b := 47) (by decide +kernel)
theorem dX9_tick_6 : decode cX9_tick 6 = .ok (.iconst 1, 1) := q_o4 (by decide +kernel)
theorem dX9_tick_7 : decode cX9_tick 7 = .ok (.iconst 2, 1) := q_o5 (by decide +kernel)
theorem dX9_tick_8 : decode cX9_tick 8 = .ok (.iload_n 1, 1) := q_o27 (by decide +kernel)
theorem dX9_tick_9 : decode cX9_tick 9 = .ok (.iconst (-1), 1) := q_o2 (by decide +kernel)
theorem dX9_tick_10 : decode cX9_tick 10 = .ok (.iconst (-1), 1) := q_o2 (by decide +kernel)
theorem dX9_tick_11 : decode cX9_tick 11 = .ok (.invokevirtual 227, 3) := q_o182 (a := 0) (b := 227) (by decide +kernel)
theorem dX9_tick_14 : decode cX9_tick 14 = .ok (.invokevirtual 231, 3) := q_o182 (a := 0) (b := 231) (by decide +kernel)
theorem dX9_tick_17 : decode cX9_tick 17 = .ok (.ifCond .eq 13, 3) := q_o153 (a := 0) (b := 13) (by decide +kernel) rfl
theorem dX9_tick_20 : decode cX9_tick 20 = .ok (.aload_n 0, 1) := q_o42 (by decide +kernel)
theorem dX9_tick_21 : decode cX9_tick 21 = .ok (.getfield 47, 3) := q_o180 (a := 0) (b := 47) (by decide +kernel)
theorem dX9_tick_24 : decode cX9_tick 24 = .ok (.invokevirtual 237, 3) := q_o182 (a := 0) (b := 237) (by decide +kernel)
theorem dX9_tick_27 : decode cX9_tick 27 = .ok (.goto 4, 3) := q_o167 (a := 0) (b := 4) (by decide +kernel) rfl
theorem dX9_tick_30 : decode cX9_tick 30 = .ok (.iconst (-1), 1) := q_o2 (by decide +kernel)
theorem dX9_tick_31 : decode cX9_tick 31 = .ok (.ireturn, 1) := q_o172 (by decide +kernel)
theorem dX9_undo_0 : decode cX9_undo 0 = .ok (.aload_n 0, 1) := q_o42 (by decide +kernel)
theorem dX9_undo_1 : decode cX9_undo 1 = .ok (.getfield 66, 3) := q_o180 (a := 0) (b := 66) (by decide +kernel)
theorem dX9_undo_4 : decode cX9_undo 4 = .ok (.getfield 247, 3) := q_o180 (a := 0) (b := 247) (by decide +kernel)
theorem dX9_undo_7 : decode cX9_undo 7 = .ok (.ifCond .ne 5, 3) := q_o154 (a := 0) (b := 5) (by decide +kernel) rfl
theorem dX9_undo_10 : decode cX9_undo 10 = .ok (.iconst (-1), 1) := q_o2 (by decide +kernel)
theorem dX9_undo_11 : decode cX9_undo 11 = .ok (.ireturn, 1) := q_o172 (by decide +kernel)
theorem dX9_undo_12 : decode cX9_undo 12 = .ok (.aload_n 0, 1) := q_o42 (by decide +kernel)
theorem dX9_undo_13 : decode cX9_undo 13 = .ok (.getfield 66, 3) := q_o180 (a := 0) (b := 66) (by decide +kernel)
theorem dX9_undo_16 : decode cX9_undo 16 = .ok (.aload_n 0, 1) := q_o42 (by decide +kernel)
theorem dX9_undo_17 : decode cX9_undo 17 = .ok (.getfield 47, 3) := q_o180 (a := 0) (b := 47) (by decide +kernel)
theorem dX9_undo_20 : decode cX9_undo 20 = .ok (.invokevirtual 248, 3) := q_o182 (a := 0) (b := 248) (by decide +kernel)
theorem dX9_undo_23 : decode cX9_undo 23 = .ok (.aload_n 0, 1) := q_o42 (by decide +kernel)
theorem dX9_undo_24 : decode cX9_undo 24 = .ok (.getfield 73, 3) := q_o180 (a := 0) (b := 73) (by decide +kernel)
theorem dX9_undo_27 : decode cX9_undo 27 = .ok (.invokevirtual 252, 3) := q_o182 (a := 0) (b := 252) (by decide +kernel)
theorem dX9_undo_30 : decode cX9_undo 30 = .ok (.aload_n 0, 1) := q_o42 (by decide +kernel)
theorem dX9_undo_31 : decode cX9_undo 31 = .ok (.getfield 66, 3) := q_o180 (a := 0) (b := 66) (by decide +kernel)
theorem dX9_undo_34 : decode cX9_undo 34 = .ok (.getfield 247, 3) := q_o180 (a := 0) (b := 247) (by decide +kernel)
theorem dX9_undo_37 : decode cX9_undo 37 = .ok (.ireturn, 1) := q_o172 (by decide +kernel)
theorem dX9_unplug_0 : decode cX9_unplug 0 = .ok (.aload_n 0, 1) := q_o42 (by decide +kernel)
theorem dX9_unplug_1 : decode cX9_unplug 1 = .ok (.getfield 47, 3) := q_o180 (a := 0) (b := 47) (by decide +kernel)
theorem dX9_unplug_4 : decode cX9_unplug 4 = .ok (.iconst 0, 1) := q_o3 (by decide +kernel)
theorem dX9_unplug_5 : decode cX9_unplug 5 = .ok (.invokevirtual 234, 3) := q_o182 (a := 0) (b := 234) (by decide +kernel)
theorem dX9_unplug_8 : decode cX9_unplug 8 = .ok (.invokestatic 210, 3) := q_o184 (a := 0) (b := 210) (by decide +kernel)
theorem dX9_unplug_11 : decode cX9_unplug 11 = .ok (.istore_n 2, 1) := q_o61 (by decide +kernel)
theorem dX9_unplug_12 : decode cX9_unplug 12 = .ok (.aload_n 0, 1) := q_o42 (by decide +kernel)
theorem dX9_unplug_13 : decode cX9_unplug 13 = .ok (.aload_n 0, 1) := q_o42 (by decide +kernel)
theorem dX9_unplug_14 : decode cX9_unplug 14 = .ok (.aload_n 0, 1) := q_o42 (by decide +kernel)
theorem dX9_unplug_15 : decode cX9_unplug 15 = .ok (.getfield 47, 3) := q_o180 (a := 0) (b := 47) (by decide +kernel)
theorem dX9_unplug_18 : decode cX9_unplug 18 = .ok (.iconst 1, 1) := q_o4 (by decide +kernel)
theorem dX9_unplug_19 : decode cX9_unplug 19 = .ok (.iconst 1, 1) := q_o4 (by decide +kernel)
theorem dX9_unplug_20 : decode cX9_unplug 20 = .ok (.iload_n 1, 1) := q_o27 (by decide +kernel)
theorem dX9_unplug_21 : decode cX9_unplug 21 = .ok (.iconst (-1), 1) := q_o2 (by decide +kernel)
theorem dX9_unplug_22 : decode cX9_unplug 22 = .ok (.iconst (-1), 1) := q_o2 (by decide +kernel)
theorem dX9_unplug_23 : decode cX9_unplug 23 = .ok (.invokevirtual 227, 3) := q_o182 (a := 0) (b := 227) (by decide +kernel)
theorem dX9_unplug_26 : decode cX9_unplug 26 = .ok (.invokevirtual 231, 3) := q_o182 (a := 0) (b := 231) (by decide +kernel)
theorem dX9_unplug_29 : decode cX9_unplug 29 = .ok (.ifCond .ne 5, 3) := q_o154 (a := 0) (b := 5) (by decide +kernel) rfl
theorem dX9_unplug_32 : decode cX9_unplug 32 = .ok (.iconst (-1), 1) := q_o2 (by decide +kernel)
theorem dX9_unplug_33 : decode cX9_unplug 33 = .ok (.ireturn, 1) := q_o172 (by decide +kernel)
theorem dX9_unplug_34 : decode cX9_unplug 34 = .ok (.aload_n 0, 1) := q_o42 (by decide +kernel)
theorem dX9_unplug_35 : decode cX9_unplug 35 = .ok (.getfield 47, 3) := q_o180 (a := 0) (b := 47) (by decide +kernel)
theorem dX9_unplug_38 : decode cX9_unplug 38 = .ok (.iconst 0, 1) := q_o3 (by decide +kernel)
theorem dX9_unplug_39 : decode cX9_unplug 39 = .ok (.invokevirtual 234, 3) := q_o182 (a := 0) (b := 234) (by decide +kernel)
theorem dX9_unplug_42 : decode cX9_unplug 42 = .ok (.invokestatic 210, 3) := q_o184 (a := 0) (b := 210) (by decide +kernel)
theorem dX9_unplug_45 : decode cX9_unplug 45 = .ok (.iload_n 2, 1) := q_o28 (by decide +kernel)
theorem dX9_unplug_46 : decode cX9_unplug 46 = .ok (.isub, 1) := q_o100 (by decide +kernel)
theorem dX9_unplug_47 : decode cX9_unplug 47 = .ok (.ireturn, 1) := q_o172 (by decide +kernel)
theorem dX9_when_0 : decode cX9_when 0 = .ok (.aload_n 0, 1) := q_o42 (by decide +kernel)
theorem dX9_when_1 : decode cX9_when 1 = .ok (.getfield 32, 3) := q_o180 (a := 0) (b := 32) (by decide +kernel)
theorem dX9_when_4 : decode cX9_when 4 = .ok (.iload_n 1, 1) := q_o27 (by decide +kernel)
theorem dX9_when_5 : decode cX9_when 5 = .ok (.invokevirtual 153, 3) := q_o182 (a := 0) (b := 153) (by decide +kernel)
theorem dX9_when_8 : decode cX9_when 8 = .ok (.ifCond .eq 26, 3) := q_o153 (a := 0) (b := 26) (by decide +kernel) rfl
theorem dX9_when_11 : decode cX9_when 11 = .ok (.aload_n 0, 1) := q_o42 (by decide +kernel)
theorem dX9_when_12 : decode cX9_when 12 = .ok (.getfield 47, 3) := q_o180 (a := 0) (b := 47) (by decide +kernel)
theorem dX9_when_15 : decode cX9_when 15 = .ok (.iload_n 1, 1) := q_o27 (by decide +kernel)
theorem dX9_when_16 : decode cX9_when 16 = .ok (.iconst 0, 1) := q_o3 (by decide +kernel)
theorem dX9_when_17 : decode cX9_when 17 = .ok (.invokevirtual 198, 3) := q_o182 (a := 0) (b := 198) (by decide +kernel)
theorem dX9_when_20 : decode cX9_when 20 = .ok (.ifCond .ne 14, 3) := q_o154 (a := 0) (b := 14) (by decide +kernel) rfl
theorem dX9_when_23 : decode cX9_when 23 = .ok (.aload_n 0, 1) := q_o42 (by decide +kernel)
theorem dX9_when_24 : decode cX9_when 24 = .ok (.getfield 59, 3) := q_o180 (a := 0) (b := 59) (by decide +kernel)
theorem dX9_when_27 : decode cX9_when 27 = .ok (.iload_n 1, 1) := q_o27 (by decide +kernel)
theorem dX9_when_28 : decode cX9_when 28 = .ok (.invokevirtual 261, 3) := q_o182 (a := 1) (b := 5) (by decide +kernel)
theorem dX9_when_31 : decode cX9_when 31 = .ok (.goto 4, 3) := q_o167 (a := 0) (b := 4) (by decide +kernel) rfl
theorem dX9_when_34 : decode cX9_when 34 = .ok (.iconst (-1), 1) := q_o2 (by decide +kernel)
theorem dX9_when_35 : decode cX9_when 35 = .ok (.ireturn, 1) := q_o172 (by decide +kernel)
theorem dX9_years_0 : decode cX9_years 0 = .ok (.aload_n 0, 1) := q_o42 (by decide +kernel)
theorem dX9_years_1 : decode cX9_years 1 = .ok (.getfield 32, 3) := q_o180 (a := 0) (b := 32) (by decide +kernel)
theorem dX9_years_4 : decode cX9_years 4 = .ok (.invokevirtual 146, 3) := q_o182 (a := 0) (b := 146) (by decide +kernel)
theorem dX9_years_7 : decode cX9_years 7 = .ok (.ifCond .eq 14, 3) := q_o153 (a := 0) (b := 14) (by decide +kernel) rfl
theorem dX9_years_10 : decode cX9_years 10 = .ok (.iload_n 1, 1) := q_o27 (by decide +kernel)
theorem dX9_years_11 : decode cX9_years 11 = .ok (.iconst 1, 1) := q_o4 (by decide +kernel)
theorem dX9_years_12 : decode cX9_years 12 = .ok (.if_icmp .lt 9, 3) := q_o161 (a := 0) (b := 9) (by decide +kernel) rfl
theorem dX9_years_15 : decode cX9_years 15 = .ok (.iload_n 1, 1) := q_o27 (by decide +kernel)
theorem dX9_years_16 : decode cX9_years 16 = .ok (.bipush 40, 2) := q_o16 (a := 40) (by decide +kernel) rfl
theorem dX9_years_18 : decode cX9_years 18 = .ok (.if_icmp .le 5, 3) := q_o164 (a := 0) (b := 5) (by decide +kernel) rfl
theorem dX9_years_21 : decode cX9_years 21 = .ok (.iconst (-1), 1) := q_o2 (by decide +kernel)
theorem dX9_years_22 : decode cX9_years 22 = .ok (.ireturn, 1) := q_o172 (by decide +kernel)
theorem dX9_years_23 : decode cX9_years 23 = .ok (.aload_n 0, 1) := q_o42 (by decide +kernel)
theorem dX9_years_24 : decode cX9_years 24 = .ok (.getfield 86, 3) := q_o180 (a := 0) (b := 86) (by decide +kernel)
theorem dX9_years_27 : decode cX9_years 27 = .ok (.lload_n 2, 1) := by decide +kernel
theorem dX9_years_28 : decode cX9_years 28 = .ok (.putfield 240, 3) := q_o181 (a := 0) (b := 240) (by decide +kernel)
theorem dX9_years_31 : decode cX9_years 31 = .ok (.iconst 0, 1) := q_o3 (by decide +kernel)
theorem dX9_years_32 : decode cX9_years 32 = .ok (.istore 4, 2) := q_o54 (a := 4) (by decide +kernel)
theorem dX9_years_34 : decode cX9_years 34 = .ok (.iload 4, 2) := q_o21 (a := 4) (by decide +kernel)
theorem dX9_years_36 : decode cX9_years 36 = .ok (.iload_n 1, 1) := q_o27 (by decide +kernel)
theorem dX9_years_37 : decode cX9_years 37 = .ok (.if_icmp .ge 200, 3) := q_o162 (a := 0) (b := 200) (by decide +kernel) rfl
theorem dX9_years_40 : decode cX9_years 40 = .ok (.aload_n 0, 1) := q_o42 (by decide +kernel)
theorem dX9_years_41 : decode cX9_years 41 = .ok (.getfield 86, 3) := q_o180 (a := 0) (b := 86) (by decide +kernel)
theorem dX9_years_44 : decode cX9_years 44 = .ok (.bipush 8, 2) := q_o16 (a := 8) (by decide +kernel) rfl
theorem dX9_years_46 : decode cX9_years 46 = .ok (.invokevirtual 244, 3) := q_o182 (a := 0) (b := 244) (by decide +kernel)
theorem dX9_years_49 : decode cX9_years 49 = .ok (.istore 5, 2) := q_o54 (a := 5) (by decide +kernel)
theorem dX9_years_51 : decode cX9_years 51 = .ok (.iload 5, 2) := q_o21 (a := 5) (by decide +kernel)
theorem dX9_years_53 : decode cX9_years 53 = .ok (.iconst 2, 1) := q_o5 (by decide +kernel)
theorem dX9_years_54 : decode cX9_years 54 = .ok (.if_icmp .gt 80, 3) := q_o163 (a := 0) (b := 80) (by decide +kernel) rfl
theorem dX9_years_57 : decode cX9_years 57 = .ok (.aload_n 0, 1) := q_o42 (by decide +kernel)
theorem dX9_years_58 : decode cX9_years 58 = .ok (.getfield 86, 3) := q_o180 (a := 0) (b := 86) (by decide +kernel)
theorem dX9_years_61 : decode cX9_years 61 = .ok (.aload_n 0, 1) := q_o42 (by decide +kernel)
theorem dX9_years_62 : decode cX9_years 62 = .ok (.getfield 32, 3) := q_o180 (a := 0) (b := 32) (by decide +kernel)
theorem dX9_years_65 : decode cX9_years 65 = .ok (.getfield 137, 3) := q_o180 (a := 0) (b := 137) (by decide +kernel)
theorem dX9_years_68 : decode cX9_years 68 = .ok (.invokevirtual 244, 3) := q_o182 (a := 0) (b := 244) (by decide +kernel)
theorem dX9_years_71 : decode cX9_years 71 = .ok (.istore 6, 2) := q_o54 (a := 6) (by decide +kernel)
theorem dX9_years_73 : decode cX9_years 73 = .ok (.aload_n 0, 1) := q_o42 (by decide +kernel)
theorem dX9_years_74 : decode cX9_years 74 = .ok (.getfield 86, 3) := q_o180 (a := 0) (b := 86) (by decide +kernel)
theorem dX9_years_77 : decode cX9_years 77 = .ok (.aload_n 0, 1) := q_o42 (by decide +kernel)
theorem dX9_years_78 : decode cX9_years 78 = .ok (.getfield 32, 3) := q_o180 (a := 0) (b := 32) (by decide +kernel)
theorem dX9_years_81 : decode cX9_years 81 = .ok (.getfield 137, 3) := q_o180 (a := 0) (b := 137) (by decide +kernel)
theorem dX9_years_84 : decode cX9_years 84 = .ok (.iconst 1, 1) := q_o4 (by decide +kernel)
theorem dX9_years_85 : decode cX9_years 85 = .ok (.iadd, 1) := q_o96 (by decide +kernel)
theorem dX9_years_86 : decode cX9_years 86 = .ok (.invokevirtual 244, 3) := q_o182 (a := 0) (b := 244) (by decide +kernel)
theorem dX9_years_89 : decode cX9_years 89 = .ok (.istore 7, 2) := q_o54 (a := 7) (by decide +kernel)
theorem dX9_years_91 : decode cX9_years 91 = .ok (.aload_n 0, 1) := q_o42 (by decide +kernel)
theorem dX9_years_92 : decode cX9_years 92 = .ok (.aload_n 0, 1) := q_o42 (by decide +kernel)
theorem dX9_years_93 : decode cX9_years 93 = .ok (.getfield 47, 3) := q_o180 (a := 0) (b := 47) (by decide +kernel)
theorem dX9_years_96 : decode cX9_years 96 = .ok (.iconst 1, 1) := q_o4 (by decide +kernel)
theorem dX9_years_97 : decode cX9_years 97 = .ok (.iconst 0, 1) := q_o3 (by decide +kernel)
theorem dX9_years_98 : decode cX9_years 98 = .ok (.iload 6, 2) := q_o21 (a := 6) (by decide +kernel)
theorem dX9_years_100 : decode cX9_years 100 = .ok (.iload 7, 2) := q_o21 (a := 7) (by decide +kernel)
theorem dX9_years_102 : decode cX9_years 102 = .ok (.aload_n 0, 1) := q_o42 (by decide +kernel)
theorem dX9_years_103 : decode cX9_years 103 = .ok (.getfield 32, 3) := q_o180 (a := 0) (b := 32) (by decide +kernel)
theorem dX9_years_106 : decode cX9_years 106 = .ok (.getfield 137, 3) := q_o180 (a := 0) (b := 137) (by decide +kernel)
theorem dX9_years_109 : decode cX9_years 109 = .ok (.if_icmp .ne 8, 3) := q_o160 (a := 0) (b := 8) (by decide +kernel) rfl
theorem dX9_years_112 : decode cX9_years 112 = .ok (.bipush 8, 2) := q_o16 (a := 8) (by decide +kernel) rfl
theorem dX9_years_114 : decode cX9_years 114 = .ok (.goto 5, 3) := q_o167 (a := 0) (b := 5) (by decide +kernel) rfl
theorem dX9_years_117 : decode cX9_years 117 = .ok (.iload 7, 2) := q_o21 (a := 7) (by decide +kernel)
theorem dX9_years_119 : decode cX9_years 119 = .ok (.aload_n 0, 1) := q_o42 (by decide +kernel)
theorem dX9_years_120 : decode cX9_years 120 = .ok (.getfield 86, 3) := q_o180 (a := 0) (b := 86) (by decide +kernel)
theorem dX9_years_123 : decode cX9_years 123 = .ok (.iconst 4, 1) := q_o7 (by decide +kernel)
theorem dX9_years_124 : decode cX9_years 124 = .ok (.invokevirtual 244, 3) := q_o182 (a := 0) (b := 244) (by decide +kernel)
theorem dX9_years_127 : decode cX9_years 127 = .ok (.invokevirtual 227, 3) := q_o182 (a := 0) (b := 227) (by decide +kernel)
theorem dX9_years_130 : decode cX9_years 130 = .ok (.pop, 1) := q_o87 (by decide +kernel)
theorem dX9_years_131 : decode cX9_years 131 = .ok (.goto 100, 3) := q_o167 (a := 0) (b := 100) (by decide +kernel) rfl
theorem dX9_years_134 : decode cX9_years 134 = .ok (.iload 5, 2) := q_o21 (a := 5) (by decide +kernel)
theorem dX9_years_136 : decode cX9_years 136 = .ok (.iconst 3, 1) := q_o6 (by decide +kernel)
theorem dX9_years_137 : decode cX9_years 137 = .ok (.if_icmp .ne 33, 3) := q_o160 (a := 0) (b := 33) (by decide +kernel) rfl
theorem dX9_years_140 : decode cX9_years 140 = .ok (.aload_n 0, 1) := q_o42 (by decide +kernel)
theorem dX9_years_141 : decode cX9_years 141 = .ok (.aload_n 0, 1) := q_o42 (by decide +kernel)
theorem dX9_years_142 : decode cX9_years 142 = .ok (.getfield 47, 3) := q_o180 (a := 0) (b := 47) (by decide +kernel)
theorem dX9_years_145 : decode cX9_years 145 = .ok (.iconst 1, 1) := q_o4 (by decide +kernel)
theorem dX9_years_146 : decode cX9_years 146 = .ok (.iconst 1, 1) := q_o4 (by decide +kernel)
theorem dX9_years_147 : decode cX9_years 147 = .ok (.aload_n 0, 1) := q_o42 (by decide +kernel)
theorem dX9_years_148 : decode cX9_years 148 = .ok (.getfield 86, 3) := q_o180 (a := 0) (b := 86) (by decide +kernel)
theorem dX9_years_151 : decode cX9_years 151 = .ok (.aload_n 0, 1) := q_o42 (by decide +kernel)
theorem dX9_years_152 : decode cX9_years 152 = .ok (.getfield 32, 3) := q_o180 (a := 0) (b := 32) (by decide +kernel)
theorem dX9_years_155 : decode cX9_years 155 = .ok (.getfield 137, 3) := q_o180 (a := 0) (b := 137) (by decide +kernel)
theorem dX9_years_158 : decode cX9_years 158 = .ok (.invokevirtual 244, 3) := q_o182 (a := 0) (b := 244) (by decide +kernel)
theorem dX9_years_161 : decode cX9_years 161 = .ok (.iconst (-1), 1) := q_o2 (by decide +kernel)
theorem dX9_years_162 : decode cX9_years 162 = .ok (.iconst (-1), 1) := q_o2 (by decide +kernel)
theorem dX9_years_163 : decode cX9_years 163 = .ok (.invokevirtual 227, 3) := q_o182 (a := 0) (b := 227) (by decide +kernel)
theorem dX9_years_166 : decode cX9_years 166 = .ok (.pop, 1) := q_o87 (by decide +kernel)
theorem dX9_years_167 : decode cX9_years 167 = .ok (.goto 64, 3) := q_o167 (a := 0) (b := 64) (by decide +kernel) rfl
theorem dX9_years_170 : decode cX9_years 170 = .ok (.iload 5, 2) := q_o21 (a := 5) (by decide +kernel)
theorem dX9_years_172 : decode cX9_years 172 = .ok (.bipush 6, 2) := q_o16 (a := 6) (by decide +kernel) rfl
theorem dX9_years_174 : decode cX9_years 174 = .ok (.if_icmp .gt 30, 3) := q_o163 (a := 0) (b := 30) (by decide +kernel) rfl
theorem dX9_years_177 : decode cX9_years 177 = .ok (.aload_n 0, 1) := q_o42 (by decide +kernel)
theorem dX9_years_178 : decode cX9_years 178 = .ok (.aload_n 0, 1) := q_o42 (by decide +kernel)
theorem dX9_years_179 : decode cX9_years 179 = .ok (.getfield 47, 3) := q_o180 (a := 0) (b := 47) (by decide +kernel)
theorem dX9_years_182 : decode cX9_years 182 = .ok (.iconst 1, 1) := q_o4 (by decide +kernel)
theorem dX9_years_183 : decode cX9_years 183 = .ok (.iconst 2, 1) := q_o5 (by decide +kernel)
theorem dX9_years_184 : decode cX9_years 184 = .ok (.aload_n 0, 1) := q_o42 (by decide +kernel)
theorem dX9_years_185 : decode cX9_years 185 = .ok (.getfield 86, 3) := q_o180 (a := 0) (b := 86) (by decide +kernel)
theorem dX9_years_188 : decode cX9_years 188 = .ok (.bipush 9, 2) := q_o16 (a := 9) (by decide +kernel) rfl
theorem dX9_years_190 : decode cX9_years 190 = .ok (.invokevirtual 244, 3) := q_o182 (a := 0) (b := 244) (by decide +kernel)
theorem dX9_years_193 : decode cX9_years 193 = .ok (.iconst 1, 1) := q_o4 (by decide +kernel)
theorem dX9_years_194 : decode cX9_years 194 = .ok (.iadd, 1) := q_o96 (by decide +kernel)
theorem dX9_years_195 : decode cX9_years 195 = .ok (.iconst (-1), 1) := q_o2 (by decide +kernel)
theorem dX9_years_196 : decode cX9_years 196 = .ok (.iconst (-1), 1) := q_o2 (by decide +kernel)
theorem dX9_years_197 : decode cX9_years 197 = .ok (.invokevirtual 227, 3) := q_o182 (a := 0) (b := 227) (by decide +kernel)
theorem dX9_years_200 : decode cX9_years 200 = .ok (.pop, 1) := q_o87 (by decide +kernel)
theorem dX9_years_201 : decode cX9_years 201 = .ok (.goto 30, 3) := q_o167 (a := 0) (b := 30) (by decide +kernel) rfl
theorem dX9_years_204 : decode cX9_years 204 = .ok (.aload_n 0, 1) := q_o42 (by decide +kernel)
theorem dX9_years_205 : decode cX9_years 205 = .ok (.aload_n 0, 1) := q_o42 (by decide +kernel)
theorem dX9_years_206 : decode cX9_years 206 = .ok (.getfield 47, 3) := q_o180 (a := 0) (b := 47) (by decide +kernel)
theorem dX9_years_209 : decode cX9_years 209 = .ok (.iconst 1, 1) := q_o4 (by decide +kernel)
theorem dX9_years_210 : decode cX9_years 210 = .ok (.iconst 3, 1) := q_o6 (by decide +kernel)
theorem dX9_years_211 : decode cX9_years 211 = .ok (.aload_n 0, 1) := q_o42 (by decide +kernel)
theorem dX9_years_212 : decode cX9_years 212 = .ok (.getfield 86, 3) := q_o180 (a := 0) (b := 86) (by decide +kernel)
theorem dX9_years_215 : decode cX9_years 215 = .ok (.aload_n 0, 1) := q_o42 (by decide +kernel)
theorem dX9_years_216 : decode cX9_years 216 = .ok (.getfield 32, 3) := q_o180 (a := 0) (b := 32) (by decide +kernel)
theorem dX9_years_219 : decode cX9_years 219 = .ok (.getfield 137, 3) := q_o180 (a := 0) (b := 137) (by decide +kernel)
theorem dX9_years_222 : decode cX9_years 222 = .ok (.invokevirtual 244, 3) := q_o182 (a := 0) (b := 244) (by decide +kernel)
theorem dX9_years_225 : decode cX9_years 225 = .ok (.iconst (-1), 1) := q_o2 (by decide +kernel)
theorem dX9_years_226 : decode cX9_years 226 = .ok (.iconst (-1), 1) := q_o2 (by decide +kernel)
theorem dX9_years_227 : decode cX9_years 227 = .ok (.invokevirtual 227, 3) := q_o182 (a := 0) (b := 227) (by decide +kernel)
theorem dX9_years_230 : decode cX9_years 230 = .ok (.pop, 1) := q_o87 (by decide +kernel)
theorem dX9_years_231 : decode cX9_years 231 = .ok (.iinc 4 1, 3) := q_o132 (a := 4) (b := 1) (by decide +kernel) rfl
theorem dX9_years_234 : decode cX9_years 234 = .ok (.goto (-200), 3) := q_o167 (a := 255) (b := 56) (by decide +kernel) rfl
theorem dX9_years_237 : decode cX9_years 237 = .ok (.aload_n 0, 1) := q_o42 (by decide +kernel)
theorem dX9_years_238 : decode cX9_years 238 = .ok (.getfield 47, 3) := q_o180 (a := 0) (b := 47) (by decide +kernel)
theorem dX9_years_241 : decode cX9_years 241 = .ok (.getfield 157, 3) := q_o180 (a := 0) (b := 157) (by decide +kernel)
theorem dX9_years_244 : decode cX9_years 244 = .ok (.bipush 96, 2) := q_o16 (a := 96) (by decide +kernel) rfl
theorem dX9_years_246 : decode cX9_years 246 = .ok (.iaload, 1) := q_o46 (by decide +kernel)
theorem dX9_years_247 : decode cX9_years 247 = .ok (.ireturn, 1) := q_o172 (by decide +kernel)
theorem hdV_yX1_forgetLatest_0 : yX1_forgetLatest.cls = RX1 ∧ yX1_forgetLatest.cls ≠ "java/lang/invoke/MethodHandle" ∧ yX1_forgetLatest.cls ≠ "java/lang/invoke/VarHandle" ∧ (parseMethodDescriptor yX1_forgetLatest.desc).map (fun d => d.parameters.length) = some 0 := by decide +kernel
theorem hdV_yX1_read_2 : yX1_read.cls = RX1 ∧ yX1_read.cls ≠ "java/lang/invoke/MethodHandle" ∧ yX1_read.cls ≠ "java/lang/invoke/VarHandle" ∧ (parseMethodDescriptor yX1_read.desc).map (fun d => d.parameters.length) = some 2 := by decide +kernel
theorem hdV_yX1_shown_0 : yX1_shown.cls = RX1 ∧ yX1_shown.cls ≠ "java/lang/invoke/MethodHandle" ∧ yX1_shown.cls ≠ "java/lang/invoke/VarHandle" ∧ (parseMethodDescriptor yX1_shown.desc).map (fun d => d.parameters.length) = some 0 := by decide +kernel
theorem hdV_yX2_next_1 : yX2_next.cls = RX2 ∧ yX2_next.cls ≠ "java/lang/invoke/MethodHandle" ∧ yX2_next.cls ≠ "java/lang/invoke/VarHandle" ∧ (parseMethodDescriptor yX2_next.desc).map (fun d => d.parameters.length) = some 1 := by decide +kernel
theorem hdV_yX3_allBehind_2 : yX3_allBehind.cls = RX3 ∧ yX3_allBehind.cls ≠ "java/lang/invoke/MethodHandle" ∧ yX3_allBehind.cls ≠ "java/lang/invoke/VarHandle" ∧ (parseMethodDescriptor yX3_allBehind.desc).map (fun d => d.parameters.length) = some 2 := by decide +kernel
theorem hdV_yX3_bestPort_1 : yX3_bestPort.cls = RX3 ∧ yX3_bestPort.cls ≠ "java/lang/invoke/MethodHandle" ∧ yX3_bestPort.cls ≠ "java/lang/invoke/VarHandle" ∧ (parseMethodDescriptor yX3_bestPort.desc).map (fun d => d.parameters.length) = some 1 := by decide +kernel
theorem hdV_yX3_lostWithout_1 : yX3_lostWithout.cls = RX3 ∧ yX3_lostWithout.cls ≠ "java/lang/invoke/MethodHandle" ∧ yX3_lostWithout.cls ≠ "java/lang/invoke/VarHandle" ∧ (parseMethodDescriptor yX3_lostWithout.desc).map (fun d => d.parameters.length) = some 1 := by decide +kernel
theorem hdV_yX3_nextToRun_1 : yX3_nextToRun.cls = RX3 ∧ yX3_nextToRun.cls ≠ "java/lang/invoke/MethodHandle" ∧ yX3_nextToRun.cls ≠ "java/lang/invoke/VarHandle" ∧ (parseMethodDescriptor yX3_nextToRun.desc).map (fun d => d.parameters.length) = some 1 := by decide +kernel
theorem hdV_yX3_ticksTillRunning_1 : yX3_ticksTillRunning.cls = RX3 ∧ yX3_ticksTillRunning.cls ≠ "java/lang/invoke/MethodHandle" ∧ yX3_ticksTillRunning.cls ≠ "java/lang/invoke/VarHandle" ∧ (parseMethodDescriptor yX3_ticksTillRunning.desc).map (fun d => d.parameters.length) = some 1 := by decide +kernel
theorem hdV_yX3_ticksTillStill_0 : yX3_ticksTillStill.cls = RX3 ∧ yX3_ticksTillStill.cls ≠ "java/lang/invoke/MethodHandle" ∧ yX3_ticksTillStill.cls ≠ "java/lang/invoke/VarHandle" ∧ (parseMethodDescriptor yX3_ticksTillStill.desc).map (fun d => d.parameters.length) = some 0 := by decide +kernel
theorem hdV_yX4_restore_1 : yX4_restore.cls = RX4 ∧ yX4_restore.cls ≠ "java/lang/invoke/MethodHandle" ∧ yX4_restore.cls ≠ "java/lang/invoke/VarHandle" ∧ (parseMethodDescriptor yX4_restore.desc).map (fun d => d.parameters.length) = some 1 := by decide +kernel
theorem hdV_yX7_has_1 : yX7_has.cls = RX7 ∧ yX7_has.cls ≠ "java/lang/invoke/MethodHandle" ∧ yX7_has.cls ≠ "java/lang/invoke/VarHandle" ∧ (parseMethodDescriptor yX7_has.desc).map (fun d => d.parameters.length) = some 1 := by decide +kernel
theorem hdV_yX9_attempt_6 : yX9_attempt.cls = RX9 ∧ yX9_attempt.cls ≠ "java/lang/invoke/MethodHandle" ∧ yX9_attempt.cls ≠ "java/lang/invoke/VarHandle" ∧ (parseMethodDescriptor yX9_attempt.desc).map (fun d => d.parameters.length) = some 6 := by decide +kernel
theorem hdV_yX9_isDone_1 : yX9_isDone.cls = RX9 ∧ yX9_isDone.cls ≠ "java/lang/invoke/MethodHandle" ∧ yX9_isDone.cls ≠ "java/lang/invoke/VarHandle" ∧ (parseMethodDescriptor yX9_isDone.desc).map (fun d => d.parameters.length) = some 1 := by decide +kernel
def F_X9_isDone (fz : Nat → Int32) (z1 : Int32) : Option (Int32 × (Nat → Int32)) := (if z1 < 0 then (if z1 = (-1) then some (1, fz) else some (0, fz)) else (if 4 ≤ z1 then (if z1 = (-1) then some (1, fz) else some (0, fz)) else (if z1 < 0 ∨ 4 ≤ (z1).toNatClampNeg then none else (if z1 < 0 ∨ 4 ≤ (z1).toNatClampNeg then none else (if z1 = (-1) then some (1, (upd fz (z1).toNatClampNeg ((fz (z1).toNatClampNeg) + 1))) else some (0, (upd fz (z1).toNatClampNeg ((fz (z1).toNatClampNeg) + 1))))))))
set_option maxHeartbeats 4000000 in
set_option maxRecDepth 100000 in
theorem c_X9_isDone (l : Launch) (dC : Nat → ClassId) (dI : Nat → Nat → Nat) (a : Nat → Nat) (k : Nat → ClassId) (hi : Int32) (fz : Nat → Int32) (z1 : Int32) (A : Nat → Prop) (o : Int32 × (Nat → Int32)) (hG : F_X9_isDone fz z1 = some o) : Met l yX9_isDone (.code yX9_isDone cX9_isDone 2 (some .boolean) :: wA) ({ frames := 0, cells := 0, slots := 0, locals := 0 }) (va_Pc [.ref (a 0), .int z1] (q_W (dC, dI) A [((a 0), .inr (9, [.ref (a 1), .ref (a 3), .ref (a 4), .ref (a 7), .ref (a 10), .ref (a 14), .ref (a 16), .ref (a 18), .ref (a 19), .ref (a 21), .ref (a 23), .ref (a 25), .ref (a 27), .ref (a 28), .int hi])), ((a 28), .inl ((k 28), 4, .inl fz))] [((k 28), .int)])) (va_Qi (fun (r : Int32) (_ : Unit) => r = o.1 ∧ True) (fun (_ : Unit) t => q_B (dC, dI) A [((a 0), .inr (9, [.ref (a 1), .ref (a 3), .ref (a 4), .ref (a 7), .ref (a 10), .ref (a 14), .ref (a 16), .ref (a 18), .ref (a 19), .ref (a 21), .ref (a 23), .ref (a 25), .ref (a 27), .ref (a 28), .int hi])), ((a 28), .inl ((k 28), 4, .inl (o.2)))] [((k 28), .int)] t) A) 0 0 A := by
  refine Met.ofW (cc := cX9_isDone) (maxL := 2) (ret := (some .boolean)) (by decide) rfl ?_
  intro p e s m args below meth c s₁ B hml hv
  obtain ⟨rfl, hP, hK, hD, hA⟩ := hv
  have hx := B.exec
  have hb := B.bytes
  have hr := B.returns
  have hts := atoms_spec (ws := .code yX9_isDone cX9_isDone 2 (some .boolean) :: wA) B.pre
  have hown : s.vm.findClass RX9 = some m.cls := findClass_of_methodNamed B.named
  have hlocks := B.notSynchronized
  have hS : va_S A s.heap s.heap [] := va_S.rf
  have hl := lv_entry ([.ref (a 0), .int z1]) (n := 2) (Nat.le_of_ble_eq_true rfl)
  rw [lg_entry_eq]
  generalize (lg_sl ([.ref (a 0), .int z1]) ++ List.replicate (2 - (lg_sl ([.ref (a 0), .int z1])).length) Slot.unset).toArray = ls at hl ⊢
  have hl : lv_has ls 2 [(0, .ref (a 0)), (1, .int z1)] := hl
  unfold F_X9_isDone at hG
  refine lv_iload_n hx hb dX9_isDone_0 rfl (lv_at hl 1 rfl) ?_
  refine lv_if_lt (tgt := 23) hx hb dX9_isDone_1 (by decide) (fun c_1 => ?_) (fun c_1 => ?_)
  · have hG := q_ifp c_1 hG
    refine lv_iload_n hx hb dX9_isDone_23 rfl (lv_at hl 1 rfl) ?_
    refine lv_iconst (v := (-1)) hx hb dX9_isDone_24 (by decide) ?_
    refine lv_icmp_ne (tgt := 32) hx hb dX9_isDone_25 (by decide) (fun c_2 => ?_) (fun c_2 => ?_)
    · have hG := q_ifn c_2 hG
      refine lv_iconst (v := 0) hx hb dX9_isDone_32 (by decide) ?_
      obtain rfl := Option.some.inj hG
      have hP9 := hP.sub (ws' := [((a 0), .inr (9, [.ref (a 1), .ref (a 3), .ref (a 4), .ref (a 7), .ref (a 10), .ref (a 14), .ref (a 16), .ref (a 18), .ref (a 19), .ref (a 21), .ref (a 23), .ref (a 25), .ref (a 27), .ref (a 28), .int hi])), ((a 28), .inl ((k 28), 4, .inl fz))]) [0, 1] rfl
      have hD9 := hD.sub (ws' := [((a 0), .inr (9, [.ref (a 1), .ref (a 3), .ref (a 4), .ref (a 7), .ref (a 10), .ref (a 14), .ref (a 16), .ref (a 18), .ref (a 19), .ref (a 21), .ref (a 23), .ref (a 25), .ref (a 27), .ref (a 28), .int hi])), ((a 28), .inl ((k 28), 4, .inl fz))]) [0, 1] (by decide) rfl
      have hK9 := hK.sub (tys' := [((k 28), .int)]) [0] rfl
      exact W.zret (v := 0) hx hb hr rfl (fun t ht hW => ⟨⟨0, (), rfl, ⟨rfl, trivial⟩, by rw [ht]; exact hP9, va_K.moved hW.alike hK9, hD9⟩, hS.F ht⟩) hS.2.2 dX9_isDone_33
    · have hG := q_ifp c_2 hG
      refine lv_iconst (v := 1) hx hb dX9_isDone_28 (by decide) ?_
      refine lv_goto (tgt := 33) hx hb dX9_isDone_29 (by decide) ?_
      obtain rfl := Option.some.inj hG
      have hP9 := hP.sub (ws' := [((a 0), .inr (9, [.ref (a 1), .ref (a 3), .ref (a 4), .ref (a 7), .ref (a 10), .ref (a 14), .ref (a 16), .ref (a 18), .ref (a 19), .ref (a 21), .ref (a 23), .ref (a 25), .ref (a 27), .ref (a 28), .int hi])), ((a 28), .inl ((k 28), 4, .inl fz))]) [0, 1] rfl
      have hD9 := hD.sub (ws' := [((a 0), .inr (9, [.ref (a 1), .ref (a 3), .ref (a 4), .ref (a 7), .ref (a 10), .ref (a 14), .ref (a 16), .ref (a 18), .ref (a 19), .ref (a 21), .ref (a 23), .ref (a 25), .ref (a 27), .ref (a 28), .int hi])), ((a 28), .inl ((k 28), 4, .inl fz))]) [0, 1] (by decide) rfl
      have hK9 := hK.sub (tys' := [((k 28), .int)]) [0] rfl
      exact W.zret (v := 1) hx hb hr rfl (fun t ht hW => ⟨⟨1, (), rfl, ⟨rfl, trivial⟩, by rw [ht]; exact hP9, va_K.moved hW.alike hK9, hD9⟩, hS.F ht⟩) hS.2.2 dX9_isDone_33
  · have hG := q_ifn c_1 hG
    refine lv_iload_n hx hb dX9_isDone_4 rfl (lv_at hl 1 rfl) ?_
    refine lv_aload_n hx hb dX9_isDone_5 rfl (lv_at hl 0 rfl) ?_
    refine va_get (D := (dC, dI)) (ci := 9) (v := .ref (a 28)) (C := RX9) (T := TX9) (N := 15) hx hb hts iA_9 hown hK hP 0 rfl rfl 13 (by decide) (hts (.fieldLink RX9 90 "HubTree" "refusals" "[I") (List.mem_cons_of_mem _ m_55)) (fun _ h9 => h9) rfl dX9_isDone_6 ?_
    refine va_alen hx hb hK hP 1 0 rfl rfl (v := 4) rfl dX9_isDone_9 ?_
    refine lv_icmp_ge (tgt := 23) hx hb dX9_isDone_10 (by decide) (fun c_3 => ?_) (fun c_3 => ?_)
    · have hG := q_ifp c_3 hG
      refine lv_iload_n hx hb dX9_isDone_23 rfl (lv_at hl 1 rfl) ?_
      refine lv_iconst (v := (-1)) hx hb dX9_isDone_24 (by decide) ?_
      refine lv_icmp_ne (tgt := 32) hx hb dX9_isDone_25 (by decide) (fun c_4 => ?_) (fun c_4 => ?_)
      · have hG := q_ifn c_4 hG
        refine lv_iconst (v := 0) hx hb dX9_isDone_32 (by decide) ?_
        obtain rfl := Option.some.inj hG
        have hP9 := hP.sub (ws' := [((a 0), .inr (9, [.ref (a 1), .ref (a 3), .ref (a 4), .ref (a 7), .ref (a 10), .ref (a 14), .ref (a 16), .ref (a 18), .ref (a 19), .ref (a 21), .ref (a 23), .ref (a 25), .ref (a 27), .ref (a 28), .int hi])), ((a 28), .inl ((k 28), 4, .inl fz))]) [0, 1] rfl
        have hD9 := hD.sub (ws' := [((a 0), .inr (9, [.ref (a 1), .ref (a 3), .ref (a 4), .ref (a 7), .ref (a 10), .ref (a 14), .ref (a 16), .ref (a 18), .ref (a 19), .ref (a 21), .ref (a 23), .ref (a 25), .ref (a 27), .ref (a 28), .int hi])), ((a 28), .inl ((k 28), 4, .inl fz))]) [0, 1] (by decide) rfl
        have hK9 := hK.sub (tys' := [((k 28), .int)]) [0] rfl
        exact W.zret (v := 0) hx hb hr rfl (fun t ht hW => ⟨⟨0, (), rfl, ⟨rfl, trivial⟩, by rw [ht]; exact hP9, va_K.moved hW.alike hK9, hD9⟩, hS.F ht⟩) hS.2.2 dX9_isDone_33
      · have hG := q_ifp c_4 hG
        refine lv_iconst (v := 1) hx hb dX9_isDone_28 (by decide) ?_
        refine lv_goto (tgt := 33) hx hb dX9_isDone_29 (by decide) ?_
        obtain rfl := Option.some.inj hG
        have hP9 := hP.sub (ws' := [((a 0), .inr (9, [.ref (a 1), .ref (a 3), .ref (a 4), .ref (a 7), .ref (a 10), .ref (a 14), .ref (a 16), .ref (a 18), .ref (a 19), .ref (a 21), .ref (a 23), .ref (a 25), .ref (a 27), .ref (a 28), .int hi])), ((a 28), .inl ((k 28), 4, .inl fz))]) [0, 1] rfl
        have hD9 := hD.sub (ws' := [((a 0), .inr (9, [.ref (a 1), .ref (a 3), .ref (a 4), .ref (a 7), .ref (a 10), .ref (a 14), .ref (a 16), .ref (a 18), .ref (a 19), .ref (a 21), .ref (a 23), .ref (a 25), .ref (a 27), .ref (a 28), .int hi])), ((a 28), .inl ((k 28), 4, .inl fz))]) [0, 1] (by decide) rfl
        have hK9 := hK.sub (tys' := [((k 28), .int)]) [0] rfl
        exact W.zret (v := 1) hx hb hr rfl (fun t ht hW => ⟨⟨1, (), rfl, ⟨rfl, trivial⟩, by rw [ht]; exact hP9, va_K.moved hW.alike hK9, hD9⟩, hS.F ht⟩) hS.2.2 dX9_isDone_33
    · have hG := q_ifn c_3 hG
      refine lv_aload_n hx hb dX9_isDone_13 rfl (lv_at hl 0 rfl) ?_
      refine va_get (D := (dC, dI)) (ci := 9) (v := .ref (a 28)) (C := RX9) (T := TX9) (N := 15) hx hb hts iA_9 hown hK hP 0 rfl rfl 13 (by decide) (hts (.fieldLink RX9 90 "HubTree" "refusals" "[I") (List.mem_cons_of_mem _ m_55)) (fun _ h9 => h9) rfl dX9_isDone_14 ?_
      refine lv_iload_n hx hb dX9_isDone_17 rfl (lv_at hl 1 rfl) ?_
      refine lv_dup2_11 hx hb dX9_isDone_18 rfl rfl ?_
      obtain ⟨h_5, hG⟩ := q_ix hG
      refine va_iald hx hb hK hP 1 0 rfl rfl (i := z1) h_5 dX9_isDone_19 ?_
      refine q_top (y := (fz (z1).toNatClampNeg)) rfl ?_
      refine lv_iconst (v := 1) hx hb dX9_isDone_20 (by decide) ?_
      refine lv_iadd hx hb dX9_isDone_21 ?_
      obtain ⟨h_6, hG⟩ := q_ix hG
      refine va_iast hx hb hK hP hD hS 1 0 rfl rfl (i := z1) (x := ((fz (z1).toNatClampNeg) + 1)) h_6 dX9_isDone_22 (fun H locs hP hD hS => ?_)
      have hP : va_P (dC, dI) vwCl [((a 0), .inr (9, [.ref (a 1), .ref (a 3), .ref (a 4), .ref (a 7), .ref (a 10), .ref (a 14), .ref (a 16), .ref (a 18), .ref (a 19), .ref (a 21), .ref (a 23), .ref (a 25), .ref (a 27), .ref (a 28), .int hi])), ((a 28), .inl ((k 28), 4, .inl (upd fz (z1).toNatClampNeg ((fz (z1).toNatClampNeg) + 1))))] H := hP
      have hD : va_D A [((a 0), .inr (9, [.ref (a 1), .ref (a 3), .ref (a 4), .ref (a 7), .ref (a 10), .ref (a 14), .ref (a 16), .ref (a 18), .ref (a 19), .ref (a 21), .ref (a 23), .ref (a 25), .ref (a 27), .ref (a 28), .int hi])), ((a 28), .inl ((k 28), 4, .inl (upd fz (z1).toNatClampNeg ((fz (z1).toNatClampNeg) + 1))))] := hD
      refine lv_iload_n hx hb dX9_isDone_23 rfl (lv_at hl 1 rfl) ?_
      refine lv_iconst (v := (-1)) hx hb dX9_isDone_24 (by decide) ?_
      refine lv_icmp_ne (tgt := 32) hx hb dX9_isDone_25 (by decide) (fun c_7 => ?_) (fun c_7 => ?_)
      · have hG := q_ifn c_7 hG
        refine lv_iconst (v := 0) hx hb dX9_isDone_32 (by decide) ?_
        obtain rfl := Option.some.inj hG
        have hP9 := hP.sub (ws' := [((a 0), .inr (9, [.ref (a 1), .ref (a 3), .ref (a 4), .ref (a 7), .ref (a 10), .ref (a 14), .ref (a 16), .ref (a 18), .ref (a 19), .ref (a 21), .ref (a 23), .ref (a 25), .ref (a 27), .ref (a 28), .int hi])), ((a 28), .inl ((k 28), 4, .inl (upd fz (z1).toNatClampNeg ((fz (z1).toNatClampNeg) + 1))))]) [0, 1] rfl
        have hD9 := hD.sub (ws' := [((a 0), .inr (9, [.ref (a 1), .ref (a 3), .ref (a 4), .ref (a 7), .ref (a 10), .ref (a 14), .ref (a 16), .ref (a 18), .ref (a 19), .ref (a 21), .ref (a 23), .ref (a 25), .ref (a 27), .ref (a 28), .int hi])), ((a 28), .inl ((k 28), 4, .inl (upd fz (z1).toNatClampNeg ((fz (z1).toNatClampNeg) + 1))))]) [0, 1] (by decide) rfl
        have hK9 := hK.sub (tys' := [((k 28), .int)]) [0] rfl
        exact W.zret (v := 0) hx hb hr rfl (fun t ht hW => ⟨⟨0, (), rfl, ⟨rfl, trivial⟩, by rw [ht]; exact hP9, va_K.moved hW.alike hK9, hD9⟩, hS.F ht⟩) hS.2.2 dX9_isDone_33
      · have hG := q_ifp c_7 hG
        refine lv_iconst (v := 1) hx hb dX9_isDone_28 (by decide) ?_
        refine lv_goto (tgt := 33) hx hb dX9_isDone_29 (by decide) ?_
        obtain rfl := Option.some.inj hG
        have hP9 := hP.sub (ws' := [((a 0), .inr (9, [.ref (a 1), .ref (a 3), .ref (a 4), .ref (a 7), .ref (a 10), .ref (a 14), .ref (a 16), .ref (a 18), .ref (a 19), .ref (a 21), .ref (a 23), .ref (a 25), .ref (a 27), .ref (a 28), .int hi])), ((a 28), .inl ((k 28), 4, .inl (upd fz (z1).toNatClampNeg ((fz (z1).toNatClampNeg) + 1))))]) [0, 1] rfl
        have hD9 := hD.sub (ws' := [((a 0), .inr (9, [.ref (a 1), .ref (a 3), .ref (a 4), .ref (a 7), .ref (a 10), .ref (a 14), .ref (a 16), .ref (a 18), .ref (a 19), .ref (a 21), .ref (a 23), .ref (a 25), .ref (a 27), .ref (a 28), .int hi])), ((a 28), .inl ((k 28), 4, .inl (upd fz (z1).toNatClampNeg ((fz (z1).toNatClampNeg) + 1))))]) [0, 1] (by decide) rfl
        have hK9 := hK.sub (tys' := [((k 28), .int)]) [0] rfl
        exact W.zret (v := 1) hx hb hr rfl (fun t ht hW => ⟨⟨1, (), rfl, ⟨rfl, trivial⟩, by rw [ht]; exact hP9, va_K.moved hW.alike hK9, hD9⟩, hS.F ht⟩) hS.2.2 dX9_isDone_33

def F_X9_plug (dv : Int32) (nx : Int32) (ph : Int32) (tt : Int32) (fu : Nat → Int32) (fp : Nat → Int32) (fr : Nat → Int32) (fq : Nat → Int32) (fd : Nat → Int32) (fz : Nat → Int32) (z1 : Int32) (z2 : Int32) (z3 : Int32) : Option (Int32 × Int32 × Int32 × Int32 × (Nat → Int32) × (Nat → Int32) × (Nat → Int32) × (Nat → Int32)) := ((F_X9_attempt dv nx ph tt fr fu fp fq fd 1 0 z1 z2 z3).bind fun o_1 => ((F_X9_isDone fz o_1.1).bind fun o_3 => (if o_3.1 = 0 then some ((-1), (o_1.2.1), (o_1.2.2.1), (o_1.2.2.2.1), (o_1.2.2.2.2.1), (o_1.2.2.2.2.2.1), (o_1.2.2.2.2.2.2), (o_3.2)) else ((F_X0_depthOf (o_1.2.2.2.2.1) dv fu fp z1).bind fun o_6 => some (o_6, (o_1.2.1), (o_1.2.2.1), (o_1.2.2.2.1), (o_1.2.2.2.2.1), (o_1.2.2.2.2.2.1), (o_1.2.2.2.2.2.2), (o_3.2))))))
set_option maxHeartbeats 4000000 in
set_option maxRecDepth 100000 in
theorem c_X9_plug (l : Launch) (dC : Nat → ClassId) (dI : Nat → Nat → Nat) (a : Nat → Nat) (k : Nat → ClassId) (dv : Int32) (nx : Int32) (ph : Int32) (tt : Int32) (hi : Int32) (fu : Nat → Int32) (fp : Nat → Int32) (fr : Nat → Int32) (fq : Nat → Int32) (fd : Nat → Int32) (fz : Nat → Int32) (z1 : Int32) (z2 : Int32) (z3 : Int32) (A : Nat → Prop) (o : Int32 × Int32 × Int32 × Int32 × (Nat → Int32) × (Nat → Int32) × (Nat → Int32) × (Nat → Int32)) (hG : F_X9_plug dv nx ph tt fu fp fr fq fd fz z1 z2 z3 = some o) : Met l yX9_plug (.code yX9_plug cX9_plug 4 (some .int) :: wA) ({ frames := 6, cells := 0, slots := 0, locals := 144 }) (va_Pc [.ref (a 0), .int z1, .int z2, .int z3] (q_W (dC, dI) A [((a 0), .inr (9, [.ref (a 1), .ref (a 3), .ref (a 4), .ref (a 7), .ref (a 10), .ref (a 14), .ref (a 16), .ref (a 18), .ref (a 19), .ref (a 21), .ref (a 23), .ref (a 25), .ref (a 27), .ref (a 28), .int hi])), ((a 14), .inr (0, [.ref (a 15), .ref (a 7)])), ((a 15), .inl ((k 15), 98, .inl fr)), ((a 7), .inr (5, [.ref (a 8), .ref (a 9), .int dv])), ((a 8), .inl ((k 8), 8, .inl fu)), ((a 9), .inl ((k 9), 48, .inl fp)), ((a 19), .inr (4, [.ref (a 20), .int nx, .int ph])), ((a 20), .inl ((k 20), 3920, .inl fq)), ((a 21), .inr (1, [.ref (a 22), .int tt])), ((a 22), .inl ((k 22), 300, .inl fd)), ((a 28), .inl ((k 28), 4, .inl fz))] [((k 15), .int), ((k 8), .int), ((k 9), .int), ((k 20), .int), ((k 22), .int), ((k 28), .int)])) (va_Qi (fun (r : Int32) (_ : Unit) => r = o.1 ∧ True) (fun (_ : Unit) t => q_B (dC, dI) A [((a 0), .inr (9, [.ref (a 1), .ref (a 3), .ref (a 4), .ref (a 7), .ref (a 10), .ref (a 14), .ref (a 16), .ref (a 18), .ref (a 19), .ref (a 21), .ref (a 23), .ref (a 25), .ref (a 27), .ref (a 28), .int hi])), ((a 14), .inr (0, [.ref (a 15), .ref (a 7)])), ((a 15), .inl ((k 15), 98, .inl (o.2.2.2.2.1))), ((a 7), .inr (5, [.ref (a 8), .ref (a 9), .int dv])), ((a 8), .inl ((k 8), 8, .inl fu)), ((a 9), .inl ((k 9), 48, .inl fp)), ((a 19), .inr (4, [.ref (a 20), .int (o.2.1), .int (o.2.2.1)])), ((a 20), .inl ((k 20), 3920, .inl (o.2.2.2.2.2.1))), ((a 21), .inr (1, [.ref (a 22), .int (o.2.2.2.1)])), ((a 22), .inl ((k 22), 300, .inl (o.2.2.2.2.2.2.1))), ((a 28), .inl ((k 28), 4, .inl (o.2.2.2.2.2.2.2)))] [((k 15), .int), ((k 8), .int), ((k 9), .int), ((k 20), .int), ((k 22), .int), ((k 28), .int)] t) A) 0 0 A := by
  refine Met.ofW (cc := cX9_plug) (maxL := 4) (ret := (some .int)) (by decide) rfl ?_
  intro p e s m args below meth c s₁ B hml hv
  obtain ⟨rfl, hP, hK, hD, hA⟩ := hv
  have hx := B.exec
  have hb := B.bytes
  have hr := B.returns
  have hts := atoms_spec (ws := .code yX9_plug cX9_plug 4 (some .int) :: wA) B.pre
  have hown : s.vm.findClass RX9 = some m.cls := findClass_of_methodNamed B.named
  have hlocks := B.notSynchronized
  have hS : va_S A s.heap s.heap [] := va_S.rf
  have hl := lv_entry ([.ref (a 0), .int z1, .int z2, .int z3]) (n := 4) (Nat.le_of_ble_eq_true rfl)
  rw [lg_entry_eq]
  generalize (lg_sl ([.ref (a 0), .int z1, .int z2, .int z3]) ++ List.replicate (4 - (lg_sl ([.ref (a 0), .int z1, .int z2, .int z3])).length) Slot.unset).toArray = ls at hl ⊢
  have hl : lv_has ls 4 [(0, .ref (a 0)), (1, .int z1), (2, .int z2), (3, .int z3)] := hl
  unfold F_X9_plug at hG
  refine lv_aload_n hx hb dX9_plug_0 rfl (lv_at hl 0 rfl) ?_
  refine lv_aload_n hx hb dX9_plug_1 rfl (lv_at hl 0 rfl) ?_
  refine lv_aload_n hx hb dX9_plug_2 rfl (lv_at hl 0 rfl) ?_
  refine va_get (D := (dC, dI)) (ci := 9) (v := .ref (a 14)) (C := RX9) (T := TX9) (N := 15) hx hb hts iA_9 hown hK hP 0 rfl rfl 5 (by decide) (hts (.fieldLink RX9 47 "HubTree" "now" "LHubTree$Bus;") (List.mem_cons_of_mem _ m_34)) (fun _ h9 => h9) rfl dX9_plug_3 ?_
  refine lv_iconst (v := 1) hx hb dX9_plug_6 (by decide) ?_
  refine lv_iconst (v := 0) hx hb dX9_plug_7 (by decide) ?_
  refine lv_iload_n hx hb dX9_plug_8 rfl (lv_at hl 1 rfl) ?_
  refine lv_iload_n hx hb dX9_plug_9 rfl (lv_at hl 2 rfl) ?_
  refine lv_iload_n hx hb dX9_plug_10 rfl (lv_at hl 3 rfl) ?_
  obtain ⟨o_1, r_2, hG⟩ := q_bi hG
  refine q_goi2 (v := o_1.1) (wr := [((a 28), .inl ((k 28), 4, .inl fz))]) (va_runV (As := [.ref (a 14), .int 1, .int 0, .int z1, .int z2, .int z3]) (rest := [.ref (a 0)]) ⟨hx, hb, hml, hown, hts⟩ (c_X9_attempt l dC dI a k (a 14) (a 15) (k 15) hi dv nx ph tt fr fu fp fq fd 1 0 z1 z2 z3 (va_A [((a 0), .inr (9, [.ref (a 1), .ref (a 3), .ref (a 4), .ref (a 7), .ref (a 10), .ref (a 14), .ref (a 16), .ref (a 18), .ref (a 19), .ref (a 21), .ref (a 23), .ref (a 25), .ref (a 27), .ref (a 28), .int hi])), ((a 14), .inr (0, [.ref (a 15), .ref (a 7)])), ((a 15), .inl ((k 15), 98, .inl fr)), ((a 7), .inr (5, [.ref (a 8), .ref (a 9), .int dv])), ((a 8), .inl ((k 8), 8, .inl fu)), ((a 9), .inl ((k 9), 48, .inl fp)), ((a 19), .inr (4, [.ref (a 20), .int nx, .int ph])), ((a 20), .inl ((k 20), 3920, .inl fq)), ((a 21), .inr (1, [.ref (a 22), .int tt])), ((a 22), .inl ((k 22), 300, .inl fd))] s.heap.size) o_1 r_2) (cwV 6 hts (q_gV m_722 m_723 m_724 m_2 m_725) rfl rfl rfl hdV_yX9_attempt_6 ⟨Nat.le_of_ble_eq_true rfl, Nat.le_of_ble_eq_true rfl⟩) (q_preWV hK hP hD (q := (RX9, TX9, 15)) (ci := 9) (q0 := 0) rfl rfl [0, 1, 2, 3, 4, 5, 6, 7, 8, 9] (by decide) rfl rfl [0, 1, 2, 3, 4] rfl) rfl rfl hl.1 rfl (lv_room (Nat.le_of_ble_eq_true rfl)) dX9_plug_11 ⟨Nat.le_of_ble_eq_true rfl, Nat.le_of_ble_eq_true rfl⟩) hK hP hD hS hA [0, 1, 2, 3, 4, 5, 6, 7, 8, 9] [10] rfl rfl (by decide) (by decide) (fun _ H locs _ hP hD hK9 hS => ?_)
  have hP : va_P (dC, dI) vwCl [((a 0), .inr (9, [.ref (a 1), .ref (a 3), .ref (a 4), .ref (a 7), .ref (a 10), .ref (a 14), .ref (a 16), .ref (a 18), .ref (a 19), .ref (a 21), .ref (a 23), .ref (a 25), .ref (a 27), .ref (a 28), .int hi])), ((a 14), .inr (0, [.ref (a 15), .ref (a 7)])), ((a 15), .inl ((k 15), 98, .inl (o_1.2.2.2.2.1))), ((a 7), .inr (5, [.ref (a 8), .ref (a 9), .int dv])), ((a 8), .inl ((k 8), 8, .inl fu)), ((a 9), .inl ((k 9), 48, .inl fp)), ((a 19), .inr (4, [.ref (a 20), .int (o_1.2.1), .int (o_1.2.2.1)])), ((a 20), .inl ((k 20), 3920, .inl (o_1.2.2.2.2.2.1))), ((a 21), .inr (1, [.ref (a 22), .int (o_1.2.2.2.1)])), ((a 22), .inl ((k 22), 300, .inl (o_1.2.2.2.2.2.2))), ((a 28), .inl ((k 28), 4, .inl fz))] H := hP.sub [1, 2, 3, 4, 5, 6, 7, 8, 9, 10, 0] rfl
  have hD : va_D A [((a 0), .inr (9, [.ref (a 1), .ref (a 3), .ref (a 4), .ref (a 7), .ref (a 10), .ref (a 14), .ref (a 16), .ref (a 18), .ref (a 19), .ref (a 21), .ref (a 23), .ref (a 25), .ref (a 27), .ref (a 28), .int hi])), ((a 14), .inr (0, [.ref (a 15), .ref (a 7)])), ((a 15), .inl ((k 15), 98, .inl (o_1.2.2.2.2.1))), ((a 7), .inr (5, [.ref (a 8), .ref (a 9), .int dv])), ((a 8), .inl ((k 8), 8, .inl fu)), ((a 9), .inl ((k 9), 48, .inl fp)), ((a 19), .inr (4, [.ref (a 20), .int (o_1.2.1), .int (o_1.2.2.1)])), ((a 20), .inl ((k 20), 3920, .inl (o_1.2.2.2.2.2.1))), ((a 21), .inr (1, [.ref (a 22), .int (o_1.2.2.2.1)])), ((a 22), .inl ((k 22), 300, .inl (o_1.2.2.2.2.2.2))), ((a 28), .inl ((k 28), 4, .inl fz))] := hD.sub [1, 2, 3, 4, 5, 6, 7, 8, 9, 10, 0] (by decide) rfl
  obtain ⟨o_3, r_4, hG⟩ := q_bi hG
  refine q_goi2 (v := o_3.1) (wr := [((a 14), .inr (0, [.ref (a 15), .ref (a 7)])), ((a 15), .inl ((k 15), 98, .inl (o_1.2.2.2.2.1))), ((a 7), .inr (5, [.ref (a 8), .ref (a 9), .int dv])), ((a 8), .inl ((k 8), 8, .inl fu)), ((a 9), .inl ((k 9), 48, .inl fp)), ((a 19), .inr (4, [.ref (a 20), .int (o_1.2.1), .int (o_1.2.2.1)])), ((a 20), .inl ((k 20), 3920, .inl (o_1.2.2.2.2.2.1))), ((a 21), .inr (1, [.ref (a 22), .int (o_1.2.2.2.1)])), ((a 22), .inl ((k 22), 300, .inl (o_1.2.2.2.2.2.2)))]) (va_runV (As := [.int o_1.1]) (rest := []) ⟨hx, hb, hml, hown, hts⟩ (c_X9_isDone l dC dI a k hi fz o_1.1 (va_A [((a 0), .inr (9, [.ref (a 1), .ref (a 3), .ref (a 4), .ref (a 7), .ref (a 10), .ref (a 14), .ref (a 16), .ref (a 18), .ref (a 19), .ref (a 21), .ref (a 23), .ref (a 25), .ref (a 27), .ref (a 28), .int hi])), ((a 28), .inl ((k 28), 4, .inl fz))] H.size) o_3 r_4) (cwV 1 hts (q_gV m_889 m_890 m_891 m_2 m_892) rfl rfl rfl hdV_yX9_isDone_1 ⟨Nat.le_of_ble_eq_true rfl, Nat.le_of_ble_eq_true rfl⟩) (q_preWV hK hP hD (q := (RX9, TX9, 15)) (ci := 9) (q0 := 0) rfl rfl [0, 10] (by decide) rfl rfl [5] rfl) rfl rfl hl.1 rfl (lv_room (Nat.le_of_ble_eq_true rfl)) dX9_plug_14 ⟨Nat.le_of_ble_eq_true rfl, Nat.le_of_ble_eq_true rfl⟩) hK hP hD hS hA [0, 10] [1, 2, 3, 4, 5, 6, 7, 8, 9] rfl rfl (by decide) (by decide) (fun _ H locs _ hP hD hK9 hS => ?_)
  have hP : va_P (dC, dI) vwCl [((a 0), .inr (9, [.ref (a 1), .ref (a 3), .ref (a 4), .ref (a 7), .ref (a 10), .ref (a 14), .ref (a 16), .ref (a 18), .ref (a 19), .ref (a 21), .ref (a 23), .ref (a 25), .ref (a 27), .ref (a 28), .int hi])), ((a 14), .inr (0, [.ref (a 15), .ref (a 7)])), ((a 15), .inl ((k 15), 98, .inl (o_1.2.2.2.2.1))), ((a 7), .inr (5, [.ref (a 8), .ref (a 9), .int dv])), ((a 8), .inl ((k 8), 8, .inl fu)), ((a 9), .inl ((k 9), 48, .inl fp)), ((a 19), .inr (4, [.ref (a 20), .int (o_1.2.1), .int (o_1.2.2.1)])), ((a 20), .inl ((k 20), 3920, .inl (o_1.2.2.2.2.2.1))), ((a 21), .inr (1, [.ref (a 22), .int (o_1.2.2.2.1)])), ((a 22), .inl ((k 22), 300, .inl (o_1.2.2.2.2.2.2))), ((a 28), .inl ((k 28), 4, .inl (o_3.2)))] H := hP.sub [9, 0, 1, 2, 3, 4, 5, 6, 7, 8, 10] rfl
  have hD : va_D A [((a 0), .inr (9, [.ref (a 1), .ref (a 3), .ref (a 4), .ref (a 7), .ref (a 10), .ref (a 14), .ref (a 16), .ref (a 18), .ref (a 19), .ref (a 21), .ref (a 23), .ref (a 25), .ref (a 27), .ref (a 28), .int hi])), ((a 14), .inr (0, [.ref (a 15), .ref (a 7)])), ((a 15), .inl ((k 15), 98, .inl (o_1.2.2.2.2.1))), ((a 7), .inr (5, [.ref (a 8), .ref (a 9), .int dv])), ((a 8), .inl ((k 8), 8, .inl fu)), ((a 9), .inl ((k 9), 48, .inl fp)), ((a 19), .inr (4, [.ref (a 20), .int (o_1.2.1), .int (o_1.2.2.1)])), ((a 20), .inl ((k 20), 3920, .inl (o_1.2.2.2.2.2.1))), ((a 21), .inr (1, [.ref (a 22), .int (o_1.2.2.2.1)])), ((a 22), .inl ((k 22), 300, .inl (o_1.2.2.2.2.2.2))), ((a 28), .inl ((k 28), 4, .inl (o_3.2)))] := hD.sub [9, 0, 1, 2, 3, 4, 5, 6, 7, 8, 10] (by decide) rfl
  refine lv_if_eq (tgt := 31) hx hb dX9_plug_17 (by decide) (fun c_5 => ?_) (fun c_5 => ?_)
  · have hG := q_ifp c_5 hG
    refine lv_iconst (v := (-1)) hx hb dX9_plug_31 (by decide) ?_
    obtain rfl := Option.some.inj hG
    have hP9 := hP.sub (ws' := [((a 0), .inr (9, [.ref (a 1), .ref (a 3), .ref (a 4), .ref (a 7), .ref (a 10), .ref (a 14), .ref (a 16), .ref (a 18), .ref (a 19), .ref (a 21), .ref (a 23), .ref (a 25), .ref (a 27), .ref (a 28), .int hi])), ((a 14), .inr (0, [.ref (a 15), .ref (a 7)])), ((a 15), .inl ((k 15), 98, .inl (o_1.2.2.2.2.1))), ((a 7), .inr (5, [.ref (a 8), .ref (a 9), .int dv])), ((a 8), .inl ((k 8), 8, .inl fu)), ((a 9), .inl ((k 9), 48, .inl fp)), ((a 19), .inr (4, [.ref (a 20), .int (o_1.2.1), .int (o_1.2.2.1)])), ((a 20), .inl ((k 20), 3920, .inl (o_1.2.2.2.2.2.1))), ((a 21), .inr (1, [.ref (a 22), .int (o_1.2.2.2.1)])), ((a 22), .inl ((k 22), 300, .inl (o_1.2.2.2.2.2.2))), ((a 28), .inl ((k 28), 4, .inl (o_3.2)))]) [0, 1, 2, 3, 4, 5, 6, 7, 8, 9, 10] rfl
    have hD9 := hD.sub (ws' := [((a 0), .inr (9, [.ref (a 1), .ref (a 3), .ref (a 4), .ref (a 7), .ref (a 10), .ref (a 14), .ref (a 16), .ref (a 18), .ref (a 19), .ref (a 21), .ref (a 23), .ref (a 25), .ref (a 27), .ref (a 28), .int hi])), ((a 14), .inr (0, [.ref (a 15), .ref (a 7)])), ((a 15), .inl ((k 15), 98, .inl (o_1.2.2.2.2.1))), ((a 7), .inr (5, [.ref (a 8), .ref (a 9), .int dv])), ((a 8), .inl ((k 8), 8, .inl fu)), ((a 9), .inl ((k 9), 48, .inl fp)), ((a 19), .inr (4, [.ref (a 20), .int (o_1.2.1), .int (o_1.2.2.1)])), ((a 20), .inl ((k 20), 3920, .inl (o_1.2.2.2.2.2.1))), ((a 21), .inr (1, [.ref (a 22), .int (o_1.2.2.2.1)])), ((a 22), .inl ((k 22), 300, .inl (o_1.2.2.2.2.2.2))), ((a 28), .inl ((k 28), 4, .inl (o_3.2)))]) [0, 1, 2, 3, 4, 5, 6, 7, 8, 9, 10] (by decide) rfl
    have hK9 := hK.sub (tys' := [((k 15), .int), ((k 8), .int), ((k 9), .int), ((k 20), .int), ((k 22), .int), ((k 28), .int)]) [0, 1, 2, 3, 4, 5] rfl
    exact W.iret (v := (-1)) hx hb hr (fun t ht hW => ⟨⟨(-1), (), rfl, ⟨rfl, trivial⟩, by rw [ht]; exact hP9, va_K.moved hW.alike hK9, hD9⟩, hS.F ht⟩) hS.2.2 dX9_plug_32
  · have hG := q_ifn c_5 hG
    refine lv_aload_n hx hb dX9_plug_20 rfl (lv_at hl 0 rfl) ?_
    refine va_get (D := (dC, dI)) (ci := 9) (v := .ref (a 14)) (C := RX9) (T := TX9) (N := 15) hx hb hts iA_9 hown hK hP 0 rfl rfl 5 (by decide) (hts (.fieldLink RX9 47 "HubTree" "now" "LHubTree$Bus;") (List.mem_cons_of_mem _ m_34)) (fun _ h9 => h9) rfl dX9_plug_21 ?_
    refine lv_iload_n hx hb dX9_plug_24 rfl (lv_at hl 1 rfl) ?_
    obtain ⟨o_6, r_7, hG⟩ := q_bi hG
    refine q_goi (v := o_6) (va_runV (As := [.int z1]) (rest := []) ⟨hx, hb, hml, hown, hts⟩ (c_X0_depthOf l dC dI (a 14) (a 15) (a 7) (a 8) (a 9) dv (k 15) (o_1.2.2.2.2.1) (k 8) (k 9) fu fp z1 o_6 r_7) (cwV 1 hts (q_gV m_487 m_488 m_489 m_33 m_490) rfl rfl rfl hdV_yX0_depthOf_1 ⟨Nat.le_of_ble_eq_true rfl, Nat.le_of_ble_eq_true rfl⟩) (q_preV hK hP (q := (RX0, TX0, 2)) (ci := 0) (q0 := 1) rfl rfl [1, 2, 3, 4, 5] rfl [0, 1, 2] rfl) rfl rfl hl.1 rfl (lv_room (Nat.le_of_ble_eq_true rfl)) dX9_plug_25 ⟨Nat.le_of_ble_eq_true rfl, Nat.le_of_ble_eq_true rfl⟩) hP hS (fun H locs hP hS => ?_)
    refine lv_goto (tgt := 32) hx hb dX9_plug_28 (by decide) ?_
    obtain rfl := Option.some.inj hG
    have hP9 := hP.sub (ws' := [((a 0), .inr (9, [.ref (a 1), .ref (a 3), .ref (a 4), .ref (a 7), .ref (a 10), .ref (a 14), .ref (a 16), .ref (a 18), .ref (a 19), .ref (a 21), .ref (a 23), .ref (a 25), .ref (a 27), .ref (a 28), .int hi])), ((a 14), .inr (0, [.ref (a 15), .ref (a 7)])), ((a 15), .inl ((k 15), 98, .inl (o_1.2.2.2.2.1))), ((a 7), .inr (5, [.ref (a 8), .ref (a 9), .int dv])), ((a 8), .inl ((k 8), 8, .inl fu)), ((a 9), .inl ((k 9), 48, .inl fp)), ((a 19), .inr (4, [.ref (a 20), .int (o_1.2.1), .int (o_1.2.2.1)])), ((a 20), .inl ((k 20), 3920, .inl (o_1.2.2.2.2.2.1))), ((a 21), .inr (1, [.ref (a 22), .int (o_1.2.2.2.1)])), ((a 22), .inl ((k 22), 300, .inl (o_1.2.2.2.2.2.2))), ((a 28), .inl ((k 28), 4, .inl (o_3.2)))]) [0, 1, 2, 3, 4, 5, 6, 7, 8, 9, 10] rfl
    have hD9 := hD.sub (ws' := [((a 0), .inr (9, [.ref (a 1), .ref (a 3), .ref (a 4), .ref (a 7), .ref (a 10), .ref (a 14), .ref (a 16), .ref (a 18), .ref (a 19), .ref (a 21), .ref (a 23), .ref (a 25), .ref (a 27), .ref (a 28), .int hi])), ((a 14), .inr (0, [.ref (a 15), .ref (a 7)])), ((a 15), .inl ((k 15), 98, .inl (o_1.2.2.2.2.1))), ((a 7), .inr (5, [.ref (a 8), .ref (a 9), .int dv])), ((a 8), .inl ((k 8), 8, .inl fu)), ((a 9), .inl ((k 9), 48, .inl fp)), ((a 19), .inr (4, [.ref (a 20), .int (o_1.2.1), .int (o_1.2.2.1)])), ((a 20), .inl ((k 20), 3920, .inl (o_1.2.2.2.2.2.1))), ((a 21), .inr (1, [.ref (a 22), .int (o_1.2.2.2.1)])), ((a 22), .inl ((k 22), 300, .inl (o_1.2.2.2.2.2.2))), ((a 28), .inl ((k 28), 4, .inl (o_3.2)))]) [0, 1, 2, 3, 4, 5, 6, 7, 8, 9, 10] (by decide) rfl
    have hK9 := hK.sub (tys' := [((k 15), .int), ((k 8), .int), ((k 9), .int), ((k 20), .int), ((k 22), .int), ((k 28), .int)]) [0, 1, 2, 3, 4, 5] rfl
    exact W.iret (v := o_6) hx hb hr (fun t ht hW => ⟨⟨o_6, (), rfl, ⟨rfl, trivial⟩, by rw [ht]; exact hP9, va_K.moved hW.alike hK9, hD9⟩, hS.F ht⟩) hS.2.2 dX9_plug_32

def F_X9_unplug (dv : Int32) (nx : Int32) (ph : Int32) (tt : Int32) (fu : Nat → Int32) (fp : Nat → Int32) (fr : Nat → Int32) (fq : Nat → Int32) (fd : Nat → Int32) (fz : Nat → Int32) (z1 : Int32) : Option (Int32 × Int32 × Int32 × Int32 × (Nat → Int32) × (Nat → Int32) × (Nat → Int32) × (Nat → Int32)) := ((F_X0_allThatAre fr dv fu fp 0).bind fun o_1 => ((F_J6_bitCount_0f7a4 o_1).bind fun o_3 => ((F_X9_attempt dv nx ph tt fr fu fp fq fd 1 1 z1 (-1) (-1)).bind fun o_5 => ((F_X9_isDone fz o_5.1).bind fun o_7 => (if o_7.1 = 0 then some ((-1), (o_5.2.1), (o_5.2.2.1), (o_5.2.2.2.1), (o_5.2.2.2.2.1), (o_5.2.2.2.2.2.1), (o_5.2.2.2.2.2.2), (o_7.2)) else ((F_X0_allThatAre (o_5.2.2.2.2.1) dv fu fp 0).bind fun o_10 => ((F_J6_bitCount_0f7a4 o_10).bind fun o_12 => some ((o_12 - o_3), (o_5.2.1), (o_5.2.2.1), (o_5.2.2.2.1), (o_5.2.2.2.2.1), (o_5.2.2.2.2.2.1), (o_5.2.2.2.2.2.2), (o_7.2)))))))))
set_option maxHeartbeats 4000000 in
set_option maxRecDepth 100000 in
theorem c_X9_unplug (l : Launch) (dC : Nat → ClassId) (dI : Nat → Nat → Nat) (a : Nat → Nat) (k : Nat → ClassId) (dv : Int32) (nx : Int32) (ph : Int32) (tt : Int32) (hi : Int32) (fu : Nat → Int32) (fp : Nat → Int32) (fr : Nat → Int32) (fq : Nat → Int32) (fd : Nat → Int32) (fz : Nat → Int32) (z1 : Int32) (A : Nat → Prop) (o : Int32 × Int32 × Int32 × Int32 × (Nat → Int32) × (Nat → Int32) × (Nat → Int32) × (Nat → Int32)) (hG : F_X9_unplug dv nx ph tt fu fp fr fq fd fz z1 = some o) : Met l yX9_unplug (.code yX9_unplug cX9_unplug 3 (some .int) :: wA) ({ frames := 6, cells := 0, slots := 0, locals := 144 }) (va_Pc [.ref (a 0), .int z1] (q_W (dC, dI) A [((a 0), .inr (9, [.ref (a 1), .ref (a 3), .ref (a 4), .ref (a 7), .ref (a 10), .ref (a 14), .ref (a 16), .ref (a 18), .ref (a 19), .ref (a 21), .ref (a 23), .ref (a 25), .ref (a 27), .ref (a 28), .int hi])), ((a 14), .inr (0, [.ref (a 15), .ref (a 7)])), ((a 15), .inl ((k 15), 98, .inl fr)), ((a 7), .inr (5, [.ref (a 8), .ref (a 9), .int dv])), ((a 8), .inl ((k 8), 8, .inl fu)), ((a 9), .inl ((k 9), 48, .inl fp)), ((a 19), .inr (4, [.ref (a 20), .int nx, .int ph])), ((a 20), .inl ((k 20), 3920, .inl fq)), ((a 21), .inr (1, [.ref (a 22), .int tt])), ((a 22), .inl ((k 22), 300, .inl fd)), ((a 28), .inl ((k 28), 4, .inl fz))] [((k 15), .int), ((k 8), .int), ((k 9), .int), ((k 20), .int), ((k 22), .int), ((k 28), .int)])) (va_Qi (fun (r : Int32) (_ : Unit) => r = o.1 ∧ True) (fun (_ : Unit) t => q_B (dC, dI) A [((a 0), .inr (9, [.ref (a 1), .ref (a 3), .ref (a 4), .ref (a 7), .ref (a 10), .ref (a 14), .ref (a 16), .ref (a 18), .ref (a 19), .ref (a 21), .ref (a 23), .ref (a 25), .ref (a 27), .ref (a 28), .int hi])), ((a 14), .inr (0, [.ref (a 15), .ref (a 7)])), ((a 15), .inl ((k 15), 98, .inl (o.2.2.2.2.1))), ((a 7), .inr (5, [.ref (a 8), .ref (a 9), .int dv])), ((a 8), .inl ((k 8), 8, .inl fu)), ((a 9), .inl ((k 9), 48, .inl fp)), ((a 19), .inr (4, [.ref (a 20), .int (o.2.1), .int (o.2.2.1)])), ((a 20), .inl ((k 20), 3920, .inl (o.2.2.2.2.2.1))), ((a 21), .inr (1, [.ref (a 22), .int (o.2.2.2.1)])), ((a 22), .inl ((k 22), 300, .inl (o.2.2.2.2.2.2.1))), ((a 28), .inl ((k 28), 4, .inl (o.2.2.2.2.2.2.2)))] [((k 15), .int), ((k 8), .int), ((k 9), .int), ((k 20), .int), ((k 22), .int), ((k 28), .int)] t) A) 0 0 A := by
  refine Met.ofW (cc := cX9_unplug) (maxL := 3) (ret := (some .int)) (by decide) rfl ?_
  intro p e s m args below meth c s₁ B hml hv
  obtain ⟨rfl, hP, hK, hD, hA⟩ := hv
  have hx := B.exec
  have hb := B.bytes
  have hr := B.returns
  have hts := atoms_spec (ws := .code yX9_unplug cX9_unplug 3 (some .int) :: wA) B.pre
  have hown : s.vm.findClass RX9 = some m.cls := findClass_of_methodNamed B.named
  have hlocks := B.notSynchronized
  have hS : va_S A s.heap s.heap [] := va_S.rf
  have hl := lv_entry ([.ref (a 0), .int z1]) (n := 3) (Nat.le_of_ble_eq_true rfl)
  rw [lg_entry_eq]
  generalize (lg_sl ([.ref (a 0), .int z1]) ++ List.replicate (3 - (lg_sl ([.ref (a 0), .int z1])).length) Slot.unset).toArray = ls at hl ⊢
  have hl : lv_has ls 3 [(0, .ref (a 0)), (1, .int z1)] := hl
  unfold F_X9_unplug at hG
  refine lv_aload_n hx hb dX9_unplug_0 rfl (lv_at hl 0 rfl) ?_
  refine va_get (D := (dC, dI)) (ci := 9) (v := .ref (a 14)) (C := RX9) (T := TX9) (N := 15) hx hb hts iA_9 hown hK hP 0 rfl rfl 5 (by decide) (hts (.fieldLink RX9 47 "HubTree" "now" "LHubTree$Bus;") (List.mem_cons_of_mem _ m_34)) (fun _ h9 => h9) rfl dX9_unplug_1 ?_
  refine lv_iconst (v := 0) hx hb dX9_unplug_4 (by decide) ?_
  obtain ⟨o_1, r_2, hG⟩ := q_bi hG
  refine q_goi (v := o_1) (va_runV (As := [.int 0]) (rest := []) ⟨hx, hb, hml, hown, hts⟩ (c_X0_allThatAre l dC dI (a 14) (a 15) (a 7) (a 8) (a 9) dv (k 15) fr (k 8) (k 9) fu fp 0 o_1 r_2) (cwV 1 hts (q_gV m_1042 m_881 m_882 m_33 m_883) rfl rfl rfl hdV_yX0_allThatAre_1 ⟨Nat.le_of_ble_eq_true rfl, Nat.le_of_ble_eq_true rfl⟩) (q_preV hK hP (q := (RX0, TX0, 2)) (ci := 0) (q0 := 1) rfl rfl [1, 2, 3, 4, 5] rfl [0, 1, 2] rfl) rfl rfl hl.1 rfl (lv_room (Nat.le_of_ble_eq_true rfl)) dX9_unplug_5 ⟨Nat.le_of_ble_eq_true rfl, Nat.le_of_ble_eq_true rfl⟩) hP hS (fun H locs hP hS => ?_)
  obtain ⟨o_3, r_4, hG⟩ := q_bi hG
  refine q_goi (v := o_3) (va_runS (As := [.int o_1]) (rest := []) ⟨hx, hb, hml, hown, hts⟩ (c_J6_bitCount_0f7a4 l dC dI o_1 o_3 r_4) (va_cwS 1 hts (q_gS m_609 m_610 m_611 m_612) rfl rfl rfl hdS_yJ6_bitCount_0f7a4_1 ⟨Nat.le_of_ble_eq_true rfl, Nat.le_of_ble_eq_true rfl⟩) (q_preS hK hP [] rfl [] rfl) rfl rfl hl.1 rfl (lv_room (Nat.le_of_ble_eq_true rfl)) dX9_unplug_8 ⟨Nat.le_of_ble_eq_true rfl, Nat.le_of_ble_eq_true rfl⟩) hP hS (fun H locs hP hS => ?_)
  refine lv_istore_n (lv' := [(2, .int o_3), (0, .ref (a 0)), (1, .int z1)]) hx hb dX9_unplug_11 rfl hl (by decide) rfl (fun ls hl => ?_)
  refine lv_aload_n hx hb dX9_unplug_12 rfl (lv_at hl 1 rfl) ?_
  refine lv_aload_n hx hb dX9_unplug_13 rfl (lv_at hl 1 rfl) ?_
  refine lv_aload_n hx hb dX9_unplug_14 rfl (lv_at hl 1 rfl) ?_
  refine va_get (D := (dC, dI)) (ci := 9) (v := .ref (a 14)) (C := RX9) (T := TX9) (N := 15) hx hb hts iA_9 hown hK hP 0 rfl rfl 5 (by decide) (hts (.fieldLink RX9 47 "HubTree" "now" "LHubTree$Bus;") (List.mem_cons_of_mem _ m_34)) (fun _ h9 => h9) rfl dX9_unplug_15 ?_
  refine lv_iconst (v := 1) hx hb dX9_unplug_18 (by decide) ?_
  refine lv_iconst (v := 1) hx hb dX9_unplug_19 (by decide) ?_
  refine lv_iload_n hx hb dX9_unplug_20 rfl (lv_at hl 2 rfl) ?_
  refine lv_iconst (v := (-1)) hx hb dX9_unplug_21 (by decide) ?_
  refine lv_iconst (v := (-1)) hx hb dX9_unplug_22 (by decide) ?_
  obtain ⟨o_5, r_6, hG⟩ := q_bi hG
  refine q_goi2 (v := o_5.1) (wr := [((a 28), .inl ((k 28), 4, .inl fz))]) (va_runV (As := [.ref (a 14), .int 1, .int 1, .int z1, .int (-1), .int (-1)]) (rest := [.ref (a 0)]) ⟨hx, hb, hml, hown, hts⟩ (c_X9_attempt l dC dI a k (a 14) (a 15) (k 15) hi dv nx ph tt fr fu fp fq fd 1 1 z1 (-1) (-1) (va_A [((a 0), .inr (9, [.ref (a 1), .ref (a 3), .ref (a 4), .ref (a 7), .ref (a 10), .ref (a 14), .ref (a 16), .ref (a 18), .ref (a 19), .ref (a 21), .ref (a 23), .ref (a 25), .ref (a 27), .ref (a 28), .int hi])), ((a 14), .inr (0, [.ref (a 15), .ref (a 7)])), ((a 15), .inl ((k 15), 98, .inl fr)), ((a 7), .inr (5, [.ref (a 8), .ref (a 9), .int dv])), ((a 8), .inl ((k 8), 8, .inl fu)), ((a 9), .inl ((k 9), 48, .inl fp)), ((a 19), .inr (4, [.ref (a 20), .int nx, .int ph])), ((a 20), .inl ((k 20), 3920, .inl fq)), ((a 21), .inr (1, [.ref (a 22), .int tt])), ((a 22), .inl ((k 22), 300, .inl fd))] H.size) o_5 r_6) (cwV 6 hts (q_gV m_722 m_723 m_724 m_2 m_725) rfl rfl rfl hdV_yX9_attempt_6 ⟨Nat.le_of_ble_eq_true rfl, Nat.le_of_ble_eq_true rfl⟩) (q_preWV hK hP hD (q := (RX9, TX9, 15)) (ci := 9) (q0 := 0) rfl rfl [0, 1, 2, 3, 4, 5, 6, 7, 8, 9] (by decide) rfl rfl [0, 1, 2, 3, 4] rfl) rfl rfl hl.1 rfl (lv_room (Nat.le_of_ble_eq_true rfl)) dX9_unplug_23 ⟨Nat.le_of_ble_eq_true rfl, Nat.le_of_ble_eq_true rfl⟩) hK hP hD hS hA [0, 1, 2, 3, 4, 5, 6, 7, 8, 9] [10] rfl rfl (by decide) (by decide) (fun _ H locs _ hP hD hK9 hS => ?_)
  have hP : va_P (dC, dI) vwCl [((a 0), .inr (9, [.ref (a 1), .ref (a 3), .ref (a 4), .ref (a 7), .ref (a 10), .ref (a 14), .ref (a 16), .ref (a 18), .ref (a 19), .ref (a 21), .ref (a 23), .ref (a 25), .ref (a 27), .ref (a 28), .int hi])), ((a 14), .inr (0, [.ref (a 15), .ref (a 7)])), ((a 15), .inl ((k 15), 98, .inl (o_5.2.2.2.2.1))), ((a 7), .inr (5, [.ref (a 8), .ref (a 9), .int dv])), ((a 8), .inl ((k 8), 8, .inl fu)), ((a 9), .inl ((k 9), 48, .inl fp)), ((a 19), .inr (4, [.ref (a 20), .int (o_5.2.1), .int (o_5.2.2.1)])), ((a 20), .inl ((k 20), 3920, .inl (o_5.2.2.2.2.2.1))), ((a 21), .inr (1, [.ref (a 22), .int (o_5.2.2.2.1)])), ((a 22), .inl ((k 22), 300, .inl (o_5.2.2.2.2.2.2))), ((a 28), .inl ((k 28), 4, .inl fz))] H := hP.sub [1, 2, 3, 4, 5, 6, 7, 8, 9, 10, 0] rfl
  have hD : va_D A [((a 0), .inr (9, [.ref (a 1), .ref (a 3), .ref (a 4), .ref (a 7), .ref (a 10), .ref (a 14), .ref (a 16), .ref (a 18), .ref (a 19), .ref (a 21), .ref (a 23), .ref (a 25), .ref (a 27), .ref (a 28), .int hi])), ((a 14), .inr (0, [.ref (a 15), .ref (a 7)])), ((a 15), .inl ((k 15), 98, .inl (o_5.2.2.2.2.1))), ((a 7), .inr (5, [.ref (a 8), .ref (a 9), .int dv])), ((a 8), .inl ((k 8), 8, .inl fu)), ((a 9), .inl ((k 9), 48, .inl fp)), ((a 19), .inr (4, [.ref (a 20), .int (o_5.2.1), .int (o_5.2.2.1)])), ((a 20), .inl ((k 20), 3920, .inl (o_5.2.2.2.2.2.1))), ((a 21), .inr (1, [.ref (a 22), .int (o_5.2.2.2.1)])), ((a 22), .inl ((k 22), 300, .inl (o_5.2.2.2.2.2.2))), ((a 28), .inl ((k 28), 4, .inl fz))] := hD.sub [1, 2, 3, 4, 5, 6, 7, 8, 9, 10, 0] (by decide) rfl
  obtain ⟨o_7, r_8, hG⟩ := q_bi hG
  refine q_goi2 (v := o_7.1) (wr := [((a 14), .inr (0, [.ref (a 15), .ref (a 7)])), ((a 15), .inl ((k 15), 98, .inl (o_5.2.2.2.2.1))), ((a 7), .inr (5, [.ref (a 8), .ref (a 9), .int dv])), ((a 8), .inl ((k 8), 8, .inl fu)), ((a 9), .inl ((k 9), 48, .inl fp)), ((a 19), .inr (4, [.ref (a 20), .int (o_5.2.1), .int (o_5.2.2.1)])), ((a 20), .inl ((k 20), 3920, .inl (o_5.2.2.2.2.2.1))), ((a 21), .inr (1, [.ref (a 22), .int (o_5.2.2.2.1)])), ((a 22), .inl ((k 22), 300, .inl (o_5.2.2.2.2.2.2)))]) (va_runV (As := [.int o_5.1]) (rest := []) ⟨hx, hb, hml, hown, hts⟩ (c_X9_isDone l dC dI a k hi fz o_5.1 (va_A [((a 0), .inr (9, [.ref (a 1), .ref (a 3), .ref (a 4), .ref (a 7), .ref (a 10), .ref (a 14), .ref (a 16), .ref (a 18), .ref (a 19), .ref (a 21), .ref (a 23), .ref (a 25), .ref (a 27), .ref (a 28), .int hi])), ((a 28), .inl ((k 28), 4, .inl fz))] H.size) o_7 r_8) (cwV 1 hts (q_gV m_889 m_890 m_891 m_2 m_892) rfl rfl rfl hdV_yX9_isDone_1 ⟨Nat.le_of_ble_eq_true rfl, Nat.le_of_ble_eq_true rfl⟩) (q_preWV hK hP hD (q := (RX9, TX9, 15)) (ci := 9) (q0 := 0) rfl rfl [0, 10] (by decide) rfl rfl [5] rfl) rfl rfl hl.1 rfl (lv_room (Nat.le_of_ble_eq_true rfl)) dX9_unplug_26 ⟨Nat.le_of_ble_eq_true rfl, Nat.le_of_ble_eq_true rfl⟩) hK hP hD hS hA [0, 10] [1, 2, 3, 4, 5, 6, 7, 8, 9] rfl rfl (by decide) (by decide) (fun _ H locs _ hP hD hK9 hS => ?_)
  have hP : va_P (dC, dI) vwCl [((a 0), .inr (9, [.ref (a 1), .ref (a 3), .ref (a 4), .ref (a 7), .ref (a 10), .ref (a 14), .ref (a 16), .ref (a 18), .ref (a 19), .ref (a 21), .ref (a 23), .ref (a 25), .ref (a 27), .ref (a 28), .int hi])), ((a 14), .inr (0, [.ref (a 15), .ref (a 7)])), ((a 15), .inl ((k 15), 98, .inl (o_5.2.2.2.2.1))), ((a 7), .inr (5, [.ref (a 8), .ref (a 9), .int dv])), ((a 8), .inl ((k 8), 8, .inl fu)), ((a 9), .inl ((k 9), 48, .inl fp)), ((a 19), .inr (4, [.ref (a 20), .int (o_5.2.1), .int (o_5.2.2.1)])), ((a 20), .inl ((k 20), 3920, .inl (o_5.2.2.2.2.2.1))), ((a 21), .inr (1, [.ref (a 22), .int (o_5.2.2.2.1)])), ((a 22), .inl ((k 22), 300, .inl (o_5.2.2.2.2.2.2))), ((a 28), .inl ((k 28), 4, .inl (o_7.2)))] H := hP.sub [9, 0, 1, 2, 3, 4, 5, 6, 7, 8, 10] rfl
  have hD : va_D A [((a 0), .inr (9, [.ref (a 1), .ref (a 3), .ref (a 4), .ref (a 7), .ref (a 10), .ref (a 14), .ref (a 16), .ref (a 18), .ref (a 19), .ref (a 21), .ref (a 23), .ref (a 25), .ref (a 27), .ref (a 28), .int hi])), ((a 14), .inr (0, [.ref (a 15), .ref (a 7)])), ((a 15), .inl ((k 15), 98, .inl (o_5.2.2.2.2.1))), ((a 7), .inr (5, [.ref (a 8), .ref (a 9), .int dv])), ((a 8), .inl ((k 8), 8, .inl fu)), ((a 9), .inl ((k 9), 48, .inl fp)), ((a 19), .inr (4, [.ref (a 20), .int (o_5.2.1), .int (o_5.2.2.1)])), ((a 20), .inl ((k 20), 3920, .inl (o_5.2.2.2.2.2.1))), ((a 21), .inr (1, [.ref (a 22), .int (o_5.2.2.2.1)])), ((a 22), .inl ((k 22), 300, .inl (o_5.2.2.2.2.2.2))), ((a 28), .inl ((k 28), 4, .inl (o_7.2)))] := hD.sub [9, 0, 1, 2, 3, 4, 5, 6, 7, 8, 10] (by decide) rfl
  refine lv_if_ne (tgt := 34) hx hb dX9_unplug_29 (by decide) (fun c_9 => ?_) (fun c_9 => ?_)
  · have hG := q_ifn c_9 hG
    refine lv_aload_n hx hb dX9_unplug_34 rfl (lv_at hl 1 rfl) ?_
    refine va_get (D := (dC, dI)) (ci := 9) (v := .ref (a 14)) (C := RX9) (T := TX9) (N := 15) hx hb hts iA_9 hown hK hP 0 rfl rfl 5 (by decide) (hts (.fieldLink RX9 47 "HubTree" "now" "LHubTree$Bus;") (List.mem_cons_of_mem _ m_34)) (fun _ h9 => h9) rfl dX9_unplug_35 ?_
    refine lv_iconst (v := 0) hx hb dX9_unplug_38 (by decide) ?_
    obtain ⟨o_10, r_11, hG⟩ := q_bi hG
    refine q_goi (v := o_10) (va_runV (As := [.int 0]) (rest := []) ⟨hx, hb, hml, hown, hts⟩ (c_X0_allThatAre l dC dI (a 14) (a 15) (a 7) (a 8) (a 9) dv (k 15) (o_5.2.2.2.2.1) (k 8) (k 9) fu fp 0 o_10 r_11) (cwV 1 hts (q_gV m_1042 m_881 m_882 m_33 m_883) rfl rfl rfl hdV_yX0_allThatAre_1 ⟨Nat.le_of_ble_eq_true rfl, Nat.le_of_ble_eq_true rfl⟩) (q_preV hK hP (q := (RX0, TX0, 2)) (ci := 0) (q0 := 1) rfl rfl [1, 2, 3, 4, 5] rfl [0, 1, 2] rfl) rfl rfl hl.1 rfl (lv_room (Nat.le_of_ble_eq_true rfl)) dX9_unplug_39 ⟨Nat.le_of_ble_eq_true rfl, Nat.le_of_ble_eq_true rfl⟩) hP hS (fun H locs hP hS => ?_)
    obtain ⟨o_12, r_13, hG⟩ := q_bi hG
    refine q_goi (v := o_12) (va_runS (As := [.int o_10]) (rest := []) ⟨hx, hb, hml, hown, hts⟩ (c_J6_bitCount_0f7a4 l dC dI o_10 o_12 r_13) (va_cwS 1 hts (q_gS m_609 m_610 m_611 m_612) rfl rfl rfl hdS_yJ6_bitCount_0f7a4_1 ⟨Nat.le_of_ble_eq_true rfl, Nat.le_of_ble_eq_true rfl⟩) (q_preS hK hP [] rfl [] rfl) rfl rfl hl.1 rfl (lv_room (Nat.le_of_ble_eq_true rfl)) dX9_unplug_42 ⟨Nat.le_of_ble_eq_true rfl, Nat.le_of_ble_eq_true rfl⟩) hP hS (fun H locs hP hS => ?_)
    refine lv_iload_n hx hb dX9_unplug_45 rfl (lv_at hl 0 rfl) ?_
    refine lv_isub hx hb dX9_unplug_46 ?_
    obtain rfl := Option.some.inj hG
    have hP9 := hP.sub (ws' := [((a 0), .inr (9, [.ref (a 1), .ref (a 3), .ref (a 4), .ref (a 7), .ref (a 10), .ref (a 14), .ref (a 16), .ref (a 18), .ref (a 19), .ref (a 21), .ref (a 23), .ref (a 25), .ref (a 27), .ref (a 28), .int hi])), ((a 14), .inr (0, [.ref (a 15), .ref (a 7)])), ((a 15), .inl ((k 15), 98, .inl (o_5.2.2.2.2.1))), ((a 7), .inr (5, [.ref (a 8), .ref (a 9), .int dv])), ((a 8), .inl ((k 8), 8, .inl fu)), ((a 9), .inl ((k 9), 48, .inl fp)), ((a 19), .inr (4, [.ref (a 20), .int (o_5.2.1), .int (o_5.2.2.1)])), ((a 20), .inl ((k 20), 3920, .inl (o_5.2.2.2.2.2.1))), ((a 21), .inr (1, [.ref (a 22), .int (o_5.2.2.2.1)])), ((a 22), .inl ((k 22), 300, .inl (o_5.2.2.2.2.2.2))), ((a 28), .inl ((k 28), 4, .inl (o_7.2)))]) [0, 1, 2, 3, 4, 5, 6, 7, 8, 9, 10] rfl
    have hD9 := hD.sub (ws' := [((a 0), .inr (9, [.ref (a 1), .ref (a 3), .ref (a 4), .ref (a 7), .ref (a 10), .ref (a 14), .ref (a 16), .ref (a 18), .ref (a 19), .ref (a 21), .ref (a 23), .ref (a 25), .ref (a 27), .ref (a 28), .int hi])), ((a 14), .inr (0, [.ref (a 15), .ref (a 7)])), ((a 15), .inl ((k 15), 98, .inl (o_5.2.2.2.2.1))), ((a 7), .inr (5, [.ref (a 8), .ref (a 9), .int dv])), ((a 8), .inl ((k 8), 8, .inl fu)), ((a 9), .inl ((k 9), 48, .inl fp)), ((a 19), .inr (4, [.ref (a 20), .int (o_5.2.1), .int (o_5.2.2.1)])), ((a 20), .inl ((k 20), 3920, .inl (o_5.2.2.2.2.2.1))), ((a 21), .inr (1, [.ref (a 22), .int (o_5.2.2.2.1)])), ((a 22), .inl ((k 22), 300, .inl (o_5.2.2.2.2.2.2))), ((a 28), .inl ((k 28), 4, .inl (o_7.2)))]) [0, 1, 2, 3, 4, 5, 6, 7, 8, 9, 10] (by decide) rfl
    have hK9 := hK.sub (tys' := [((k 15), .int), ((k 8), .int), ((k 9), .int), ((k 20), .int), ((k 22), .int), ((k 28), .int)]) [0, 1, 2, 3, 4, 5] rfl
    exact W.iret (v := (o_12 - o_3)) hx hb hr (fun t ht hW => ⟨⟨(o_12 - o_3), (), rfl, ⟨rfl, trivial⟩, by rw [ht]; exact hP9, va_K.moved hW.alike hK9, hD9⟩, hS.F ht⟩) hS.2.2 dX9_unplug_47
  · have hG := q_ifp c_9 hG
    refine lv_iconst (v := (-1)) hx hb dX9_unplug_32 (by decide) ?_
    obtain rfl := Option.some.inj hG
    have hP9 := hP.sub (ws' := [((a 0), .inr (9, [.ref (a 1), .ref (a 3), .ref (a 4), .ref (a 7), .ref (a 10), .ref (a 14), .ref (a 16), .ref (a 18), .ref (a 19), .ref (a 21), .ref (a 23), .ref (a 25), .ref (a 27), .ref (a 28), .int hi])), ((a 14), .inr (0, [.ref (a 15), .ref (a 7)])), ((a 15), .inl ((k 15), 98, .inl (o_5.2.2.2.2.1))), ((a 7), .inr (5, [.ref (a 8), .ref (a 9), .int dv])), ((a 8), .inl ((k 8), 8, .inl fu)), ((a 9), .inl ((k 9), 48, .inl fp)), ((a 19), .inr (4, [.ref (a 20), .int (o_5.2.1), .int (o_5.2.2.1)])), ((a 20), .inl ((k 20), 3920, .inl (o_5.2.2.2.2.2.1))), ((a 21), .inr (1, [.ref (a 22), .int (o_5.2.2.2.1)])), ((a 22), .inl ((k 22), 300, .inl (o_5.2.2.2.2.2.2))), ((a 28), .inl ((k 28), 4, .inl (o_7.2)))]) [0, 1, 2, 3, 4, 5, 6, 7, 8, 9, 10] rfl
    have hD9 := hD.sub (ws' := [((a 0), .inr (9, [.ref (a 1), .ref (a 3), .ref (a 4), .ref (a 7), .ref (a 10), .ref (a 14), .ref (a 16), .ref (a 18), .ref (a 19), .ref (a 21), .ref (a 23), .ref (a 25), .ref (a 27), .ref (a 28), .int hi])), ((a 14), .inr (0, [.ref (a 15), .ref (a 7)])), ((a 15), .inl ((k 15), 98, .inl (o_5.2.2.2.2.1))), ((a 7), .inr (5, [.ref (a 8), .ref (a 9), .int dv])), ((a 8), .inl ((k 8), 8, .inl fu)), ((a 9), .inl ((k 9), 48, .inl fp)), ((a 19), .inr (4, [.ref (a 20), .int (o_5.2.1), .int (o_5.2.2.1)])), ((a 20), .inl ((k 20), 3920, .inl (o_5.2.2.2.2.2.1))), ((a 21), .inr (1, [.ref (a 22), .int (o_5.2.2.2.1)])), ((a 22), .inl ((k 22), 300, .inl (o_5.2.2.2.2.2.2))), ((a 28), .inl ((k 28), 4, .inl (o_7.2)))]) [0, 1, 2, 3, 4, 5, 6, 7, 8, 9, 10] (by decide) rfl
    have hK9 := hK.sub (tys' := [((k 15), .int), ((k 8), .int), ((k 9), .int), ((k 20), .int), ((k 22), .int), ((k 28), .int)]) [0, 1, 2, 3, 4, 5] rfl
    exact W.iret (v := (-1)) hx hb hr (fun t ht hW => ⟨⟨(-1), (), rfl, ⟨rfl, trivial⟩, by rw [ht]; exact hP9, va_K.moved hW.alike hK9, hD9⟩, hS.F ht⟩) hS.2.2 dX9_unplug_33

def F_X9_tick (dv : Int32) (nx : Int32) (ph : Int32) (tt : Int32) (fu : Nat → Int32) (fp : Nat → Int32) (fr : Nat → Int32) (fq : Nat → Int32) (fd : Nat → Int32) (fz : Nat → Int32) (z1 : Int32) : Option (Int32 × Int32 × Int32 × Int32 × (Nat → Int32) × (Nat → Int32) × (Nat → Int32) × (Nat → Int32)) := ((F_X9_attempt dv nx ph tt fr fu fp fq fd 1 2 z1 (-1) (-1)).bind fun o_1 => ((F_X9_isDone fz o_1.1).bind fun o_3 => (if o_3.1 = 0 then some ((-1), (o_1.2.1), (o_1.2.2.1), (o_1.2.2.2.1), (o_1.2.2.2.2.1), (o_1.2.2.2.2.2.1), (o_1.2.2.2.2.2.2), (o_3.2)) else ((F_X0_running (o_1.2.2.2.2.1) dv fu fp).bind fun o_6 => some (o_6, (o_1.2.1), (o_1.2.2.1), (o_1.2.2.2.1), (o_1.2.2.2.2.1), (o_1.2.2.2.2.2.1), (o_1.2.2.2.2.2.2), (o_3.2))))))
set_option maxHeartbeats 4000000 in
set_option maxRecDepth 100000 in
theorem c_X9_tick (l : Launch) (dC : Nat → ClassId) (dI : Nat → Nat → Nat) (a : Nat → Nat) (k : Nat → ClassId) (dv : Int32) (nx : Int32) (ph : Int32) (tt : Int32) (hi : Int32) (fu : Nat → Int32) (fp : Nat → Int32) (fr : Nat → Int32) (fq : Nat → Int32) (fd : Nat → Int32) (fz : Nat → Int32) (z1 : Int32) (A : Nat → Prop) (o : Int32 × Int32 × Int32 × Int32 × (Nat → Int32) × (Nat → Int32) × (Nat → Int32) × (Nat → Int32)) (hG : F_X9_tick dv nx ph tt fu fp fr fq fd fz z1 = some o) : Met l yX9_tick (.code yX9_tick cX9_tick 2 (some .int) :: wA) ({ frames := 6, cells := 0, slots := 0, locals := 144 }) (va_Pc [.ref (a 0), .int z1] (q_W (dC, dI) A [((a 0), .inr (9, [.ref (a 1), .ref (a 3), .ref (a 4), .ref (a 7), .ref (a 10), .ref (a 14), .ref (a 16), .ref (a 18), .ref (a 19), .ref (a 21), .ref (a 23), .ref (a 25), .ref (a 27), .ref (a 28), .int hi])), ((a 14), .inr (0, [.ref (a 15), .ref (a 7)])), ((a 15), .inl ((k 15), 98, .inl fr)), ((a 7), .inr (5, [.ref (a 8), .ref (a 9), .int dv])), ((a 8), .inl ((k 8), 8, .inl fu)), ((a 9), .inl ((k 9), 48, .inl fp)), ((a 19), .inr (4, [.ref (a 20), .int nx, .int ph])), ((a 20), .inl ((k 20), 3920, .inl fq)), ((a 21), .inr (1, [.ref (a 22), .int tt])), ((a 22), .inl ((k 22), 300, .inl fd)), ((a 28), .inl ((k 28), 4, .inl fz))] [((k 15), .int), ((k 8), .int), ((k 9), .int), ((k 20), .int), ((k 22), .int), ((k 28), .int)])) (va_Qi (fun (r : Int32) (_ : Unit) => r = o.1 ∧ True) (fun (_ : Unit) t => q_B (dC, dI) A [((a 0), .inr (9, [.ref (a 1), .ref (a 3), .ref (a 4), .ref (a 7), .ref (a 10), .ref (a 14), .ref (a 16), .ref (a 18), .ref (a 19), .ref (a 21), .ref (a 23), .ref (a 25), .ref (a 27), .ref (a 28), .int hi])), ((a 14), .inr (0, [.ref (a 15), .ref (a 7)])), ((a 15), .inl ((k 15), 98, .inl (o.2.2.2.2.1))), ((a 7), .inr (5, [.ref (a 8), .ref (a 9), .int dv])), ((a 8), .inl ((k 8), 8, .inl fu)), ((a 9), .inl ((k 9), 48, .inl fp)), ((a 19), .inr (4, [.ref (a 20), .int (o.2.1), .int (o.2.2.1)])), ((a 20), .inl ((k 20), 3920, .inl (o.2.2.2.2.2.1))), ((a 21), .inr (1, [.ref (a 22), .int (o.2.2.2.1)])), ((a 22), .inl ((k 22), 300, .inl (o.2.2.2.2.2.2.1))), ((a 28), .inl ((k 28), 4, .inl (o.2.2.2.2.2.2.2)))] [((k 15), .int), ((k 8), .int), ((k 9), .int), ((k 20), .int), ((k 22), .int), ((k 28), .int)] t) A) 0 0 A := by
  refine Met.ofW (cc := cX9_tick) (maxL := 2) (ret := (some .int)) (by decide) rfl ?_
  intro p e s m args below meth c s₁ B hml hv
  obtain ⟨rfl, hP, hK, hD, hA⟩ := hv
  have hx := B.exec
  have hb := B.bytes
  have hr := B.returns
  have hts := atoms_spec (ws := .code yX9_tick cX9_tick 2 (some .int) :: wA) B.pre
  have hown : s.vm.findClass RX9 = some m.cls := findClass_of_methodNamed B.named
  have hlocks := B.notSynchronized
  have hS : va_S A s.heap s.heap [] := va_S.rf
  have hl := lv_entry ([.ref (a 0), .int z1]) (n := 2) (Nat.le_of_ble_eq_true rfl)
  rw [lg_entry_eq]
  generalize (lg_sl ([.ref (a 0), .int z1]) ++ List.replicate (2 - (lg_sl ([.ref (a 0), .int z1])).length) Slot.unset).toArray = ls at hl ⊢
  have hl : lv_has ls 2 [(0, .ref (a 0)), (1, .int z1)] := hl
  unfold F_X9_tick at hG
  refine lv_aload_n hx hb dX9_tick_0 rfl (lv_at hl 0 rfl) ?_
  refine lv_aload_n hx hb dX9_tick_1 rfl (lv_at hl 0 rfl) ?_
  refine lv_aload_n hx hb dX9_tick_2 rfl (lv_at hl 0 rfl) ?_
  refine va_get (D := (dC, dI)) (ci := 9) (v := .ref (a 14)) (C := RX9) (T := TX9) (N := 15) hx hb hts iA_9 hown hK hP 0 rfl rfl 5 (by decide) (hts (.fieldLink RX9 47 "HubTree" "now" "LHubTree$Bus;") (List.mem_cons_of_mem _ m_34)) (fun _ h9 => h9) rfl dX9_tick_3 ?_
  refine lv_iconst (v := 1) hx hb dX9_tick_6 (by decide) ?_
  refine lv_iconst (v := 2) hx hb dX9_tick_7 (by decide) ?_
  refine lv_iload_n hx hb dX9_tick_8 rfl (lv_at hl 1 rfl) ?_
  refine lv_iconst (v := (-1)) hx hb dX9_tick_9 (by decide) ?_
  refine lv_iconst (v := (-1)) hx hb dX9_tick_10 (by decide) ?_
  obtain ⟨o_1, r_2, hG⟩ := q_bi hG
  refine q_goi2 (v := o_1.1) (wr := [((a 28), .inl ((k 28), 4, .inl fz))]) (va_runV (As := [.ref (a 14), .int 1, .int 2, .int z1, .int (-1), .int (-1)]) (rest := [.ref (a 0)]) ⟨hx, hb, hml, hown, hts⟩ (c_X9_attempt l dC dI a k (a 14) (a 15) (k 15) hi dv nx ph tt fr fu fp fq fd 1 2 z1 (-1) (-1) (va_A [((a 0), .inr (9, [.ref (a 1), .ref (a 3), .ref (a 4), .ref (a 7), .ref (a 10), .ref (a 14), .ref (a 16), .ref (a 18), .ref (a 19), .ref (a 21), .ref (a 23), .ref (a 25), .ref (a 27), .ref (a 28), .int hi])), ((a 14), .inr (0, [.ref (a 15), .ref (a 7)])), ((a 15), .inl ((k 15), 98, .inl fr)), ((a 7), .inr (5, [.ref (a 8), .ref (a 9), .int dv])), ((a 8), .inl ((k 8), 8, .inl fu)), ((a 9), .inl ((k 9), 48, .inl fp)), ((a 19), .inr (4, [.ref (a 20), .int nx, .int ph])), ((a 20), .inl ((k 20), 3920, .inl fq)), ((a 21), .inr (1, [.ref (a 22), .int tt])), ((a 22), .inl ((k 22), 300, .inl fd))] s.heap.size) o_1 r_2) (cwV 6 hts (q_gV m_722 m_723 m_724 m_2 m_725) rfl rfl rfl hdV_yX9_attempt_6 ⟨Nat.le_of_ble_eq_true rfl, Nat.le_of_ble_eq_true rfl⟩) (q_preWV hK hP hD (q := (RX9, TX9, 15)) (ci := 9) (q0 := 0) rfl rfl [0, 1, 2, 3, 4, 5, 6, 7, 8, 9] (by decide) rfl rfl [0, 1, 2, 3, 4] rfl) rfl rfl hl.1 rfl (lv_room (Nat.le_of_ble_eq_true rfl)) dX9_tick_11 ⟨Nat.le_of_ble_eq_true rfl, Nat.le_of_ble_eq_true rfl⟩) hK hP hD hS hA [0, 1, 2, 3, 4, 5, 6, 7, 8, 9] [10] rfl rfl (by decide) (by decide) (fun _ H locs _ hP hD hK9 hS => ?_)
  have hP : va_P (dC, dI) vwCl [((a 0), .inr (9, [.ref (a 1), .ref (a 3), .ref (a 4), .ref (a 7), .ref (a 10), .ref (a 14), .ref (a 16), .ref (a 18), .ref (a 19), .ref (a 21), .ref (a 23), .ref (a 25), .ref (a 27), .ref (a 28), .int hi])), ((a 14), .inr (0, [.ref (a 15), .ref (a 7)])), ((a 15), .inl ((k 15), 98, .inl (o_1.2.2.2.2.1))), ((a 7), .inr (5, [.ref (a 8), .ref (a 9), .int dv])), ((a 8), .inl ((k 8), 8, .inl fu)), ((a 9), .inl ((k 9), 48, .inl fp)), ((a 19), .inr (4, [.ref (a 20), .int (o_1.2.1), .int (o_1.2.2.1)])), ((a 20), .inl ((k 20), 3920, .inl (o_1.2.2.2.2.2.1))), ((a 21), .inr (1, [.ref (a 22), .int (o_1.2.2.2.1)])), ((a 22), .inl ((k 22), 300, .inl (o_1.2.2.2.2.2.2))), ((a 28), .inl ((k 28), 4, .inl fz))] H := hP.sub [1, 2, 3, 4, 5, 6, 7, 8, 9, 10, 0] rfl
  have hD : va_D A [((a 0), .inr (9, [.ref (a 1), .ref (a 3), .ref (a 4), .ref (a 7), .ref (a 10), .ref (a 14), .ref (a 16), .ref (a 18), .ref (a 19), .ref (a 21), .ref (a 23), .ref (a 25), .ref (a 27), .ref (a 28), .int hi])), ((a 14), .inr (0, [.ref (a 15), .ref (a 7)])), ((a 15), .inl ((k 15), 98, .inl (o_1.2.2.2.2.1))), ((a 7), .inr (5, [.ref (a 8), .ref (a 9), .int dv])), ((a 8), .inl ((k 8), 8, .inl fu)), ((a 9), .inl ((k 9), 48, .inl fp)), ((a 19), .inr (4, [.ref (a 20), .int (o_1.2.1), .int (o_1.2.2.1)])), ((a 20), .inl ((k 20), 3920, .inl (o_1.2.2.2.2.2.1))), ((a 21), .inr (1, [.ref (a 22), .int (o_1.2.2.2.1)])), ((a 22), .inl ((k 22), 300, .inl (o_1.2.2.2.2.2.2))), ((a 28), .inl ((k 28), 4, .inl fz))] := hD.sub [1, 2, 3, 4, 5, 6, 7, 8, 9, 10, 0] (by decide) rfl
  obtain ⟨o_3, r_4, hG⟩ := q_bi hG
  refine q_goi2 (v := o_3.1) (wr := [((a 14), .inr (0, [.ref (a 15), .ref (a 7)])), ((a 15), .inl ((k 15), 98, .inl (o_1.2.2.2.2.1))), ((a 7), .inr (5, [.ref (a 8), .ref (a 9), .int dv])), ((a 8), .inl ((k 8), 8, .inl fu)), ((a 9), .inl ((k 9), 48, .inl fp)), ((a 19), .inr (4, [.ref (a 20), .int (o_1.2.1), .int (o_1.2.2.1)])), ((a 20), .inl ((k 20), 3920, .inl (o_1.2.2.2.2.2.1))), ((a 21), .inr (1, [.ref (a 22), .int (o_1.2.2.2.1)])), ((a 22), .inl ((k 22), 300, .inl (o_1.2.2.2.2.2.2)))]) (va_runV (As := [.int o_1.1]) (rest := []) ⟨hx, hb, hml, hown, hts⟩ (c_X9_isDone l dC dI a k hi fz o_1.1 (va_A [((a 0), .inr (9, [.ref (a 1), .ref (a 3), .ref (a 4), .ref (a 7), .ref (a 10), .ref (a 14), .ref (a 16), .ref (a 18), .ref (a 19), .ref (a 21), .ref (a 23), .ref (a 25), .ref (a 27), .ref (a 28), .int hi])), ((a 28), .inl ((k 28), 4, .inl fz))] H.size) o_3 r_4) (cwV 1 hts (q_gV m_889 m_890 m_891 m_2 m_892) rfl rfl rfl hdV_yX9_isDone_1 ⟨Nat.le_of_ble_eq_true rfl, Nat.le_of_ble_eq_true rfl⟩) (q_preWV hK hP hD (q := (RX9, TX9, 15)) (ci := 9) (q0 := 0) rfl rfl [0, 10] (by decide) rfl rfl [5] rfl) rfl rfl hl.1 rfl (lv_room (Nat.le_of_ble_eq_true rfl)) dX9_tick_14 ⟨Nat.le_of_ble_eq_true rfl, Nat.le_of_ble_eq_true rfl⟩) hK hP hD hS hA [0, 10] [1, 2, 3, 4, 5, 6, 7, 8, 9] rfl rfl (by decide) (by decide) (fun _ H locs _ hP hD hK9 hS => ?_)
  have hP : va_P (dC, dI) vwCl [((a 0), .inr (9, [.ref (a 1), .ref (a 3), .ref (a 4), .ref (a 7), .ref (a 10), .ref (a 14), .ref (a 16), .ref (a 18), .ref (a 19), .ref (a 21), .ref (a 23), .ref (a 25), .ref (a 27), .ref (a 28), .int hi])), ((a 14), .inr (0, [.ref (a 15), .ref (a 7)])), ((a 15), .inl ((k 15), 98, .inl (o_1.2.2.2.2.1))), ((a 7), .inr (5, [.ref (a 8), .ref (a 9), .int dv])), ((a 8), .inl ((k 8), 8, .inl fu)), ((a 9), .inl ((k 9), 48, .inl fp)), ((a 19), .inr (4, [.ref (a 20), .int (o_1.2.1), .int (o_1.2.2.1)])), ((a 20), .inl ((k 20), 3920, .inl (o_1.2.2.2.2.2.1))), ((a 21), .inr (1, [.ref (a 22), .int (o_1.2.2.2.1)])), ((a 22), .inl ((k 22), 300, .inl (o_1.2.2.2.2.2.2))), ((a 28), .inl ((k 28), 4, .inl (o_3.2)))] H := hP.sub [9, 0, 1, 2, 3, 4, 5, 6, 7, 8, 10] rfl
  have hD : va_D A [((a 0), .inr (9, [.ref (a 1), .ref (a 3), .ref (a 4), .ref (a 7), .ref (a 10), .ref (a 14), .ref (a 16), .ref (a 18), .ref (a 19), .ref (a 21), .ref (a 23), .ref (a 25), .ref (a 27), .ref (a 28), .int hi])), ((a 14), .inr (0, [.ref (a 15), .ref (a 7)])), ((a 15), .inl ((k 15), 98, .inl (o_1.2.2.2.2.1))), ((a 7), .inr (5, [.ref (a 8), .ref (a 9), .int dv])), ((a 8), .inl ((k 8), 8, .inl fu)), ((a 9), .inl ((k 9), 48, .inl fp)), ((a 19), .inr (4, [.ref (a 20), .int (o_1.2.1), .int (o_1.2.2.1)])), ((a 20), .inl ((k 20), 3920, .inl (o_1.2.2.2.2.2.1))), ((a 21), .inr (1, [.ref (a 22), .int (o_1.2.2.2.1)])), ((a 22), .inl ((k 22), 300, .inl (o_1.2.2.2.2.2.2))), ((a 28), .inl ((k 28), 4, .inl (o_3.2)))] := hD.sub [9, 0, 1, 2, 3, 4, 5, 6, 7, 8, 10] (by decide) rfl
  refine lv_if_eq (tgt := 30) hx hb dX9_tick_17 (by decide) (fun c_5 => ?_) (fun c_5 => ?_)
  · have hG := q_ifp c_5 hG
    refine lv_iconst (v := (-1)) hx hb dX9_tick_30 (by decide) ?_
    obtain rfl := Option.some.inj hG
    have hP9 := hP.sub (ws' := [((a 0), .inr (9, [.ref (a 1), .ref (a 3), .ref (a 4), .ref (a 7), .ref (a 10), .ref (a 14), .ref (a 16), .ref (a 18), .ref (a 19), .ref (a 21), .ref (a 23), .ref (a 25), .ref (a 27), .ref (a 28), .int hi])), ((a 14), .inr (0, [.ref (a 15), .ref (a 7)])), ((a 15), .inl ((k 15), 98, .inl (o_1.2.2.2.2.1))), ((a 7), .inr (5, [.ref (a 8), .ref (a 9), .int dv])), ((a 8), .inl ((k 8), 8, .inl fu)), ((a 9), .inl ((k 9), 48, .inl fp)), ((a 19), .inr (4, [.ref (a 20), .int (o_1.2.1), .int (o_1.2.2.1)])), ((a 20), .inl ((k 20), 3920, .inl (o_1.2.2.2.2.2.1))), ((a 21), .inr (1, [.ref (a 22), .int (o_1.2.2.2.1)])), ((a 22), .inl ((k 22), 300, .inl (o_1.2.2.2.2.2.2))), ((a 28), .inl ((k 28), 4, .inl (o_3.2)))]) [0, 1, 2, 3, 4, 5, 6, 7, 8, 9, 10] rfl
    have hD9 := hD.sub (ws' := [((a 0), .inr (9, [.ref (a 1), .ref (a 3), .ref (a 4), .ref (a 7), .ref (a 10), .ref (a 14), .ref (a 16), .ref (a 18), .ref (a 19), .ref (a 21), .ref (a 23), .ref (a 25), .ref (a 27), .ref (a 28), .int hi])), ((a 14), .inr (0, [.ref (a 15), .ref (a 7)])), ((a 15), .inl ((k 15), 98, .inl (o_1.2.2.2.2.1))), ((a 7), .inr (5, [.ref (a 8), .ref (a 9), .int dv])), ((a 8), .inl ((k 8), 8, .inl fu)), ((a 9), .inl ((k 9), 48, .inl fp)), ((a 19), .inr (4, [.ref (a 20), .int (o_1.2.1), .int (o_1.2.2.1)])), ((a 20), .inl ((k 20), 3920, .inl (o_1.2.2.2.2.2.1))), ((a 21), .inr (1, [.ref (a 22), .int (o_1.2.2.2.1)])), ((a 22), .inl ((k 22), 300, .inl (o_1.2.2.2.2.2.2))), ((a 28), .inl ((k 28), 4, .inl (o_3.2)))]) [0, 1, 2, 3, 4, 5, 6, 7, 8, 9, 10] (by decide) rfl
    have hK9 := hK.sub (tys' := [((k 15), .int), ((k 8), .int), ((k 9), .int), ((k 20), .int), ((k 22), .int), ((k 28), .int)]) [0, 1, 2, 3, 4, 5] rfl
    exact W.iret (v := (-1)) hx hb hr (fun t ht hW => ⟨⟨(-1), (), rfl, ⟨rfl, trivial⟩, by rw [ht]; exact hP9, va_K.moved hW.alike hK9, hD9⟩, hS.F ht⟩) hS.2.2 dX9_tick_31
  · have hG := q_ifn c_5 hG
    refine lv_aload_n hx hb dX9_tick_20 rfl (lv_at hl 0 rfl) ?_
    refine va_get (D := (dC, dI)) (ci := 9) (v := .ref (a 14)) (C := RX9) (T := TX9) (N := 15) hx hb hts iA_9 hown hK hP 0 rfl rfl 5 (by decide) (hts (.fieldLink RX9 47 "HubTree" "now" "LHubTree$Bus;") (List.mem_cons_of_mem _ m_34)) (fun _ h9 => h9) rfl dX9_tick_21 ?_
    obtain ⟨o_6, r_7, hG⟩ := q_bi hG
    refine q_goi (v := o_6) (va_runV (As := []) (rest := []) ⟨hx, hb, hml, hown, hts⟩ (c_X0_running l dC dI (a 14) (a 15) (a 7) (a 8) (a 9) dv (k 15) (o_1.2.2.2.2.1) (k 8) (k 9) fu fp o_6 r_7) (cwV 0 hts (q_gV m_876 m_877 m_878 m_33 m_879) rfl rfl rfl hdV_yX0_running_0 ⟨Nat.le_of_ble_eq_true rfl, Nat.le_of_ble_eq_true rfl⟩) (q_preV hK hP (q := (RX0, TX0, 2)) (ci := 0) (q0 := 1) rfl rfl [1, 2, 3, 4, 5] rfl [0, 1, 2] rfl) rfl rfl hl.1 rfl (lv_room (Nat.le_of_ble_eq_true rfl)) dX9_tick_24 ⟨Nat.le_of_ble_eq_true rfl, Nat.le_of_ble_eq_true rfl⟩) hP hS (fun H locs hP hS => ?_)
    refine lv_goto (tgt := 31) hx hb dX9_tick_27 (by decide) ?_
    obtain rfl := Option.some.inj hG
    have hP9 := hP.sub (ws' := [((a 0), .inr (9, [.ref (a 1), .ref (a 3), .ref (a 4), .ref (a 7), .ref (a 10), .ref (a 14), .ref (a 16), .ref (a 18), .ref (a 19), .ref (a 21), .ref (a 23), .ref (a 25), .ref (a 27), .ref (a 28), .int hi])), ((a 14), .inr (0, [.ref (a 15), .ref (a 7)])), ((a 15), .inl ((k 15), 98, .inl (o_1.2.2.2.2.1))), ((a 7), .inr (5, [.ref (a 8), .ref (a 9), .int dv])), ((a 8), .inl ((k 8), 8, .inl fu)), ((a 9), .inl ((k 9), 48, .inl fp)), ((a 19), .inr (4, [.ref (a 20), .int (o_1.2.1), .int (o_1.2.2.1)])), ((a 20), .inl ((k 20), 3920, .inl (o_1.2.2.2.2.2.1))), ((a 21), .inr (1, [.ref (a 22), .int (o_1.2.2.2.1)])), ((a 22), .inl ((k 22), 300, .inl (o_1.2.2.2.2.2.2))), ((a 28), .inl ((k 28), 4, .inl (o_3.2)))]) [0, 1, 2, 3, 4, 5, 6, 7, 8, 9, 10] rfl
    have hD9 := hD.sub (ws' := [((a 0), .inr (9, [.ref (a 1), .ref (a 3), .ref (a 4), .ref (a 7), .ref (a 10), .ref (a 14), .ref (a 16), .ref (a 18), .ref (a 19), .ref (a 21), .ref (a 23), .ref (a 25), .ref (a 27), .ref (a 28), .int hi])), ((a 14), .inr (0, [.ref (a 15), .ref (a 7)])), ((a 15), .inl ((k 15), 98, .inl (o_1.2.2.2.2.1))), ((a 7), .inr (5, [.ref (a 8), .ref (a 9), .int dv])), ((a 8), .inl ((k 8), 8, .inl fu)), ((a 9), .inl ((k 9), 48, .inl fp)), ((a 19), .inr (4, [.ref (a 20), .int (o_1.2.1), .int (o_1.2.2.1)])), ((a 20), .inl ((k 20), 3920, .inl (o_1.2.2.2.2.2.1))), ((a 21), .inr (1, [.ref (a 22), .int (o_1.2.2.2.1)])), ((a 22), .inl ((k 22), 300, .inl (o_1.2.2.2.2.2.2))), ((a 28), .inl ((k 28), 4, .inl (o_3.2)))]) [0, 1, 2, 3, 4, 5, 6, 7, 8, 9, 10] (by decide) rfl
    have hK9 := hK.sub (tys' := [((k 15), .int), ((k 8), .int), ((k 9), .int), ((k 20), .int), ((k 22), .int), ((k 28), .int)]) [0, 1, 2, 3, 4, 5] rfl
    exact W.iret (v := o_6) hx hb hr (fun t ht hW => ⟨⟨o_6, (), rfl, ⟨rfl, trivial⟩, by rw [ht]; exact hP9, va_K.moved hW.alike hK9, hD9⟩, hS.F ht⟩) hS.2.2 dX9_tick_31

def F_X9_supply (dv : Int32) (nx : Int32) (ph : Int32) (tt : Int32) (fu : Nat → Int32) (fp : Nat → Int32) (fr : Nat → Int32) (fq : Nat → Int32) (fd : Nat → Int32) (fz : Nat → Int32) (z1 : Int32) : Option (Int32 × Int32 × Int32 × Int32 × (Nat → Int32) × (Nat → Int32) × (Nat → Int32) × (Nat → Int32)) := ((F_X9_attempt dv nx ph tt fr fu fp fq fd 1 3 z1 (-1) (-1)).bind fun o_1 => ((F_X9_isDone fz o_1.1).bind fun o_3 => (if o_3.1 = 0 then some ((-1), (o_1.2.1), (o_1.2.2.1), (o_1.2.2.2.1), (o_1.2.2.2.2.1), (o_1.2.2.2.2.2.1), (o_1.2.2.2.2.2.2), (o_3.2)) else ((F_X5_has dv z1).bind fun o_6 => (if o_6 = 0 then some ((-1), (o_1.2.1), (o_1.2.2.1), (o_1.2.2.2.1), (o_1.2.2.2.2.1), (o_1.2.2.2.2.2.1), (o_1.2.2.2.2.2.2), (o_3.2)) else (if (72 + z1) < 0 ∨ 98 ≤ ((72 + z1)).toNatClampNeg then none else some (((o_1.2.2.2.2.1) (72 + z1).toNatClampNeg), (o_1.2.1), (o_1.2.2.1), (o_1.2.2.2.1), (o_1.2.2.2.2.1), (o_1.2.2.2.2.2.1), (o_1.2.2.2.2.2.2), (o_3.2))))))))
set_option maxHeartbeats 4000000 in
set_option maxRecDepth 100000 in
theorem c_X9_supply (l : Launch) (dC : Nat → ClassId) (dI : Nat → Nat → Nat) (a : Nat → Nat) (k : Nat → ClassId) (dv : Int32) (nx : Int32) (ph : Int32) (tt : Int32) (hi : Int32) (fu : Nat → Int32) (fp : Nat → Int32) (fr : Nat → Int32) (fq : Nat → Int32) (fd : Nat → Int32) (fz : Nat → Int32) (z1 : Int32) (A : Nat → Prop) (o : Int32 × Int32 × Int32 × Int32 × (Nat → Int32) × (Nat → Int32) × (Nat → Int32) × (Nat → Int32)) (hG : F_X9_supply dv nx ph tt fu fp fr fq fd fz z1 = some o) : Met l yX9_supply (.code yX9_supply cX9_supply 3 (some .int) :: wA) ({ frames := 6, cells := 0, slots := 0, locals := 144 }) (va_Pc [.ref (a 0), .int z1] (q_W (dC, dI) A [((a 0), .inr (9, [.ref (a 1), .ref (a 3), .ref (a 4), .ref (a 7), .ref (a 10), .ref (a 14), .ref (a 16), .ref (a 18), .ref (a 19), .ref (a 21), .ref (a 23), .ref (a 25), .ref (a 27), .ref (a 28), .int hi])), ((a 14), .inr (0, [.ref (a 15), .ref (a 7)])), ((a 15), .inl ((k 15), 98, .inl fr)), ((a 7), .inr (5, [.ref (a 8), .ref (a 9), .int dv])), ((a 8), .inl ((k 8), 8, .inl fu)), ((a 9), .inl ((k 9), 48, .inl fp)), ((a 19), .inr (4, [.ref (a 20), .int nx, .int ph])), ((a 20), .inl ((k 20), 3920, .inl fq)), ((a 21), .inr (1, [.ref (a 22), .int tt])), ((a 22), .inl ((k 22), 300, .inl fd)), ((a 28), .inl ((k 28), 4, .inl fz))] [((k 15), .int), ((k 8), .int), ((k 9), .int), ((k 20), .int), ((k 22), .int), ((k 28), .int)])) (va_Qi (fun (r : Int32) (_ : Unit) => r = o.1 ∧ True) (fun (_ : Unit) t => q_B (dC, dI) A [((a 0), .inr (9, [.ref (a 1), .ref (a 3), .ref (a 4), .ref (a 7), .ref (a 10), .ref (a 14), .ref (a 16), .ref (a 18), .ref (a 19), .ref (a 21), .ref (a 23), .ref (a 25), .ref (a 27), .ref (a 28), .int hi])), ((a 14), .inr (0, [.ref (a 15), .ref (a 7)])), ((a 15), .inl ((k 15), 98, .inl (o.2.2.2.2.1))), ((a 7), .inr (5, [.ref (a 8), .ref (a 9), .int dv])), ((a 8), .inl ((k 8), 8, .inl fu)), ((a 9), .inl ((k 9), 48, .inl fp)), ((a 19), .inr (4, [.ref (a 20), .int (o.2.1), .int (o.2.2.1)])), ((a 20), .inl ((k 20), 3920, .inl (o.2.2.2.2.2.1))), ((a 21), .inr (1, [.ref (a 22), .int (o.2.2.2.1)])), ((a 22), .inl ((k 22), 300, .inl (o.2.2.2.2.2.2.1))), ((a 28), .inl ((k 28), 4, .inl (o.2.2.2.2.2.2.2)))] [((k 15), .int), ((k 8), .int), ((k 9), .int), ((k 20), .int), ((k 22), .int), ((k 28), .int)] t) A) 0 0 A := by
  refine Met.ofW (cc := cX9_supply) (maxL := 3) (ret := (some .int)) (by decide) rfl ?_
  intro p e s m args below meth c s₁ B hml hv
  obtain ⟨rfl, hP, hK, hD, hA⟩ := hv
  have hx := B.exec
  have hb := B.bytes
  have hr := B.returns
  have hts := atoms_spec (ws := .code yX9_supply cX9_supply 3 (some .int) :: wA) B.pre
  have hown : s.vm.findClass RX9 = some m.cls := findClass_of_methodNamed B.named
  have hlocks := B.notSynchronized
  have hS : va_S A s.heap s.heap [] := va_S.rf
  have hl := lv_entry ([.ref (a 0), .int z1]) (n := 3) (Nat.le_of_ble_eq_true rfl)
  rw [lg_entry_eq]
  generalize (lg_sl ([.ref (a 0), .int z1]) ++ List.replicate (3 - (lg_sl ([.ref (a 0), .int z1])).length) Slot.unset).toArray = ls at hl ⊢
  have hl : lv_has ls 3 [(0, .ref (a 0)), (1, .int z1)] := hl
  unfold F_X9_supply at hG
  refine lv_aload_n hx hb dX9_supply_0 rfl (lv_at hl 0 rfl) ?_
  refine lv_aload_n hx hb dX9_supply_1 rfl (lv_at hl 0 rfl) ?_
  refine lv_aload_n hx hb dX9_supply_2 rfl (lv_at hl 0 rfl) ?_
  refine va_get (D := (dC, dI)) (ci := 9) (v := .ref (a 14)) (C := RX9) (T := TX9) (N := 15) hx hb hts iA_9 hown hK hP 0 rfl rfl 5 (by decide) (hts (.fieldLink RX9 47 "HubTree" "now" "LHubTree$Bus;") (List.mem_cons_of_mem _ m_34)) (fun _ h9 => h9) rfl dX9_supply_3 ?_
  refine lv_iconst (v := 1) hx hb dX9_supply_6 (by decide) ?_
  refine lv_iconst (v := 3) hx hb dX9_supply_7 (by decide) ?_
  refine lv_iload_n hx hb dX9_supply_8 rfl (lv_at hl 1 rfl) ?_
  refine lv_iconst (v := (-1)) hx hb dX9_supply_9 (by decide) ?_
  refine lv_iconst (v := (-1)) hx hb dX9_supply_10 (by decide) ?_
  obtain ⟨o_1, r_2, hG⟩ := q_bi hG
  refine q_goi2 (v := o_1.1) (wr := [((a 28), .inl ((k 28), 4, .inl fz))]) (va_runV (As := [.ref (a 14), .int 1, .int 3, .int z1, .int (-1), .int (-1)]) (rest := [.ref (a 0)]) ⟨hx, hb, hml, hown, hts⟩ (c_X9_attempt l dC dI a k (a 14) (a 15) (k 15) hi dv nx ph tt fr fu fp fq fd 1 3 z1 (-1) (-1) (va_A [((a 0), .inr (9, [.ref (a 1), .ref (a 3), .ref (a 4), .ref (a 7), .ref (a 10), .ref (a 14), .ref (a 16), .ref (a 18), .ref (a 19), .ref (a 21), .ref (a 23), .ref (a 25), .ref (a 27), .ref (a 28), .int hi])), ((a 14), .inr (0, [.ref (a 15), .ref (a 7)])), ((a 15), .inl ((k 15), 98, .inl fr)), ((a 7), .inr (5, [.ref (a 8), .ref (a 9), .int dv])), ((a 8), .inl ((k 8), 8, .inl fu)), ((a 9), .inl ((k 9), 48, .inl fp)), ((a 19), .inr (4, [.ref (a 20), .int nx, .int ph])), ((a 20), .inl ((k 20), 3920, .inl fq)), ((a 21), .inr (1, [.ref (a 22), .int tt])), ((a 22), .inl ((k 22), 300, .inl fd))] s.heap.size) o_1 r_2) (cwV 6 hts (q_gV m_722 m_723 m_724 m_2 m_725) rfl rfl rfl hdV_yX9_attempt_6 ⟨Nat.le_of_ble_eq_true rfl, Nat.le_of_ble_eq_true rfl⟩) (q_preWV hK hP hD (q := (RX9, TX9, 15)) (ci := 9) (q0 := 0) rfl rfl [0, 1, 2, 3, 4, 5, 6, 7, 8, 9] (by decide) rfl rfl [0, 1, 2, 3, 4] rfl) rfl rfl hl.1 rfl (lv_room (Nat.le_of_ble_eq_true rfl)) dX9_supply_11 ⟨Nat.le_of_ble_eq_true rfl, Nat.le_of_ble_eq_true rfl⟩) hK hP hD hS hA [0, 1, 2, 3, 4, 5, 6, 7, 8, 9] [10] rfl rfl (by decide) (by decide) (fun _ H locs _ hP hD hK9 hS => ?_)
  have hP : va_P (dC, dI) vwCl [((a 0), .inr (9, [.ref (a 1), .ref (a 3), .ref (a 4), .ref (a 7), .ref (a 10), .ref (a 14), .ref (a 16), .ref (a 18), .ref (a 19), .ref (a 21), .ref (a 23), .ref (a 25), .ref (a 27), .ref (a 28), .int hi])), ((a 14), .inr (0, [.ref (a 15), .ref (a 7)])), ((a 15), .inl ((k 15), 98, .inl (o_1.2.2.2.2.1))), ((a 7), .inr (5, [.ref (a 8), .ref (a 9), .int dv])), ((a 8), .inl ((k 8), 8, .inl fu)), ((a 9), .inl ((k 9), 48, .inl fp)), ((a 19), .inr (4, [.ref (a 20), .int (o_1.2.1), .int (o_1.2.2.1)])), ((a 20), .inl ((k 20), 3920, .inl (o_1.2.2.2.2.2.1))), ((a 21), .inr (1, [.ref (a 22), .int (o_1.2.2.2.1)])), ((a 22), .inl ((k 22), 300, .inl (o_1.2.2.2.2.2.2))), ((a 28), .inl ((k 28), 4, .inl fz))] H := hP.sub [1, 2, 3, 4, 5, 6, 7, 8, 9, 10, 0] rfl
  have hD : va_D A [((a 0), .inr (9, [.ref (a 1), .ref (a 3), .ref (a 4), .ref (a 7), .ref (a 10), .ref (a 14), .ref (a 16), .ref (a 18), .ref (a 19), .ref (a 21), .ref (a 23), .ref (a 25), .ref (a 27), .ref (a 28), .int hi])), ((a 14), .inr (0, [.ref (a 15), .ref (a 7)])), ((a 15), .inl ((k 15), 98, .inl (o_1.2.2.2.2.1))), ((a 7), .inr (5, [.ref (a 8), .ref (a 9), .int dv])), ((a 8), .inl ((k 8), 8, .inl fu)), ((a 9), .inl ((k 9), 48, .inl fp)), ((a 19), .inr (4, [.ref (a 20), .int (o_1.2.1), .int (o_1.2.2.1)])), ((a 20), .inl ((k 20), 3920, .inl (o_1.2.2.2.2.2.1))), ((a 21), .inr (1, [.ref (a 22), .int (o_1.2.2.2.1)])), ((a 22), .inl ((k 22), 300, .inl (o_1.2.2.2.2.2.2))), ((a 28), .inl ((k 28), 4, .inl fz))] := hD.sub [1, 2, 3, 4, 5, 6, 7, 8, 9, 10, 0] (by decide) rfl
  obtain ⟨o_3, r_4, hG⟩ := q_bi hG
  refine q_goi2 (v := o_3.1) (wr := [((a 14), .inr (0, [.ref (a 15), .ref (a 7)])), ((a 15), .inl ((k 15), 98, .inl (o_1.2.2.2.2.1))), ((a 7), .inr (5, [.ref (a 8), .ref (a 9), .int dv])), ((a 8), .inl ((k 8), 8, .inl fu)), ((a 9), .inl ((k 9), 48, .inl fp)), ((a 19), .inr (4, [.ref (a 20), .int (o_1.2.1), .int (o_1.2.2.1)])), ((a 20), .inl ((k 20), 3920, .inl (o_1.2.2.2.2.2.1))), ((a 21), .inr (1, [.ref (a 22), .int (o_1.2.2.2.1)])), ((a 22), .inl ((k 22), 300, .inl (o_1.2.2.2.2.2.2)))]) (va_runV (As := [.int o_1.1]) (rest := []) ⟨hx, hb, hml, hown, hts⟩ (c_X9_isDone l dC dI a k hi fz o_1.1 (va_A [((a 0), .inr (9, [.ref (a 1), .ref (a 3), .ref (a 4), .ref (a 7), .ref (a 10), .ref (a 14), .ref (a 16), .ref (a 18), .ref (a 19), .ref (a 21), .ref (a 23), .ref (a 25), .ref (a 27), .ref (a 28), .int hi])), ((a 28), .inl ((k 28), 4, .inl fz))] H.size) o_3 r_4) (cwV 1 hts (q_gV m_889 m_890 m_891 m_2 m_892) rfl rfl rfl hdV_yX9_isDone_1 ⟨Nat.le_of_ble_eq_true rfl, Nat.le_of_ble_eq_true rfl⟩) (q_preWV hK hP hD (q := (RX9, TX9, 15)) (ci := 9) (q0 := 0) rfl rfl [0, 10] (by decide) rfl rfl [5] rfl) rfl rfl hl.1 rfl (lv_room (Nat.le_of_ble_eq_true rfl)) dX9_supply_14 ⟨Nat.le_of_ble_eq_true rfl, Nat.le_of_ble_eq_true rfl⟩) hK hP hD hS hA [0, 10] [1, 2, 3, 4, 5, 6, 7, 8, 9] rfl rfl (by decide) (by decide) (fun _ H locs _ hP hD hK9 hS => ?_)
  have hP : va_P (dC, dI) vwCl [((a 0), .inr (9, [.ref (a 1), .ref (a 3), .ref (a 4), .ref (a 7), .ref (a 10), .ref (a 14), .ref (a 16), .ref (a 18), .ref (a 19), .ref (a 21), .ref (a 23), .ref (a 25), .ref (a 27), .ref (a 28), .int hi])), ((a 14), .inr (0, [.ref (a 15), .ref (a 7)])), ((a 15), .inl ((k 15), 98, .inl (o_1.2.2.2.2.1))), ((a 7), .inr (5, [.ref (a 8), .ref (a 9), .int dv])), ((a 8), .inl ((k 8), 8, .inl fu)), ((a 9), .inl ((k 9), 48, .inl fp)), ((a 19), .inr (4, [.ref (a 20), .int (o_1.2.1), .int (o_1.2.2.1)])), ((a 20), .inl ((k 20), 3920, .inl (o_1.2.2.2.2.2.1))), ((a 21), .inr (1, [.ref (a 22), .int (o_1.2.2.2.1)])), ((a 22), .inl ((k 22), 300, .inl (o_1.2.2.2.2.2.2))), ((a 28), .inl ((k 28), 4, .inl (o_3.2)))] H := hP.sub [9, 0, 1, 2, 3, 4, 5, 6, 7, 8, 10] rfl
  have hD : va_D A [((a 0), .inr (9, [.ref (a 1), .ref (a 3), .ref (a 4), .ref (a 7), .ref (a 10), .ref (a 14), .ref (a 16), .ref (a 18), .ref (a 19), .ref (a 21), .ref (a 23), .ref (a 25), .ref (a 27), .ref (a 28), .int hi])), ((a 14), .inr (0, [.ref (a 15), .ref (a 7)])), ((a 15), .inl ((k 15), 98, .inl (o_1.2.2.2.2.1))), ((a 7), .inr (5, [.ref (a 8), .ref (a 9), .int dv])), ((a 8), .inl ((k 8), 8, .inl fu)), ((a 9), .inl ((k 9), 48, .inl fp)), ((a 19), .inr (4, [.ref (a 20), .int (o_1.2.1), .int (o_1.2.2.1)])), ((a 20), .inl ((k 20), 3920, .inl (o_1.2.2.2.2.2.1))), ((a 21), .inr (1, [.ref (a 22), .int (o_1.2.2.2.1)])), ((a 22), .inl ((k 22), 300, .inl (o_1.2.2.2.2.2.2))), ((a 28), .inl ((k 28), 4, .inl (o_3.2)))] := hD.sub [9, 0, 1, 2, 3, 4, 5, 6, 7, 8, 10] (by decide) rfl
  refine lv_istore_n (lv' := [(2, .int o_3.1), (0, .ref (a 0)), (1, .int z1)]) hx hb dX9_supply_17 rfl hl (by decide) rfl (fun ls hl => ?_)
  refine lv_iload_n hx hb dX9_supply_18 rfl (lv_at hl 0 rfl) ?_
  refine lv_if_eq (tgt := 48) hx hb dX9_supply_19 (by decide) (fun c_5 => ?_) (fun c_5 => ?_)
  · have hG := q_ifp c_5 hG
    refine lv_iconst (v := (-1)) hx hb dX9_supply_48 (by decide) ?_
    obtain rfl := Option.some.inj hG
    have hP9 := hP.sub (ws' := [((a 0), .inr (9, [.ref (a 1), .ref (a 3), .ref (a 4), .ref (a 7), .ref (a 10), .ref (a 14), .ref (a 16), .ref (a 18), .ref (a 19), .ref (a 21), .ref (a 23), .ref (a 25), .ref (a 27), .ref (a 28), .int hi])), ((a 14), .inr (0, [.ref (a 15), .ref (a 7)])), ((a 15), .inl ((k 15), 98, .inl (o_1.2.2.2.2.1))), ((a 7), .inr (5, [.ref (a 8), .ref (a 9), .int dv])), ((a 8), .inl ((k 8), 8, .inl fu)), ((a 9), .inl ((k 9), 48, .inl fp)), ((a 19), .inr (4, [.ref (a 20), .int (o_1.2.1), .int (o_1.2.2.1)])), ((a 20), .inl ((k 20), 3920, .inl (o_1.2.2.2.2.2.1))), ((a 21), .inr (1, [.ref (a 22), .int (o_1.2.2.2.1)])), ((a 22), .inl ((k 22), 300, .inl (o_1.2.2.2.2.2.2))), ((a 28), .inl ((k 28), 4, .inl (o_3.2)))]) [0, 1, 2, 3, 4, 5, 6, 7, 8, 9, 10] rfl
    have hD9 := hD.sub (ws' := [((a 0), .inr (9, [.ref (a 1), .ref (a 3), .ref (a 4), .ref (a 7), .ref (a 10), .ref (a 14), .ref (a 16), .ref (a 18), .ref (a 19), .ref (a 21), .ref (a 23), .ref (a 25), .ref (a 27), .ref (a 28), .int hi])), ((a 14), .inr (0, [.ref (a 15), .ref (a 7)])), ((a 15), .inl ((k 15), 98, .inl (o_1.2.2.2.2.1))), ((a 7), .inr (5, [.ref (a 8), .ref (a 9), .int dv])), ((a 8), .inl ((k 8), 8, .inl fu)), ((a 9), .inl ((k 9), 48, .inl fp)), ((a 19), .inr (4, [.ref (a 20), .int (o_1.2.1), .int (o_1.2.2.1)])), ((a 20), .inl ((k 20), 3920, .inl (o_1.2.2.2.2.2.1))), ((a 21), .inr (1, [.ref (a 22), .int (o_1.2.2.2.1)])), ((a 22), .inl ((k 22), 300, .inl (o_1.2.2.2.2.2.2))), ((a 28), .inl ((k 28), 4, .inl (o_3.2)))]) [0, 1, 2, 3, 4, 5, 6, 7, 8, 9, 10] (by decide) rfl
    have hK9 := hK.sub (tys' := [((k 15), .int), ((k 8), .int), ((k 9), .int), ((k 20), .int), ((k 22), .int), ((k 28), .int)]) [0, 1, 2, 3, 4, 5] rfl
    exact W.iret (v := (-1)) hx hb hr (fun t ht hW => ⟨⟨(-1), (), rfl, ⟨rfl, trivial⟩, by rw [ht]; exact hP9, va_K.moved hW.alike hK9, hD9⟩, hS.F ht⟩) hS.2.2 dX9_supply_49
  · have hG := q_ifn c_5 hG
    refine lv_aload_n hx hb dX9_supply_22 rfl (lv_at hl 1 rfl) ?_
    refine va_get (D := (dC, dI)) (ci := 9) (v := .ref (a 7)) (C := RX9) (T := TX9) (N := 15) hx hb hts iA_9 hown hK hP 0 rfl rfl 3 (by decide) (hts (.fieldLink RX9 32 "HubTree" "plan" "LHubTree$Plan;") (List.mem_cons_of_mem _ m_26)) (fun _ h9 => h9) rfl dX9_supply_23 ?_
    refine lv_iload_n hx hb dX9_supply_26 rfl (lv_at hl 2 rfl) ?_
    obtain ⟨o_6, r_7, hG⟩ := q_bi hG
    refine q_goi (v := o_6) (va_runV (As := [.int z1]) (rest := []) ⟨hx, hb, hml, hown, hts⟩ (c_X5_has l dC dI (a 7) (a 8) (a 9) dv z1 o_6 r_7) (cwV 1 hts (q_gV m_464 m_465 m_466 m_24 m_467) rfl rfl rfl hdV_yX5_has_1 ⟨Nat.le_of_ble_eq_true rfl, Nat.le_of_ble_eq_true rfl⟩) (q_preV hK hP (q := (RX5, TX5, 3)) (ci := 5) (q0 := 3) rfl rfl [3] rfl [] rfl) rfl rfl hl.1 rfl (lv_room (Nat.le_of_ble_eq_true rfl)) dX9_supply_27 ⟨Nat.le_of_ble_eq_true rfl, Nat.le_of_ble_eq_true rfl⟩) hP hS (fun H locs hP hS => ?_)
    refine lv_if_eq (tgt := 48) hx hb dX9_supply_30 (by decide) (fun c_8 => ?_) (fun c_8 => ?_)
    · have hG := q_ifp c_8 hG
      refine lv_iconst (v := (-1)) hx hb dX9_supply_48 (by decide) ?_
      obtain rfl := Option.some.inj hG
      have hP9 := hP.sub (ws' := [((a 0), .inr (9, [.ref (a 1), .ref (a 3), .ref (a 4), .ref (a 7), .ref (a 10), .ref (a 14), .ref (a 16), .ref (a 18), .ref (a 19), .ref (a 21), .ref (a 23), .ref (a 25), .ref (a 27), .ref (a 28), .int hi])), ((a 14), .inr (0, [.ref (a 15), .ref (a 7)])), ((a 15), .inl ((k 15), 98, .inl (o_1.2.2.2.2.1))), ((a 7), .inr (5, [.ref (a 8), .ref (a 9), .int dv])), ((a 8), .inl ((k 8), 8, .inl fu)), ((a 9), .inl ((k 9), 48, .inl fp)), ((a 19), .inr (4, [.ref (a 20), .int (o_1.2.1), .int (o_1.2.2.1)])), ((a 20), .inl ((k 20), 3920, .inl (o_1.2.2.2.2.2.1))), ((a 21), .inr (1, [.ref (a 22), .int (o_1.2.2.2.1)])), ((a 22), .inl ((k 22), 300, .inl (o_1.2.2.2.2.2.2))), ((a 28), .inl ((k 28), 4, .inl (o_3.2)))]) [0, 1, 2, 3, 4, 5, 6, 7, 8, 9, 10] rfl
      have hD9 := hD.sub (ws' := [((a 0), .inr (9, [.ref (a 1), .ref (a 3), .ref (a 4), .ref (a 7), .ref (a 10), .ref (a 14), .ref (a 16), .ref (a 18), .ref (a 19), .ref (a 21), .ref (a 23), .ref (a 25), .ref (a 27), .ref (a 28), .int hi])), ((a 14), .inr (0, [.ref (a 15), .ref (a 7)])), ((a 15), .inl ((k 15), 98, .inl (o_1.2.2.2.2.1))), ((a 7), .inr (5, [.ref (a 8), .ref (a 9), .int dv])), ((a 8), .inl ((k 8), 8, .inl fu)), ((a 9), .inl ((k 9), 48, .inl fp)), ((a 19), .inr (4, [.ref (a 20), .int (o_1.2.1), .int (o_1.2.2.1)])), ((a 20), .inl ((k 20), 3920, .inl (o_1.2.2.2.2.2.1))), ((a 21), .inr (1, [.ref (a 22), .int (o_1.2.2.2.1)])), ((a 22), .inl ((k 22), 300, .inl (o_1.2.2.2.2.2.2))), ((a 28), .inl ((k 28), 4, .inl (o_3.2)))]) [0, 1, 2, 3, 4, 5, 6, 7, 8, 9, 10] (by decide) rfl
      have hK9 := hK.sub (tys' := [((k 15), .int), ((k 8), .int), ((k 9), .int), ((k 20), .int), ((k 22), .int), ((k 28), .int)]) [0, 1, 2, 3, 4, 5] rfl
      exact W.iret (v := (-1)) hx hb hr (fun t ht hW => ⟨⟨(-1), (), rfl, ⟨rfl, trivial⟩, by rw [ht]; exact hP9, va_K.moved hW.alike hK9, hD9⟩, hS.F ht⟩) hS.2.2 dX9_supply_49
    · have hG := q_ifn c_8 hG
      refine lv_aload_n hx hb dX9_supply_33 rfl (lv_at hl 1 rfl) ?_
      refine va_get (D := (dC, dI)) (ci := 9) (v := .ref (a 14)) (C := RX9) (T := TX9) (N := 15) hx hb hts iA_9 hown hK hP 0 rfl rfl 5 (by decide) (hts (.fieldLink RX9 47 "HubTree" "now" "LHubTree$Bus;") (List.mem_cons_of_mem _ m_34)) (fun _ h9 => h9) rfl dX9_supply_34 ?_
      refine va_get (D := (dC, dI)) (ci := 0) (v := .ref (a 15)) (C := RX0) (T := TX0) (N := 2) hx hb hts iA_0 hown hK hP 1 rfl rfl 0 (by decide) (hts (.fieldLink RX9 157 "HubTree$Bus" "row" "[I") (List.mem_cons_of_mem _ m_462)) (fun _ h9 => h9) rfl dX9_supply_37 ?_
      refine lv_bipush (v := 72) hx hb dX9_supply_40 (by decide) ?_
      refine lv_iload_n hx hb dX9_supply_42 rfl (lv_at hl 2 rfl) ?_
      refine lv_iadd hx hb dX9_supply_43 ?_
      obtain ⟨h_9, hG⟩ := q_ix hG
      refine va_iald hx hb hK hP 2 0 rfl rfl (i := (72 + z1)) h_9 dX9_supply_44 ?_
      refine q_top (y := ((o_1.2.2.2.2.1) (72 + z1).toNatClampNeg)) rfl ?_
      refine lv_goto (tgt := 49) hx hb dX9_supply_45 (by decide) ?_
      obtain rfl := Option.some.inj hG
      have hP9 := hP.sub (ws' := [((a 0), .inr (9, [.ref (a 1), .ref (a 3), .ref (a 4), .ref (a 7), .ref (a 10), .ref (a 14), .ref (a 16), .ref (a 18), .ref (a 19), .ref (a 21), .ref (a 23), .ref (a 25), .ref (a 27), .ref (a 28), .int hi])), ((a 14), .inr (0, [.ref (a 15), .ref (a 7)])), ((a 15), .inl ((k 15), 98, .inl (o_1.2.2.2.2.1))), ((a 7), .inr (5, [.ref (a 8), .ref (a 9), .int dv])), ((a 8), .inl ((k 8), 8, .inl fu)), ((a 9), .inl ((k 9), 48, .inl fp)), ((a 19), .inr (4, [.ref (a 20), .int (o_1.2.1), .int (o_1.2.2.1)])), ((a 20), .inl ((k 20), 3920, .inl (o_1.2.2.2.2.2.1))), ((a 21), .inr (1, [.ref (a 22), .int (o_1.2.2.2.1)])), ((a 22), .inl ((k 22), 300, .inl (o_1.2.2.2.2.2.2))), ((a 28), .inl ((k 28), 4, .inl (o_3.2)))]) [0, 1, 2, 3, 4, 5, 6, 7, 8, 9, 10] rfl
      have hD9 := hD.sub (ws' := [((a 0), .inr (9, [.ref (a 1), .ref (a 3), .ref (a 4), .ref (a 7), .ref (a 10), .ref (a 14), .ref (a 16), .ref (a 18), .ref (a 19), .ref (a 21), .ref (a 23), .ref (a 25), .ref (a 27), .ref (a 28), .int hi])), ((a 14), .inr (0, [.ref (a 15), .ref (a 7)])), ((a 15), .inl ((k 15), 98, .inl (o_1.2.2.2.2.1))), ((a 7), .inr (5, [.ref (a 8), .ref (a 9), .int dv])), ((a 8), .inl ((k 8), 8, .inl fu)), ((a 9), .inl ((k 9), 48, .inl fp)), ((a 19), .inr (4, [.ref (a 20), .int (o_1.2.1), .int (o_1.2.2.1)])), ((a 20), .inl ((k 20), 3920, .inl (o_1.2.2.2.2.2.1))), ((a 21), .inr (1, [.ref (a 22), .int (o_1.2.2.2.1)])), ((a 22), .inl ((k 22), 300, .inl (o_1.2.2.2.2.2.2))), ((a 28), .inl ((k 28), 4, .inl (o_3.2)))]) [0, 1, 2, 3, 4, 5, 6, 7, 8, 9, 10] (by decide) rfl
      have hK9 := hK.sub (tys' := [((k 15), .int), ((k 8), .int), ((k 9), .int), ((k 20), .int), ((k 22), .int), ((k 28), .int)]) [0, 1, 2, 3, 4, 5] rfl
      exact W.iret (v := ((o_1.2.2.2.2.1) (72 + z1).toNatClampNeg)) hx hb hr (fun t ht hW => ⟨⟨((o_1.2.2.2.2.1) (72 + z1).toNatClampNeg), (), rfl, ⟨rfl, trivial⟩, by rw [ht]; exact hP9, va_K.moved hW.alike hK9, hD9⟩, hS.F ht⟩) hS.2.2 dX9_supply_49

def F_X9_error (dv : Int32) (nx : Int32) (ph : Int32) (tt : Int32) (fu : Nat → Int32) (fp : Nat → Int32) (fr : Nat → Int32) (fq : Nat → Int32) (fd : Nat → Int32) (fz : Nat → Int32) (z1 : Int32) (z2 : Int32) : Option (Int32 × Int32 × Int32 × Int32 × (Nat → Int32) × (Nat → Int32) × (Nat → Int32) × (Nat → Int32)) := ((F_X5_has dv z1).bind fun o_1 => (if o_1 = 0 then ((F_X9_attempt dv nx ph tt fr fu fp fq fd 1 4 z1 z2 (-1)).bind fun o_4 => ((F_X9_isDone fz o_4.1).bind fun o_6 => (if o_6.1 = 0 then some ((-1), (o_4.2.1), (o_4.2.2.1), (o_4.2.2.2.1), (o_4.2.2.2.2.1), (o_4.2.2.2.2.2.1), (o_4.2.2.2.2.2.2), (o_6.2)) else some ((-1), (o_4.2.1), (o_4.2.2.1), (o_4.2.2.2.1), (o_4.2.2.2.2.1), (o_4.2.2.2.2.2.1), (o_4.2.2.2.2.2.2), (o_6.2))))) else (if (80 + z1) < 0 ∨ 98 ≤ ((80 + z1)).toNatClampNeg then none else ((F_X9_attempt dv nx ph tt fr fu fp fq fd 1 4 z1 z2 (-1)).bind fun o_10 => ((F_X9_isDone fz o_10.1).bind fun o_12 => (if o_12.1 = 0 then some ((-1), (o_10.2.1), (o_10.2.2.1), (o_10.2.2.2.1), (o_10.2.2.2.2.1), (o_10.2.2.2.2.2.1), (o_10.2.2.2.2.2.2), (o_12.2)) else some ((fr (80 + z1).toNatClampNeg), (o_10.2.1), (o_10.2.2.1), (o_10.2.2.2.1), (o_10.2.2.2.2.1), (o_10.2.2.2.2.2.1), (o_10.2.2.2.2.2.2), (o_12.2))))))))
set_option maxHeartbeats 4000000 in
set_option maxRecDepth 100000 in
theorem c_X9_error (l : Launch) (dC : Nat → ClassId) (dI : Nat → Nat → Nat) (a : Nat → Nat) (k : Nat → ClassId) (dv : Int32) (nx : Int32) (ph : Int32) (tt : Int32) (hi : Int32) (fu : Nat → Int32) (fp : Nat → Int32) (fr : Nat → Int32) (fq : Nat → Int32) (fd : Nat → Int32) (fz : Nat → Int32) (z1 : Int32) (z2 : Int32) (A : Nat → Prop) (o : Int32 × Int32 × Int32 × Int32 × (Nat → Int32) × (Nat → Int32) × (Nat → Int32) × (Nat → Int32)) (hG : F_X9_error dv nx ph tt fu fp fr fq fd fz z1 z2 = some o) : Met l yX9_error (.code yX9_error cX9_error 4 (some .int) :: wA) ({ frames := 6, cells := 0, slots := 0, locals := 144 }) (va_Pc [.ref (a 0), .int z1, .int z2] (q_W (dC, dI) A [((a 0), .inr (9, [.ref (a 1), .ref (a 3), .ref (a 4), .ref (a 7), .ref (a 10), .ref (a 14), .ref (a 16), .ref (a 18), .ref (a 19), .ref (a 21), .ref (a 23), .ref (a 25), .ref (a 27), .ref (a 28), .int hi])), ((a 14), .inr (0, [.ref (a 15), .ref (a 7)])), ((a 15), .inl ((k 15), 98, .inl fr)), ((a 7), .inr (5, [.ref (a 8), .ref (a 9), .int dv])), ((a 8), .inl ((k 8), 8, .inl fu)), ((a 9), .inl ((k 9), 48, .inl fp)), ((a 19), .inr (4, [.ref (a 20), .int nx, .int ph])), ((a 20), .inl ((k 20), 3920, .inl fq)), ((a 21), .inr (1, [.ref (a 22), .int tt])), ((a 22), .inl ((k 22), 300, .inl fd)), ((a 28), .inl ((k 28), 4, .inl fz))] [((k 15), .int), ((k 8), .int), ((k 9), .int), ((k 20), .int), ((k 22), .int), ((k 28), .int)])) (va_Qi (fun (r : Int32) (_ : Unit) => r = o.1 ∧ True) (fun (_ : Unit) t => q_B (dC, dI) A [((a 0), .inr (9, [.ref (a 1), .ref (a 3), .ref (a 4), .ref (a 7), .ref (a 10), .ref (a 14), .ref (a 16), .ref (a 18), .ref (a 19), .ref (a 21), .ref (a 23), .ref (a 25), .ref (a 27), .ref (a 28), .int hi])), ((a 14), .inr (0, [.ref (a 15), .ref (a 7)])), ((a 15), .inl ((k 15), 98, .inl (o.2.2.2.2.1))), ((a 7), .inr (5, [.ref (a 8), .ref (a 9), .int dv])), ((a 8), .inl ((k 8), 8, .inl fu)), ((a 9), .inl ((k 9), 48, .inl fp)), ((a 19), .inr (4, [.ref (a 20), .int (o.2.1), .int (o.2.2.1)])), ((a 20), .inl ((k 20), 3920, .inl (o.2.2.2.2.2.1))), ((a 21), .inr (1, [.ref (a 22), .int (o.2.2.2.1)])), ((a 22), .inl ((k 22), 300, .inl (o.2.2.2.2.2.2.1))), ((a 28), .inl ((k 28), 4, .inl (o.2.2.2.2.2.2.2)))] [((k 15), .int), ((k 8), .int), ((k 9), .int), ((k 20), .int), ((k 22), .int), ((k 28), .int)] t) A) 0 0 A := by
  refine Met.ofW (cc := cX9_error) (maxL := 4) (ret := (some .int)) (by decide) rfl ?_
  intro p e s m args below meth c s₁ B hml hv
  obtain ⟨rfl, hP, hK, hD, hA⟩ := hv
  have hx := B.exec
  have hb := B.bytes
  have hr := B.returns
  have hts := atoms_spec (ws := .code yX9_error cX9_error 4 (some .int) :: wA) B.pre
  have hown : s.vm.findClass RX9 = some m.cls := findClass_of_methodNamed B.named
  have hlocks := B.notSynchronized
  have hS : va_S A s.heap s.heap [] := va_S.rf
  have hl := lv_entry ([.ref (a 0), .int z1, .int z2]) (n := 4) (Nat.le_of_ble_eq_true rfl)
  rw [lg_entry_eq]
  generalize (lg_sl ([.ref (a 0), .int z1, .int z2]) ++ List.replicate (4 - (lg_sl ([.ref (a 0), .int z1, .int z2])).length) Slot.unset).toArray = ls at hl ⊢
  have hl : lv_has ls 4 [(0, .ref (a 0)), (1, .int z1), (2, .int z2)] := hl
  unfold F_X9_error at hG
  refine lv_aload_n hx hb dX9_error_0 rfl (lv_at hl 0 rfl) ?_
  refine va_get (D := (dC, dI)) (ci := 9) (v := .ref (a 7)) (C := RX9) (T := TX9) (N := 15) hx hb hts iA_9 hown hK hP 0 rfl rfl 3 (by decide) (hts (.fieldLink RX9 32 "HubTree" "plan" "LHubTree$Plan;") (List.mem_cons_of_mem _ m_26)) (fun _ h9 => h9) rfl dX9_error_1 ?_
  refine lv_iload_n hx hb dX9_error_4 rfl (lv_at hl 1 rfl) ?_
  obtain ⟨o_1, r_2, hG⟩ := q_bi hG
  refine q_goi (v := o_1) (va_runV (As := [.int z1]) (rest := []) ⟨hx, hb, hml, hown, hts⟩ (c_X5_has l dC dI (a 7) (a 8) (a 9) dv z1 o_1 r_2) (cwV 1 hts (q_gV m_464 m_465 m_466 m_24 m_467) rfl rfl rfl hdV_yX5_has_1 ⟨Nat.le_of_ble_eq_true rfl, Nat.le_of_ble_eq_true rfl⟩) (q_preV hK hP (q := (RX5, TX5, 3)) (ci := 5) (q0 := 3) rfl rfl [3] rfl [] rfl) rfl rfl hl.1 rfl (lv_room (Nat.le_of_ble_eq_true rfl)) dX9_error_5 ⟨Nat.le_of_ble_eq_true rfl, Nat.le_of_ble_eq_true rfl⟩) hP hS (fun H locs hP hS => ?_)
  refine lv_if_eq (tgt := 26) hx hb dX9_error_8 (by decide) (fun c_3 => ?_) (fun c_3 => ?_)
  · have hG := q_ifp c_3 hG
    refine lv_iconst (v := (-1)) hx hb dX9_error_26 (by decide) ?_
    refine lv_istore_n (lv' := [(3, .int (-1)), (0, .ref (a 0)), (1, .int z1), (2, .int z2)]) hx hb dX9_error_27 rfl hl (by decide) rfl (fun ls hl => ?_)
    refine lv_aload_n hx hb dX9_error_28 rfl (lv_at hl 1 rfl) ?_
    refine lv_aload_n hx hb dX9_error_29 rfl (lv_at hl 1 rfl) ?_
    refine lv_aload_n hx hb dX9_error_30 rfl (lv_at hl 1 rfl) ?_
    refine va_get (D := (dC, dI)) (ci := 9) (v := .ref (a 14)) (C := RX9) (T := TX9) (N := 15) hx hb hts iA_9 hown hK hP 0 rfl rfl 5 (by decide) (hts (.fieldLink RX9 47 "HubTree" "now" "LHubTree$Bus;") (List.mem_cons_of_mem _ m_34)) (fun _ h9 => h9) rfl dX9_error_31 ?_
    refine lv_iconst (v := 1) hx hb dX9_error_34 (by decide) ?_
    refine lv_iconst (v := 4) hx hb dX9_error_35 (by decide) ?_
    refine lv_iload_n hx hb dX9_error_36 rfl (lv_at hl 2 rfl) ?_
    refine lv_iload_n hx hb dX9_error_37 rfl (lv_at hl 3 rfl) ?_
    refine lv_iconst (v := (-1)) hx hb dX9_error_38 (by decide) ?_
    obtain ⟨o_4, r_5, hG⟩ := q_bi hG
    refine q_goi2 (v := o_4.1) (wr := [((a 28), .inl ((k 28), 4, .inl fz))]) (va_runV (As := [.ref (a 14), .int 1, .int 4, .int z1, .int z2, .int (-1)]) (rest := [.ref (a 0)]) ⟨hx, hb, hml, hown, hts⟩ (c_X9_attempt l dC dI a k (a 14) (a 15) (k 15) hi dv nx ph tt fr fu fp fq fd 1 4 z1 z2 (-1) (va_A [((a 0), .inr (9, [.ref (a 1), .ref (a 3), .ref (a 4), .ref (a 7), .ref (a 10), .ref (a 14), .ref (a 16), .ref (a 18), .ref (a 19), .ref (a 21), .ref (a 23), .ref (a 25), .ref (a 27), .ref (a 28), .int hi])), ((a 14), .inr (0, [.ref (a 15), .ref (a 7)])), ((a 15), .inl ((k 15), 98, .inl fr)), ((a 7), .inr (5, [.ref (a 8), .ref (a 9), .int dv])), ((a 8), .inl ((k 8), 8, .inl fu)), ((a 9), .inl ((k 9), 48, .inl fp)), ((a 19), .inr (4, [.ref (a 20), .int nx, .int ph])), ((a 20), .inl ((k 20), 3920, .inl fq)), ((a 21), .inr (1, [.ref (a 22), .int tt])), ((a 22), .inl ((k 22), 300, .inl fd))] H.size) o_4 r_5) (cwV 6 hts (q_gV m_722 m_723 m_724 m_2 m_725) rfl rfl rfl hdV_yX9_attempt_6 ⟨Nat.le_of_ble_eq_true rfl, Nat.le_of_ble_eq_true rfl⟩) (q_preWV hK hP hD (q := (RX9, TX9, 15)) (ci := 9) (q0 := 0) rfl rfl [0, 1, 2, 3, 4, 5, 6, 7, 8, 9] (by decide) rfl rfl [0, 1, 2, 3, 4] rfl) rfl rfl hl.1 rfl (lv_room (Nat.le_of_ble_eq_true rfl)) dX9_error_39 ⟨Nat.le_of_ble_eq_true rfl, Nat.le_of_ble_eq_true rfl⟩) hK hP hD hS hA [0, 1, 2, 3, 4, 5, 6, 7, 8, 9] [10] rfl rfl (by decide) (by decide) (fun _ H locs _ hP hD hK9 hS => ?_)
    have hP : va_P (dC, dI) vwCl [((a 0), .inr (9, [.ref (a 1), .ref (a 3), .ref (a 4), .ref (a 7), .ref (a 10), .ref (a 14), .ref (a 16), .ref (a 18), .ref (a 19), .ref (a 21), .ref (a 23), .ref (a 25), .ref (a 27), .ref (a 28), .int hi])), ((a 14), .inr (0, [.ref (a 15), .ref (a 7)])), ((a 15), .inl ((k 15), 98, .inl (o_4.2.2.2.2.1))), ((a 7), .inr (5, [.ref (a 8), .ref (a 9), .int dv])), ((a 8), .inl ((k 8), 8, .inl fu)), ((a 9), .inl ((k 9), 48, .inl fp)), ((a 19), .inr (4, [.ref (a 20), .int (o_4.2.1), .int (o_4.2.2.1)])), ((a 20), .inl ((k 20), 3920, .inl (o_4.2.2.2.2.2.1))), ((a 21), .inr (1, [.ref (a 22), .int (o_4.2.2.2.1)])), ((a 22), .inl ((k 22), 300, .inl (o_4.2.2.2.2.2.2))), ((a 28), .inl ((k 28), 4, .inl fz))] H := hP.sub [1, 2, 3, 4, 5, 6, 7, 8, 9, 10, 0] rfl
    have hD : va_D A [((a 0), .inr (9, [.ref (a 1), .ref (a 3), .ref (a 4), .ref (a 7), .ref (a 10), .ref (a 14), .ref (a 16), .ref (a 18), .ref (a 19), .ref (a 21), .ref (a 23), .ref (a 25), .ref (a 27), .ref (a 28), .int hi])), ((a 14), .inr (0, [.ref (a 15), .ref (a 7)])), ((a 15), .inl ((k 15), 98, .inl (o_4.2.2.2.2.1))), ((a 7), .inr (5, [.ref (a 8), .ref (a 9), .int dv])), ((a 8), .inl ((k 8), 8, .inl fu)), ((a 9), .inl ((k 9), 48, .inl fp)), ((a 19), .inr (4, [.ref (a 20), .int (o_4.2.1), .int (o_4.2.2.1)])), ((a 20), .inl ((k 20), 3920, .inl (o_4.2.2.2.2.2.1))), ((a 21), .inr (1, [.ref (a 22), .int (o_4.2.2.2.1)])), ((a 22), .inl ((k 22), 300, .inl (o_4.2.2.2.2.2.2))), ((a 28), .inl ((k 28), 4, .inl fz))] := hD.sub [1, 2, 3, 4, 5, 6, 7, 8, 9, 10, 0] (by decide) rfl
    obtain ⟨o_6, r_7, hG⟩ := q_bi hG
    refine q_goi2 (v := o_6.1) (wr := [((a 14), .inr (0, [.ref (a 15), .ref (a 7)])), ((a 15), .inl ((k 15), 98, .inl (o_4.2.2.2.2.1))), ((a 7), .inr (5, [.ref (a 8), .ref (a 9), .int dv])), ((a 8), .inl ((k 8), 8, .inl fu)), ((a 9), .inl ((k 9), 48, .inl fp)), ((a 19), .inr (4, [.ref (a 20), .int (o_4.2.1), .int (o_4.2.2.1)])), ((a 20), .inl ((k 20), 3920, .inl (o_4.2.2.2.2.2.1))), ((a 21), .inr (1, [.ref (a 22), .int (o_4.2.2.2.1)])), ((a 22), .inl ((k 22), 300, .inl (o_4.2.2.2.2.2.2)))]) (va_runV (As := [.int o_4.1]) (rest := []) ⟨hx, hb, hml, hown, hts⟩ (c_X9_isDone l dC dI a k hi fz o_4.1 (va_A [((a 0), .inr (9, [.ref (a 1), .ref (a 3), .ref (a 4), .ref (a 7), .ref (a 10), .ref (a 14), .ref (a 16), .ref (a 18), .ref (a 19), .ref (a 21), .ref (a 23), .ref (a 25), .ref (a 27), .ref (a 28), .int hi])), ((a 28), .inl ((k 28), 4, .inl fz))] H.size) o_6 r_7) (cwV 1 hts (q_gV m_889 m_890 m_891 m_2 m_892) rfl rfl rfl hdV_yX9_isDone_1 ⟨Nat.le_of_ble_eq_true rfl, Nat.le_of_ble_eq_true rfl⟩) (q_preWV hK hP hD (q := (RX9, TX9, 15)) (ci := 9) (q0 := 0) rfl rfl [0, 10] (by decide) rfl rfl [5] rfl) rfl rfl hl.1 rfl (lv_room (Nat.le_of_ble_eq_true rfl)) dX9_error_42 ⟨Nat.le_of_ble_eq_true rfl, Nat.le_of_ble_eq_true rfl⟩) hK hP hD hS hA [0, 10] [1, 2, 3, 4, 5, 6, 7, 8, 9] rfl rfl (by decide) (by decide) (fun _ H locs _ hP hD hK9 hS => ?_)
    have hP : va_P (dC, dI) vwCl [((a 0), .inr (9, [.ref (a 1), .ref (a 3), .ref (a 4), .ref (a 7), .ref (a 10), .ref (a 14), .ref (a 16), .ref (a 18), .ref (a 19), .ref (a 21), .ref (a 23), .ref (a 25), .ref (a 27), .ref (a 28), .int hi])), ((a 14), .inr (0, [.ref (a 15), .ref (a 7)])), ((a 15), .inl ((k 15), 98, .inl (o_4.2.2.2.2.1))), ((a 7), .inr (5, [.ref (a 8), .ref (a 9), .int dv])), ((a 8), .inl ((k 8), 8, .inl fu)), ((a 9), .inl ((k 9), 48, .inl fp)), ((a 19), .inr (4, [.ref (a 20), .int (o_4.2.1), .int (o_4.2.2.1)])), ((a 20), .inl ((k 20), 3920, .inl (o_4.2.2.2.2.2.1))), ((a 21), .inr (1, [.ref (a 22), .int (o_4.2.2.2.1)])), ((a 22), .inl ((k 22), 300, .inl (o_4.2.2.2.2.2.2))), ((a 28), .inl ((k 28), 4, .inl (o_6.2)))] H := hP.sub [9, 0, 1, 2, 3, 4, 5, 6, 7, 8, 10] rfl
    have hD : va_D A [((a 0), .inr (9, [.ref (a 1), .ref (a 3), .ref (a 4), .ref (a 7), .ref (a 10), .ref (a 14), .ref (a 16), .ref (a 18), .ref (a 19), .ref (a 21), .ref (a 23), .ref (a 25), .ref (a 27), .ref (a 28), .int hi])), ((a 14), .inr (0, [.ref (a 15), .ref (a 7)])), ((a 15), .inl ((k 15), 98, .inl (o_4.2.2.2.2.1))), ((a 7), .inr (5, [.ref (a 8), .ref (a 9), .int dv])), ((a 8), .inl ((k 8), 8, .inl fu)), ((a 9), .inl ((k 9), 48, .inl fp)), ((a 19), .inr (4, [.ref (a 20), .int (o_4.2.1), .int (o_4.2.2.1)])), ((a 20), .inl ((k 20), 3920, .inl (o_4.2.2.2.2.2.1))), ((a 21), .inr (1, [.ref (a 22), .int (o_4.2.2.2.1)])), ((a 22), .inl ((k 22), 300, .inl (o_4.2.2.2.2.2.2))), ((a 28), .inl ((k 28), 4, .inl (o_6.2)))] := hD.sub [9, 0, 1, 2, 3, 4, 5, 6, 7, 8, 10] (by decide) rfl
    refine lv_if_eq (tgt := 52) hx hb dX9_error_45 (by decide) (fun c_8 => ?_) (fun c_8 => ?_)
    · have hG := q_ifp c_8 hG
      refine lv_iconst (v := (-1)) hx hb dX9_error_52 (by decide) ?_
      obtain rfl := Option.some.inj hG
      have hP9 := hP.sub (ws' := [((a 0), .inr (9, [.ref (a 1), .ref (a 3), .ref (a 4), .ref (a 7), .ref (a 10), .ref (a 14), .ref (a 16), .ref (a 18), .ref (a 19), .ref (a 21), .ref (a 23), .ref (a 25), .ref (a 27), .ref (a 28), .int hi])), ((a 14), .inr (0, [.ref (a 15), .ref (a 7)])), ((a 15), .inl ((k 15), 98, .inl (o_4.2.2.2.2.1))), ((a 7), .inr (5, [.ref (a 8), .ref (a 9), .int dv])), ((a 8), .inl ((k 8), 8, .inl fu)), ((a 9), .inl ((k 9), 48, .inl fp)), ((a 19), .inr (4, [.ref (a 20), .int (o_4.2.1), .int (o_4.2.2.1)])), ((a 20), .inl ((k 20), 3920, .inl (o_4.2.2.2.2.2.1))), ((a 21), .inr (1, [.ref (a 22), .int (o_4.2.2.2.1)])), ((a 22), .inl ((k 22), 300, .inl (o_4.2.2.2.2.2.2))), ((a 28), .inl ((k 28), 4, .inl (o_6.2)))]) [0, 1, 2, 3, 4, 5, 6, 7, 8, 9, 10] rfl
      have hD9 := hD.sub (ws' := [((a 0), .inr (9, [.ref (a 1), .ref (a 3), .ref (a 4), .ref (a 7), .ref (a 10), .ref (a 14), .ref (a 16), .ref (a 18), .ref (a 19), .ref (a 21), .ref (a 23), .ref (a 25), .ref (a 27), .ref (a 28), .int hi])), ((a 14), .inr (0, [.ref (a 15), .ref (a 7)])), ((a 15), .inl ((k 15), 98, .inl (o_4.2.2.2.2.1))), ((a 7), .inr (5, [.ref (a 8), .ref (a 9), .int dv])), ((a 8), .inl ((k 8), 8, .inl fu)), ((a 9), .inl ((k 9), 48, .inl fp)), ((a 19), .inr (4, [.ref (a 20), .int (o_4.2.1), .int (o_4.2.2.1)])), ((a 20), .inl ((k 20), 3920, .inl (o_4.2.2.2.2.2.1))), ((a 21), .inr (1, [.ref (a 22), .int (o_4.2.2.2.1)])), ((a 22), .inl ((k 22), 300, .inl (o_4.2.2.2.2.2.2))), ((a 28), .inl ((k 28), 4, .inl (o_6.2)))]) [0, 1, 2, 3, 4, 5, 6, 7, 8, 9, 10] (by decide) rfl
      have hK9 := hK.sub (tys' := [((k 15), .int), ((k 8), .int), ((k 9), .int), ((k 20), .int), ((k 22), .int), ((k 28), .int)]) [0, 1, 2, 3, 4, 5] rfl
      exact W.iret (v := (-1)) hx hb hr (fun t ht hW => ⟨⟨(-1), (), rfl, ⟨rfl, trivial⟩, by rw [ht]; exact hP9, va_K.moved hW.alike hK9, hD9⟩, hS.F ht⟩) hS.2.2 dX9_error_53
    · have hG := q_ifn c_8 hG
      refine lv_iload_n hx hb dX9_error_48 rfl (lv_at hl 0 rfl) ?_
      refine lv_goto (tgt := 53) hx hb dX9_error_49 (by decide) ?_
      obtain rfl := Option.some.inj hG
      have hP9 := hP.sub (ws' := [((a 0), .inr (9, [.ref (a 1), .ref (a 3), .ref (a 4), .ref (a 7), .ref (a 10), .ref (a 14), .ref (a 16), .ref (a 18), .ref (a 19), .ref (a 21), .ref (a 23), .ref (a 25), .ref (a 27), .ref (a 28), .int hi])), ((a 14), .inr (0, [.ref (a 15), .ref (a 7)])), ((a 15), .inl ((k 15), 98, .inl (o_4.2.2.2.2.1))), ((a 7), .inr (5, [.ref (a 8), .ref (a 9), .int dv])), ((a 8), .inl ((k 8), 8, .inl fu)), ((a 9), .inl ((k 9), 48, .inl fp)), ((a 19), .inr (4, [.ref (a 20), .int (o_4.2.1), .int (o_4.2.2.1)])), ((a 20), .inl ((k 20), 3920, .inl (o_4.2.2.2.2.2.1))), ((a 21), .inr (1, [.ref (a 22), .int (o_4.2.2.2.1)])), ((a 22), .inl ((k 22), 300, .inl (o_4.2.2.2.2.2.2))), ((a 28), .inl ((k 28), 4, .inl (o_6.2)))]) [0, 1, 2, 3, 4, 5, 6, 7, 8, 9, 10] rfl
      have hD9 := hD.sub (ws' := [((a 0), .inr (9, [.ref (a 1), .ref (a 3), .ref (a 4), .ref (a 7), .ref (a 10), .ref (a 14), .ref (a 16), .ref (a 18), .ref (a 19), .ref (a 21), .ref (a 23), .ref (a 25), .ref (a 27), .ref (a 28), .int hi])), ((a 14), .inr (0, [.ref (a 15), .ref (a 7)])), ((a 15), .inl ((k 15), 98, .inl (o_4.2.2.2.2.1))), ((a 7), .inr (5, [.ref (a 8), .ref (a 9), .int dv])), ((a 8), .inl ((k 8), 8, .inl fu)), ((a 9), .inl ((k 9), 48, .inl fp)), ((a 19), .inr (4, [.ref (a 20), .int (o_4.2.1), .int (o_4.2.2.1)])), ((a 20), .inl ((k 20), 3920, .inl (o_4.2.2.2.2.2.1))), ((a 21), .inr (1, [.ref (a 22), .int (o_4.2.2.2.1)])), ((a 22), .inl ((k 22), 300, .inl (o_4.2.2.2.2.2.2))), ((a 28), .inl ((k 28), 4, .inl (o_6.2)))]) [0, 1, 2, 3, 4, 5, 6, 7, 8, 9, 10] (by decide) rfl
      have hK9 := hK.sub (tys' := [((k 15), .int), ((k 8), .int), ((k 9), .int), ((k 20), .int), ((k 22), .int), ((k 28), .int)]) [0, 1, 2, 3, 4, 5] rfl
      exact W.iret (v := (-1)) hx hb hr (fun t ht hW => ⟨⟨(-1), (), rfl, ⟨rfl, trivial⟩, by rw [ht]; exact hP9, va_K.moved hW.alike hK9, hD9⟩, hS.F ht⟩) hS.2.2 dX9_error_53
  · have hG := q_ifn c_3 hG
    refine lv_aload_n hx hb dX9_error_11 rfl (lv_at hl 0 rfl) ?_
    refine va_get (D := (dC, dI)) (ci := 9) (v := .ref (a 14)) (C := RX9) (T := TX9) (N := 15) hx hb hts iA_9 hown hK hP 0 rfl rfl 5 (by decide) (hts (.fieldLink RX9 47 "HubTree" "now" "LHubTree$Bus;") (List.mem_cons_of_mem _ m_34)) (fun _ h9 => h9) rfl dX9_error_12 ?_
    refine va_get (D := (dC, dI)) (ci := 0) (v := .ref (a 15)) (C := RX0) (T := TX0) (N := 2) hx hb hts iA_0 hown hK hP 1 rfl rfl 0 (by decide) (hts (.fieldLink RX9 157 "HubTree$Bus" "row" "[I") (List.mem_cons_of_mem _ m_462)) (fun _ h9 => h9) rfl dX9_error_15 ?_
    refine lv_bipush (v := 80) hx hb dX9_error_18 (by decide) ?_
    refine lv_iload_n hx hb dX9_error_20 rfl (lv_at hl 1 rfl) ?_
    refine lv_iadd hx hb dX9_error_21 ?_
    obtain ⟨h_9, hG⟩ := q_ix hG
    refine va_iald hx hb hK hP 2 0 rfl rfl (i := (80 + z1)) h_9 dX9_error_22 ?_
    refine q_top (y := (fr (80 + z1).toNatClampNeg)) rfl ?_
    refine lv_goto (tgt := 27) hx hb dX9_error_23 (by decide) ?_
    refine lv_istore_n (lv' := [(3, .int (fr (80 + z1).toNatClampNeg)), (0, .ref (a 0)), (1, .int z1), (2, .int z2)]) hx hb dX9_error_27 rfl hl (by decide) rfl (fun ls hl => ?_)
    refine lv_aload_n hx hb dX9_error_28 rfl (lv_at hl 1 rfl) ?_
    refine lv_aload_n hx hb dX9_error_29 rfl (lv_at hl 1 rfl) ?_
    refine lv_aload_n hx hb dX9_error_30 rfl (lv_at hl 1 rfl) ?_
    refine va_get (D := (dC, dI)) (ci := 9) (v := .ref (a 14)) (C := RX9) (T := TX9) (N := 15) hx hb hts iA_9 hown hK hP 0 rfl rfl 5 (by decide) (hts (.fieldLink RX9 47 "HubTree" "now" "LHubTree$Bus;") (List.mem_cons_of_mem _ m_34)) (fun _ h9 => h9) rfl dX9_error_31 ?_
    refine lv_iconst (v := 1) hx hb dX9_error_34 (by decide) ?_
    refine lv_iconst (v := 4) hx hb dX9_error_35 (by decide) ?_
    refine lv_iload_n hx hb dX9_error_36 rfl (lv_at hl 2 rfl) ?_
    refine lv_iload_n hx hb dX9_error_37 rfl (lv_at hl 3 rfl) ?_
    refine lv_iconst (v := (-1)) hx hb dX9_error_38 (by decide) ?_
    obtain ⟨o_10, r_11, hG⟩ := q_bi hG
    refine q_goi2 (v := o_10.1) (wr := [((a 28), .inl ((k 28), 4, .inl fz))]) (va_runV (As := [.ref (a 14), .int 1, .int 4, .int z1, .int z2, .int (-1)]) (rest := [.ref (a 0)]) ⟨hx, hb, hml, hown, hts⟩ (c_X9_attempt l dC dI a k (a 14) (a 15) (k 15) hi dv nx ph tt fr fu fp fq fd 1 4 z1 z2 (-1) (va_A [((a 0), .inr (9, [.ref (a 1), .ref (a 3), .ref (a 4), .ref (a 7), .ref (a 10), .ref (a 14), .ref (a 16), .ref (a 18), .ref (a 19), .ref (a 21), .ref (a 23), .ref (a 25), .ref (a 27), .ref (a 28), .int hi])), ((a 14), .inr (0, [.ref (a 15), .ref (a 7)])), ((a 15), .inl ((k 15), 98, .inl fr)), ((a 7), .inr (5, [.ref (a 8), .ref (a 9), .int dv])), ((a 8), .inl ((k 8), 8, .inl fu)), ((a 9), .inl ((k 9), 48, .inl fp)), ((a 19), .inr (4, [.ref (a 20), .int nx, .int ph])), ((a 20), .inl ((k 20), 3920, .inl fq)), ((a 21), .inr (1, [.ref (a 22), .int tt])), ((a 22), .inl ((k 22), 300, .inl fd))] H.size) o_10 r_11) (cwV 6 hts (q_gV m_722 m_723 m_724 m_2 m_725) rfl rfl rfl hdV_yX9_attempt_6 ⟨Nat.le_of_ble_eq_true rfl, Nat.le_of_ble_eq_true rfl⟩) (q_preWV hK hP hD (q := (RX9, TX9, 15)) (ci := 9) (q0 := 0) rfl rfl [0, 1, 2, 3, 4, 5, 6, 7, 8, 9] (by decide) rfl rfl [0, 1, 2, 3, 4] rfl) rfl rfl hl.1 rfl (lv_room (Nat.le_of_ble_eq_true rfl)) dX9_error_39 ⟨Nat.le_of_ble_eq_true rfl, Nat.le_of_ble_eq_true rfl⟩) hK hP hD hS hA [0, 1, 2, 3, 4, 5, 6, 7, 8, 9] [10] rfl rfl (by decide) (by decide) (fun _ H locs _ hP hD hK9 hS => ?_)
    have hP : va_P (dC, dI) vwCl [((a 0), .inr (9, [.ref (a 1), .ref (a 3), .ref (a 4), .ref (a 7), .ref (a 10), .ref (a 14), .ref (a 16), .ref (a 18), .ref (a 19), .ref (a 21), .ref (a 23), .ref (a 25), .ref (a 27), .ref (a 28), .int hi])), ((a 14), .inr (0, [.ref (a 15), .ref (a 7)])), ((a 15), .inl ((k 15), 98, .inl (o_10.2.2.2.2.1))), ((a 7), .inr (5, [.ref (a 8), .ref (a 9), .int dv])), ((a 8), .inl ((k 8), 8, .inl fu)), ((a 9), .inl ((k 9), 48, .inl fp)), ((a 19), .inr (4, [.ref (a 20), .int (o_10.2.1), .int (o_10.2.2.1)])), ((a 20), .inl ((k 20), 3920, .inl (o_10.2.2.2.2.2.1))), ((a 21), .inr (1, [.ref (a 22), .int (o_10.2.2.2.1)])), ((a 22), .inl ((k 22), 300, .inl (o_10.2.2.2.2.2.2))), ((a 28), .inl ((k 28), 4, .inl fz))] H := hP.sub [1, 2, 3, 4, 5, 6, 7, 8, 9, 10, 0] rfl
    have hD : va_D A [((a 0), .inr (9, [.ref (a 1), .ref (a 3), .ref (a 4), .ref (a 7), .ref (a 10), .ref (a 14), .ref (a 16), .ref (a 18), .ref (a 19), .ref (a 21), .ref (a 23), .ref (a 25), .ref (a 27), .ref (a 28), .int hi])), ((a 14), .inr (0, [.ref (a 15), .ref (a 7)])), ((a 15), .inl ((k 15), 98, .inl (o_10.2.2.2.2.1))), ((a 7), .inr (5, [.ref (a 8), .ref (a 9), .int dv])), ((a 8), .inl ((k 8), 8, .inl fu)), ((a 9), .inl ((k 9), 48, .inl fp)), ((a 19), .inr (4, [.ref (a 20), .int (o_10.2.1), .int (o_10.2.2.1)])), ((a 20), .inl ((k 20), 3920, .inl (o_10.2.2.2.2.2.1))), ((a 21), .inr (1, [.ref (a 22), .int (o_10.2.2.2.1)])), ((a 22), .inl ((k 22), 300, .inl (o_10.2.2.2.2.2.2))), ((a 28), .inl ((k 28), 4, .inl fz))] := hD.sub [1, 2, 3, 4, 5, 6, 7, 8, 9, 10, 0] (by decide) rfl
    obtain ⟨o_12, r_13, hG⟩ := q_bi hG
    refine q_goi2 (v := o_12.1) (wr := [((a 14), .inr (0, [.ref (a 15), .ref (a 7)])), ((a 15), .inl ((k 15), 98, .inl (o_10.2.2.2.2.1))), ((a 7), .inr (5, [.ref (a 8), .ref (a 9), .int dv])), ((a 8), .inl ((k 8), 8, .inl fu)), ((a 9), .inl ((k 9), 48, .inl fp)), ((a 19), .inr (4, [.ref (a 20), .int (o_10.2.1), .int (o_10.2.2.1)])), ((a 20), .inl ((k 20), 3920, .inl (o_10.2.2.2.2.2.1))), ((a 21), .inr (1, [.ref (a 22), .int (o_10.2.2.2.1)])), ((a 22), .inl ((k 22), 300, .inl (o_10.2.2.2.2.2.2)))]) (va_runV (As := [.int o_10.1]) (rest := []) ⟨hx, hb, hml, hown, hts⟩ (c_X9_isDone l dC dI a k hi fz o_10.1 (va_A [((a 0), .inr (9, [.ref (a 1), .ref (a 3), .ref (a 4), .ref (a 7), .ref (a 10), .ref (a 14), .ref (a 16), .ref (a 18), .ref (a 19), .ref (a 21), .ref (a 23), .ref (a 25), .ref (a 27), .ref (a 28), .int hi])), ((a 28), .inl ((k 28), 4, .inl fz))] H.size) o_12 r_13) (cwV 1 hts (q_gV m_889 m_890 m_891 m_2 m_892) rfl rfl rfl hdV_yX9_isDone_1 ⟨Nat.le_of_ble_eq_true rfl, Nat.le_of_ble_eq_true rfl⟩) (q_preWV hK hP hD (q := (RX9, TX9, 15)) (ci := 9) (q0 := 0) rfl rfl [0, 10] (by decide) rfl rfl [5] rfl) rfl rfl hl.1 rfl (lv_room (Nat.le_of_ble_eq_true rfl)) dX9_error_42 ⟨Nat.le_of_ble_eq_true rfl, Nat.le_of_ble_eq_true rfl⟩) hK hP hD hS hA [0, 10] [1, 2, 3, 4, 5, 6, 7, 8, 9] rfl rfl (by decide) (by decide) (fun _ H locs _ hP hD hK9 hS => ?_)
    have hP : va_P (dC, dI) vwCl [((a 0), .inr (9, [.ref (a 1), .ref (a 3), .ref (a 4), .ref (a 7), .ref (a 10), .ref (a 14), .ref (a 16), .ref (a 18), .ref (a 19), .ref (a 21), .ref (a 23), .ref (a 25), .ref (a 27), .ref (a 28), .int hi])), ((a 14), .inr (0, [.ref (a 15), .ref (a 7)])), ((a 15), .inl ((k 15), 98, .inl (o_10.2.2.2.2.1))), ((a 7), .inr (5, [.ref (a 8), .ref (a 9), .int dv])), ((a 8), .inl ((k 8), 8, .inl fu)), ((a 9), .inl ((k 9), 48, .inl fp)), ((a 19), .inr (4, [.ref (a 20), .int (o_10.2.1), .int (o_10.2.2.1)])), ((a 20), .inl ((k 20), 3920, .inl (o_10.2.2.2.2.2.1))), ((a 21), .inr (1, [.ref (a 22), .int (o_10.2.2.2.1)])), ((a 22), .inl ((k 22), 300, .inl (o_10.2.2.2.2.2.2))), ((a 28), .inl ((k 28), 4, .inl (o_12.2)))] H := hP.sub [9, 0, 1, 2, 3, 4, 5, 6, 7, 8, 10] rfl
    have hD : va_D A [((a 0), .inr (9, [.ref (a 1), .ref (a 3), .ref (a 4), .ref (a 7), .ref (a 10), .ref (a 14), .ref (a 16), .ref (a 18), .ref (a 19), .ref (a 21), .ref (a 23), .ref (a 25), .ref (a 27), .ref (a 28), .int hi])), ((a 14), .inr (0, [.ref (a 15), .ref (a 7)])), ((a 15), .inl ((k 15), 98, .inl (o_10.2.2.2.2.1))), ((a 7), .inr (5, [.ref (a 8), .ref (a 9), .int dv])), ((a 8), .inl ((k 8), 8, .inl fu)), ((a 9), .inl ((k 9), 48, .inl fp)), ((a 19), .inr (4, [.ref (a 20), .int (o_10.2.1), .int (o_10.2.2.1)])), ((a 20), .inl ((k 20), 3920, .inl (o_10.2.2.2.2.2.1))), ((a 21), .inr (1, [.ref (a 22), .int (o_10.2.2.2.1)])), ((a 22), .inl ((k 22), 300, .inl (o_10.2.2.2.2.2.2))), ((a 28), .inl ((k 28), 4, .inl (o_12.2)))] := hD.sub [9, 0, 1, 2, 3, 4, 5, 6, 7, 8, 10] (by decide) rfl
    refine lv_if_eq (tgt := 52) hx hb dX9_error_45 (by decide) (fun c_14 => ?_) (fun c_14 => ?_)
    · have hG := q_ifp c_14 hG
      refine lv_iconst (v := (-1)) hx hb dX9_error_52 (by decide) ?_
      obtain rfl := Option.some.inj hG
      have hP9 := hP.sub (ws' := [((a 0), .inr (9, [.ref (a 1), .ref (a 3), .ref (a 4), .ref (a 7), .ref (a 10), .ref (a 14), .ref (a 16), .ref (a 18), .ref (a 19), .ref (a 21), .ref (a 23), .ref (a 25), .ref (a 27), .ref (a 28), .int hi])), ((a 14), .inr (0, [.ref (a 15), .ref (a 7)])), ((a 15), .inl ((k 15), 98, .inl (o_10.2.2.2.2.1))), ((a 7), .inr (5, [.ref (a 8), .ref (a 9), .int dv])), ((a 8), .inl ((k 8), 8, .inl fu)), ((a 9), .inl ((k 9), 48, .inl fp)), ((a 19), .inr (4, [.ref (a 20), .int (o_10.2.1), .int (o_10.2.2.1)])), ((a 20), .inl ((k 20), 3920, .inl (o_10.2.2.2.2.2.1))), ((a 21), .inr (1, [.ref (a 22), .int (o_10.2.2.2.1)])), ((a 22), .inl ((k 22), 300, .inl (o_10.2.2.2.2.2.2))), ((a 28), .inl ((k 28), 4, .inl (o_12.2)))]) [0, 1, 2, 3, 4, 5, 6, 7, 8, 9, 10] rfl
      have hD9 := hD.sub (ws' := [((a 0), .inr (9, [.ref (a 1), .ref (a 3), .ref (a 4), .ref (a 7), .ref (a 10), .ref (a 14), .ref (a 16), .ref (a 18), .ref (a 19), .ref (a 21), .ref (a 23), .ref (a 25), .ref (a 27), .ref (a 28), .int hi])), ((a 14), .inr (0, [.ref (a 15), .ref (a 7)])), ((a 15), .inl ((k 15), 98, .inl (o_10.2.2.2.2.1))), ((a 7), .inr (5, [.ref (a 8), .ref (a 9), .int dv])), ((a 8), .inl ((k 8), 8, .inl fu)), ((a 9), .inl ((k 9), 48, .inl fp)), ((a 19), .inr (4, [.ref (a 20), .int (o_10.2.1), .int (o_10.2.2.1)])), ((a 20), .inl ((k 20), 3920, .inl (o_10.2.2.2.2.2.1))), ((a 21), .inr (1, [.ref (a 22), .int (o_10.2.2.2.1)])), ((a 22), .inl ((k 22), 300, .inl (o_10.2.2.2.2.2.2))), ((a 28), .inl ((k 28), 4, .inl (o_12.2)))]) [0, 1, 2, 3, 4, 5, 6, 7, 8, 9, 10] (by decide) rfl
      have hK9 := hK.sub (tys' := [((k 15), .int), ((k 8), .int), ((k 9), .int), ((k 20), .int), ((k 22), .int), ((k 28), .int)]) [0, 1, 2, 3, 4, 5] rfl
      exact W.iret (v := (-1)) hx hb hr (fun t ht hW => ⟨⟨(-1), (), rfl, ⟨rfl, trivial⟩, by rw [ht]; exact hP9, va_K.moved hW.alike hK9, hD9⟩, hS.F ht⟩) hS.2.2 dX9_error_53
    · have hG := q_ifn c_14 hG
      refine lv_iload_n hx hb dX9_error_48 rfl (lv_at hl 0 rfl) ?_
      refine lv_goto (tgt := 53) hx hb dX9_error_49 (by decide) ?_
      obtain rfl := Option.some.inj hG
      have hP9 := hP.sub (ws' := [((a 0), .inr (9, [.ref (a 1), .ref (a 3), .ref (a 4), .ref (a 7), .ref (a 10), .ref (a 14), .ref (a 16), .ref (a 18), .ref (a 19), .ref (a 21), .ref (a 23), .ref (a 25), .ref (a 27), .ref (a 28), .int hi])), ((a 14), .inr (0, [.ref (a 15), .ref (a 7)])), ((a 15), .inl ((k 15), 98, .inl (o_10.2.2.2.2.1))), ((a 7), .inr (5, [.ref (a 8), .ref (a 9), .int dv])), ((a 8), .inl ((k 8), 8, .inl fu)), ((a 9), .inl ((k 9), 48, .inl fp)), ((a 19), .inr (4, [.ref (a 20), .int (o_10.2.1), .int (o_10.2.2.1)])), ((a 20), .inl ((k 20), 3920, .inl (o_10.2.2.2.2.2.1))), ((a 21), .inr (1, [.ref (a 22), .int (o_10.2.2.2.1)])), ((a 22), .inl ((k 22), 300, .inl (o_10.2.2.2.2.2.2))), ((a 28), .inl ((k 28), 4, .inl (o_12.2)))]) [0, 1, 2, 3, 4, 5, 6, 7, 8, 9, 10] rfl
      have hD9 := hD.sub (ws' := [((a 0), .inr (9, [.ref (a 1), .ref (a 3), .ref (a 4), .ref (a 7), .ref (a 10), .ref (a 14), .ref (a 16), .ref (a 18), .ref (a 19), .ref (a 21), .ref (a 23), .ref (a 25), .ref (a 27), .ref (a 28), .int hi])), ((a 14), .inr (0, [.ref (a 15), .ref (a 7)])), ((a 15), .inl ((k 15), 98, .inl (o_10.2.2.2.2.1))), ((a 7), .inr (5, [.ref (a 8), .ref (a 9), .int dv])), ((a 8), .inl ((k 8), 8, .inl fu)), ((a 9), .inl ((k 9), 48, .inl fp)), ((a 19), .inr (4, [.ref (a 20), .int (o_10.2.1), .int (o_10.2.2.1)])), ((a 20), .inl ((k 20), 3920, .inl (o_10.2.2.2.2.2.1))), ((a 21), .inr (1, [.ref (a 22), .int (o_10.2.2.2.1)])), ((a 22), .inl ((k 22), 300, .inl (o_10.2.2.2.2.2.2))), ((a 28), .inl ((k 28), 4, .inl (o_12.2)))]) [0, 1, 2, 3, 4, 5, 6, 7, 8, 9, 10] (by decide) rfl
      have hK9 := hK.sub (tys' := [((k 15), .int), ((k 8), .int), ((k 9), .int), ((k 20), .int), ((k 22), .int), ((k 28), .int)]) [0, 1, 2, 3, 4, 5] rfl
      exact W.iret (v := (fr (80 + z1).toNatClampNeg)) hx hb hr (fun t ht hW => ⟨⟨(fr (80 + z1).toNatClampNeg), (), rfl, ⟨rfl, trivial⟩, by rw [ht]; exact hP9, va_K.moved hW.alike hK9, hD9⟩, hS.F ht⟩) hS.2.2 dX9_error_53

def F_X9_again (dv : Int32) (nx : Int32) (ph : Int32) (tt : Int32) (fu : Nat → Int32) (fp : Nat → Int32) (fr : Nat → Int32) (fq : Nat → Int32) (fd : Nat → Int32) (fz : Nat → Int32) (z1 : Int32) : Option (Int32 × Int32 × Int32 × Int32 × (Nat → Int32) × (Nat → Int32) × (Nat → Int32) × (Nat → Int32)) := ((F_X9_attempt dv nx ph tt fr fu fp fq fd 1 5 z1 (-1) (-1)).bind fun o_1 => ((F_X9_isDone fz o_1.1).bind fun o_3 => (if o_3.1 = 0 then some ((-1), (o_1.2.1), (o_1.2.2.1), (o_1.2.2.2.1), (o_1.2.2.2.2.1), (o_1.2.2.2.2.2.1), (o_1.2.2.2.2.2.2), (o_3.2)) else ((F_X5_has dv z1).bind fun o_6 => (if o_6 = 0 then some ((-1), (o_1.2.1), (o_1.2.2.1), (o_1.2.2.2.1), (o_1.2.2.2.2.1), (o_1.2.2.2.2.2.1), (o_1.2.2.2.2.2.2), (o_3.2)) else (if (16 + z1) < 0 ∨ 98 ≤ ((16 + z1)).toNatClampNeg then none else some (((o_1.2.2.2.2.1) (16 + z1).toNatClampNeg), (o_1.2.1), (o_1.2.2.1), (o_1.2.2.2.1), (o_1.2.2.2.2.1), (o_1.2.2.2.2.2.1), (o_1.2.2.2.2.2.2), (o_3.2))))))))
set_option maxHeartbeats 4000000 in
set_option maxRecDepth 100000 in
theorem c_X9_again (l : Launch) (dC : Nat → ClassId) (dI : Nat → Nat → Nat) (a : Nat → Nat) (k : Nat → ClassId) (dv : Int32) (nx : Int32) (ph : Int32) (tt : Int32) (hi : Int32) (fu : Nat → Int32) (fp : Nat → Int32) (fr : Nat → Int32) (fq : Nat → Int32) (fd : Nat → Int32) (fz : Nat → Int32) (z1 : Int32) (A : Nat → Prop) (o : Int32 × Int32 × Int32 × Int32 × (Nat → Int32) × (Nat → Int32) × (Nat → Int32) × (Nat → Int32)) (hG : F_X9_again dv nx ph tt fu fp fr fq fd fz z1 = some o) : Met l yX9_again (.code yX9_again cX9_again 3 (some .int) :: wA) ({ frames := 6, cells := 0, slots := 0, locals := 144 }) (va_Pc [.ref (a 0), .int z1] (q_W (dC, dI) A [((a 0), .inr (9, [.ref (a 1), .ref (a 3), .ref (a 4), .ref (a 7), .ref (a 10), .ref (a 14), .ref (a 16), .ref (a 18), .ref (a 19), .ref (a 21), .ref (a 23), .ref (a 25), .ref (a 27), .ref (a 28), .int hi])), ((a 14), .inr (0, [.ref (a 15), .ref (a 7)])), ((a 15), .inl ((k 15), 98, .inl fr)), ((a 7), .inr (5, [.ref (a 8), .ref (a 9), .int dv])), ((a 8), .inl ((k 8), 8, .inl fu)), ((a 9), .inl ((k 9), 48, .inl fp)), ((a 19), .inr (4, [.ref (a 20), .int nx, .int ph])), ((a 20), .inl ((k 20), 3920, .inl fq)), ((a 21), .inr (1, [.ref (a 22), .int tt])), ((a 22), .inl ((k 22), 300, .inl fd)), ((a 28), .inl ((k 28), 4, .inl fz))] [((k 15), .int), ((k 8), .int), ((k 9), .int), ((k 20), .int), ((k 22), .int), ((k 28), .int)])) (va_Qi (fun (r : Int32) (_ : Unit) => r = o.1 ∧ True) (fun (_ : Unit) t => q_B (dC, dI) A [((a 0), .inr (9, [.ref (a 1), .ref (a 3), .ref (a 4), .ref (a 7), .ref (a 10), .ref (a 14), .ref (a 16), .ref (a 18), .ref (a 19), .ref (a 21), .ref (a 23), .ref (a 25), .ref (a 27), .ref (a 28), .int hi])), ((a 14), .inr (0, [.ref (a 15), .ref (a 7)])), ((a 15), .inl ((k 15), 98, .inl (o.2.2.2.2.1))), ((a 7), .inr (5, [.ref (a 8), .ref (a 9), .int dv])), ((a 8), .inl ((k 8), 8, .inl fu)), ((a 9), .inl ((k 9), 48, .inl fp)), ((a 19), .inr (4, [.ref (a 20), .int (o.2.1), .int (o.2.2.1)])), ((a 20), .inl ((k 20), 3920, .inl (o.2.2.2.2.2.1))), ((a 21), .inr (1, [.ref (a 22), .int (o.2.2.2.1)])), ((a 22), .inl ((k 22), 300, .inl (o.2.2.2.2.2.2.1))), ((a 28), .inl ((k 28), 4, .inl (o.2.2.2.2.2.2.2)))] [((k 15), .int), ((k 8), .int), ((k 9), .int), ((k 20), .int), ((k 22), .int), ((k 28), .int)] t) A) 0 0 A := by
  refine Met.ofW (cc := cX9_again) (maxL := 3) (ret := (some .int)) (by decide) rfl ?_
  intro p e s m args below meth c s₁ B hml hv
  obtain ⟨rfl, hP, hK, hD, hA⟩ := hv
  have hx := B.exec
  have hb := B.bytes
  have hr := B.returns
  have hts := atoms_spec (ws := .code yX9_again cX9_again 3 (some .int) :: wA) B.pre
  have hown : s.vm.findClass RX9 = some m.cls := findClass_of_methodNamed B.named
  have hlocks := B.notSynchronized
  have hS : va_S A s.heap s.heap [] := va_S.rf
  have hl := lv_entry ([.ref (a 0), .int z1]) (n := 3) (Nat.le_of_ble_eq_true rfl)
  rw [lg_entry_eq]
  generalize (lg_sl ([.ref (a 0), .int z1]) ++ List.replicate (3 - (lg_sl ([.ref (a 0), .int z1])).length) Slot.unset).toArray = ls at hl ⊢
  have hl : lv_has ls 3 [(0, .ref (a 0)), (1, .int z1)] := hl
  unfold F_X9_again at hG
  refine lv_aload_n hx hb dX9_again_0 rfl (lv_at hl 0 rfl) ?_
  refine lv_aload_n hx hb dX9_again_1 rfl (lv_at hl 0 rfl) ?_
  refine lv_aload_n hx hb dX9_again_2 rfl (lv_at hl 0 rfl) ?_
  refine va_get (D := (dC, dI)) (ci := 9) (v := .ref (a 14)) (C := RX9) (T := TX9) (N := 15) hx hb hts iA_9 hown hK hP 0 rfl rfl 5 (by decide) (hts (.fieldLink RX9 47 "HubTree" "now" "LHubTree$Bus;") (List.mem_cons_of_mem _ m_34)) (fun _ h9 => h9) rfl dX9_again_3 ?_
  refine lv_iconst (v := 1) hx hb dX9_again_6 (by decide) ?_
  refine lv_iconst (v := 5) hx hb dX9_again_7 (by decide) ?_
  refine lv_iload_n hx hb dX9_again_8 rfl (lv_at hl 1 rfl) ?_
  refine lv_iconst (v := (-1)) hx hb dX9_again_9 (by decide) ?_
  refine lv_iconst (v := (-1)) hx hb dX9_again_10 (by decide) ?_
  obtain ⟨o_1, r_2, hG⟩ := q_bi hG
  refine q_goi2 (v := o_1.1) (wr := [((a 28), .inl ((k 28), 4, .inl fz))]) (va_runV (As := [.ref (a 14), .int 1, .int 5, .int z1, .int (-1), .int (-1)]) (rest := [.ref (a 0)]) ⟨hx, hb, hml, hown, hts⟩ (c_X9_attempt l dC dI a k (a 14) (a 15) (k 15) hi dv nx ph tt fr fu fp fq fd 1 5 z1 (-1) (-1) (va_A [((a 0), .inr (9, [.ref (a 1), .ref (a 3), .ref (a 4), .ref (a 7), .ref (a 10), .ref (a 14), .ref (a 16), .ref (a 18), .ref (a 19), .ref (a 21), .ref (a 23), .ref (a 25), .ref (a 27), .ref (a 28), .int hi])), ((a 14), .inr (0, [.ref (a 15), .ref (a 7)])), ((a 15), .inl ((k 15), 98, .inl fr)), ((a 7), .inr (5, [.ref (a 8), .ref (a 9), .int dv])), ((a 8), .inl ((k 8), 8, .inl fu)), ((a 9), .inl ((k 9), 48, .inl fp)), ((a 19), .inr (4, [.ref (a 20), .int nx, .int ph])), ((a 20), .inl ((k 20), 3920, .inl fq)), ((a 21), .inr (1, [.ref (a 22), .int tt])), ((a 22), .inl ((k 22), 300, .inl fd))] s.heap.size) o_1 r_2) (cwV 6 hts (q_gV m_722 m_723 m_724 m_2 m_725) rfl rfl rfl hdV_yX9_attempt_6 ⟨Nat.le_of_ble_eq_true rfl, Nat.le_of_ble_eq_true rfl⟩) (q_preWV hK hP hD (q := (RX9, TX9, 15)) (ci := 9) (q0 := 0) rfl rfl [0, 1, 2, 3, 4, 5, 6, 7, 8, 9] (by decide) rfl rfl [0, 1, 2, 3, 4] rfl) rfl rfl hl.1 rfl (lv_room (Nat.le_of_ble_eq_true rfl)) dX9_again_11 ⟨Nat.le_of_ble_eq_true rfl, Nat.le_of_ble_eq_true rfl⟩) hK hP hD hS hA [0, 1, 2, 3, 4, 5, 6, 7, 8, 9] [10] rfl rfl (by decide) (by decide) (fun _ H locs _ hP hD hK9 hS => ?_)
  have hP : va_P (dC, dI) vwCl [((a 0), .inr (9, [.ref (a 1), .ref (a 3), .ref (a 4), .ref (a 7), .ref (a 10), .ref (a 14), .ref (a 16), .ref (a 18), .ref (a 19), .ref (a 21), .ref (a 23), .ref (a 25), .ref (a 27), .ref (a 28), .int hi])), ((a 14), .inr (0, [.ref (a 15), .ref (a 7)])), ((a 15), .inl ((k 15), 98, .inl (o_1.2.2.2.2.1))), ((a 7), .inr (5, [.ref (a 8), .ref (a 9), .int dv])), ((a 8), .inl ((k 8), 8, .inl fu)), ((a 9), .inl ((k 9), 48, .inl fp)), ((a 19), .inr (4, [.ref (a 20), .int (o_1.2.1), .int (o_1.2.2.1)])), ((a 20), .inl ((k 20), 3920, .inl (o_1.2.2.2.2.2.1))), ((a 21), .inr (1, [.ref (a 22), .int (o_1.2.2.2.1)])), ((a 22), .inl ((k 22), 300, .inl (o_1.2.2.2.2.2.2))), ((a 28), .inl ((k 28), 4, .inl fz))] H := hP.sub [1, 2, 3, 4, 5, 6, 7, 8, 9, 10, 0] rfl
  have hD : va_D A [((a 0), .inr (9, [.ref (a 1), .ref (a 3), .ref (a 4), .ref (a 7), .ref (a 10), .ref (a 14), .ref (a 16), .ref (a 18), .ref (a 19), .ref (a 21), .ref (a 23), .ref (a 25), .ref (a 27), .ref (a 28), .int hi])), ((a 14), .inr (0, [.ref (a 15), .ref (a 7)])), ((a 15), .inl ((k 15), 98, .inl (o_1.2.2.2.2.1))), ((a 7), .inr (5, [.ref (a 8), .ref (a 9), .int dv])), ((a 8), .inl ((k 8), 8, .inl fu)), ((a 9), .inl ((k 9), 48, .inl fp)), ((a 19), .inr (4, [.ref (a 20), .int (o_1.2.1), .int (o_1.2.2.1)])), ((a 20), .inl ((k 20), 3920, .inl (o_1.2.2.2.2.2.1))), ((a 21), .inr (1, [.ref (a 22), .int (o_1.2.2.2.1)])), ((a 22), .inl ((k 22), 300, .inl (o_1.2.2.2.2.2.2))), ((a 28), .inl ((k 28), 4, .inl fz))] := hD.sub [1, 2, 3, 4, 5, 6, 7, 8, 9, 10, 0] (by decide) rfl
  obtain ⟨o_3, r_4, hG⟩ := q_bi hG
  refine q_goi2 (v := o_3.1) (wr := [((a 14), .inr (0, [.ref (a 15), .ref (a 7)])), ((a 15), .inl ((k 15), 98, .inl (o_1.2.2.2.2.1))), ((a 7), .inr (5, [.ref (a 8), .ref (a 9), .int dv])), ((a 8), .inl ((k 8), 8, .inl fu)), ((a 9), .inl ((k 9), 48, .inl fp)), ((a 19), .inr (4, [.ref (a 20), .int (o_1.2.1), .int (o_1.2.2.1)])), ((a 20), .inl ((k 20), 3920, .inl (o_1.2.2.2.2.2.1))), ((a 21), .inr (1, [.ref (a 22), .int (o_1.2.2.2.1)])), ((a 22), .inl ((k 22), 300, .inl (o_1.2.2.2.2.2.2)))]) (va_runV (As := [.int o_1.1]) (rest := []) ⟨hx, hb, hml, hown, hts⟩ (c_X9_isDone l dC dI a k hi fz o_1.1 (va_A [((a 0), .inr (9, [.ref (a 1), .ref (a 3), .ref (a 4), .ref (a 7), .ref (a 10), .ref (a 14), .ref (a 16), .ref (a 18), .ref (a 19), .ref (a 21), .ref (a 23), .ref (a 25), .ref (a 27), .ref (a 28), .int hi])), ((a 28), .inl ((k 28), 4, .inl fz))] H.size) o_3 r_4) (cwV 1 hts (q_gV m_889 m_890 m_891 m_2 m_892) rfl rfl rfl hdV_yX9_isDone_1 ⟨Nat.le_of_ble_eq_true rfl, Nat.le_of_ble_eq_true rfl⟩) (q_preWV hK hP hD (q := (RX9, TX9, 15)) (ci := 9) (q0 := 0) rfl rfl [0, 10] (by decide) rfl rfl [5] rfl) rfl rfl hl.1 rfl (lv_room (Nat.le_of_ble_eq_true rfl)) dX9_again_14 ⟨Nat.le_of_ble_eq_true rfl, Nat.le_of_ble_eq_true rfl⟩) hK hP hD hS hA [0, 10] [1, 2, 3, 4, 5, 6, 7, 8, 9] rfl rfl (by decide) (by decide) (fun _ H locs _ hP hD hK9 hS => ?_)
  have hP : va_P (dC, dI) vwCl [((a 0), .inr (9, [.ref (a 1), .ref (a 3), .ref (a 4), .ref (a 7), .ref (a 10), .ref (a 14), .ref (a 16), .ref (a 18), .ref (a 19), .ref (a 21), .ref (a 23), .ref (a 25), .ref (a 27), .ref (a 28), .int hi])), ((a 14), .inr (0, [.ref (a 15), .ref (a 7)])), ((a 15), .inl ((k 15), 98, .inl (o_1.2.2.2.2.1))), ((a 7), .inr (5, [.ref (a 8), .ref (a 9), .int dv])), ((a 8), .inl ((k 8), 8, .inl fu)), ((a 9), .inl ((k 9), 48, .inl fp)), ((a 19), .inr (4, [.ref (a 20), .int (o_1.2.1), .int (o_1.2.2.1)])), ((a 20), .inl ((k 20), 3920, .inl (o_1.2.2.2.2.2.1))), ((a 21), .inr (1, [.ref (a 22), .int (o_1.2.2.2.1)])), ((a 22), .inl ((k 22), 300, .inl (o_1.2.2.2.2.2.2))), ((a 28), .inl ((k 28), 4, .inl (o_3.2)))] H := hP.sub [9, 0, 1, 2, 3, 4, 5, 6, 7, 8, 10] rfl
  have hD : va_D A [((a 0), .inr (9, [.ref (a 1), .ref (a 3), .ref (a 4), .ref (a 7), .ref (a 10), .ref (a 14), .ref (a 16), .ref (a 18), .ref (a 19), .ref (a 21), .ref (a 23), .ref (a 25), .ref (a 27), .ref (a 28), .int hi])), ((a 14), .inr (0, [.ref (a 15), .ref (a 7)])), ((a 15), .inl ((k 15), 98, .inl (o_1.2.2.2.2.1))), ((a 7), .inr (5, [.ref (a 8), .ref (a 9), .int dv])), ((a 8), .inl ((k 8), 8, .inl fu)), ((a 9), .inl ((k 9), 48, .inl fp)), ((a 19), .inr (4, [.ref (a 20), .int (o_1.2.1), .int (o_1.2.2.1)])), ((a 20), .inl ((k 20), 3920, .inl (o_1.2.2.2.2.2.1))), ((a 21), .inr (1, [.ref (a 22), .int (o_1.2.2.2.1)])), ((a 22), .inl ((k 22), 300, .inl (o_1.2.2.2.2.2.2))), ((a 28), .inl ((k 28), 4, .inl (o_3.2)))] := hD.sub [9, 0, 1, 2, 3, 4, 5, 6, 7, 8, 10] (by decide) rfl
  refine lv_istore_n (lv' := [(2, .int o_3.1), (0, .ref (a 0)), (1, .int z1)]) hx hb dX9_again_17 rfl hl (by decide) rfl (fun ls hl => ?_)
  refine lv_iload_n hx hb dX9_again_18 rfl (lv_at hl 0 rfl) ?_
  refine lv_if_eq (tgt := 48) hx hb dX9_again_19 (by decide) (fun c_5 => ?_) (fun c_5 => ?_)
  · have hG := q_ifp c_5 hG
    refine lv_iconst (v := (-1)) hx hb dX9_again_48 (by decide) ?_
    obtain rfl := Option.some.inj hG
    have hP9 := hP.sub (ws' := [((a 0), .inr (9, [.ref (a 1), .ref (a 3), .ref (a 4), .ref (a 7), .ref (a 10), .ref (a 14), .ref (a 16), .ref (a 18), .ref (a 19), .ref (a 21), .ref (a 23), .ref (a 25), .ref (a 27), .ref (a 28), .int hi])), ((a 14), .inr (0, [.ref (a 15), .ref (a 7)])), ((a 15), .inl ((k 15), 98, .inl (o_1.2.2.2.2.1))), ((a 7), .inr (5, [.ref (a 8), .ref (a 9), .int dv])), ((a 8), .inl ((k 8), 8, .inl fu)), ((a 9), .inl ((k 9), 48, .inl fp)), ((a 19), .inr (4, [.ref (a 20), .int (o_1.2.1), .int (o_1.2.2.1)])), ((a 20), .inl ((k 20), 3920, .inl (o_1.2.2.2.2.2.1))), ((a 21), .inr (1, [.ref (a 22), .int (o_1.2.2.2.1)])), ((a 22), .inl ((k 22), 300, .inl (o_1.2.2.2.2.2.2))), ((a 28), .inl ((k 28), 4, .inl (o_3.2)))]) [0, 1, 2, 3, 4, 5, 6, 7, 8, 9, 10] rfl
    have hD9 := hD.sub (ws' := [((a 0), .inr (9, [.ref (a 1), .ref (a 3), .ref (a 4), .ref (a 7), .ref (a 10), .ref (a 14), .ref (a 16), .ref (a 18), .ref (a 19), .ref (a 21), .ref (a 23), .ref (a 25), .ref (a 27), .ref (a 28), .int hi])), ((a 14), .inr (0, [.ref (a 15), .ref (a 7)])), ((a 15), .inl ((k 15), 98, .inl (o_1.2.2.2.2.1))), ((a 7), .inr (5, [.ref (a 8), .ref (a 9), .int dv])), ((a 8), .inl ((k 8), 8, .inl fu)), ((a 9), .inl ((k 9), 48, .inl fp)), ((a 19), .inr (4, [.ref (a 20), .int (o_1.2.1), .int (o_1.2.2.1)])), ((a 20), .inl ((k 20), 3920, .inl (o_1.2.2.2.2.2.1))), ((a 21), .inr (1, [.ref (a 22), .int (o_1.2.2.2.1)])), ((a 22), .inl ((k 22), 300, .inl (o_1.2.2.2.2.2.2))), ((a 28), .inl ((k 28), 4, .inl (o_3.2)))]) [0, 1, 2, 3, 4, 5, 6, 7, 8, 9, 10] (by decide) rfl
    have hK9 := hK.sub (tys' := [((k 15), .int), ((k 8), .int), ((k 9), .int), ((k 20), .int), ((k 22), .int), ((k 28), .int)]) [0, 1, 2, 3, 4, 5] rfl
    exact W.iret (v := (-1)) hx hb hr (fun t ht hW => ⟨⟨(-1), (), rfl, ⟨rfl, trivial⟩, by rw [ht]; exact hP9, va_K.moved hW.alike hK9, hD9⟩, hS.F ht⟩) hS.2.2 dX9_again_49
  · have hG := q_ifn c_5 hG
    refine lv_aload_n hx hb dX9_again_22 rfl (lv_at hl 1 rfl) ?_
    refine va_get (D := (dC, dI)) (ci := 9) (v := .ref (a 7)) (C := RX9) (T := TX9) (N := 15) hx hb hts iA_9 hown hK hP 0 rfl rfl 3 (by decide) (hts (.fieldLink RX9 32 "HubTree" "plan" "LHubTree$Plan;") (List.mem_cons_of_mem _ m_26)) (fun _ h9 => h9) rfl dX9_again_23 ?_
    refine lv_iload_n hx hb dX9_again_26 rfl (lv_at hl 2 rfl) ?_
    obtain ⟨o_6, r_7, hG⟩ := q_bi hG
    refine q_goi (v := o_6) (va_runV (As := [.int z1]) (rest := []) ⟨hx, hb, hml, hown, hts⟩ (c_X5_has l dC dI (a 7) (a 8) (a 9) dv z1 o_6 r_7) (cwV 1 hts (q_gV m_464 m_465 m_466 m_24 m_467) rfl rfl rfl hdV_yX5_has_1 ⟨Nat.le_of_ble_eq_true rfl, Nat.le_of_ble_eq_true rfl⟩) (q_preV hK hP (q := (RX5, TX5, 3)) (ci := 5) (q0 := 3) rfl rfl [3] rfl [] rfl) rfl rfl hl.1 rfl (lv_room (Nat.le_of_ble_eq_true rfl)) dX9_again_27 ⟨Nat.le_of_ble_eq_true rfl, Nat.le_of_ble_eq_true rfl⟩) hP hS (fun H locs hP hS => ?_)
    refine lv_if_eq (tgt := 48) hx hb dX9_again_30 (by decide) (fun c_8 => ?_) (fun c_8 => ?_)
    · have hG := q_ifp c_8 hG
      refine lv_iconst (v := (-1)) hx hb dX9_again_48 (by decide) ?_
      obtain rfl := Option.some.inj hG
      have hP9 := hP.sub (ws' := [((a 0), .inr (9, [.ref (a 1), .ref (a 3), .ref (a 4), .ref (a 7), .ref (a 10), .ref (a 14), .ref (a 16), .ref (a 18), .ref (a 19), .ref (a 21), .ref (a 23), .ref (a 25), .ref (a 27), .ref (a 28), .int hi])), ((a 14), .inr (0, [.ref (a 15), .ref (a 7)])), ((a 15), .inl ((k 15), 98, .inl (o_1.2.2.2.2.1))), ((a 7), .inr (5, [.ref (a 8), .ref (a 9), .int dv])), ((a 8), .inl ((k 8), 8, .inl fu)), ((a 9), .inl ((k 9), 48, .inl fp)), ((a 19), .inr (4, [.ref (a 20), .int (o_1.2.1), .int (o_1.2.2.1)])), ((a 20), .inl ((k 20), 3920, .inl (o_1.2.2.2.2.2.1))), ((a 21), .inr (1, [.ref (a 22), .int (o_1.2.2.2.1)])), ((a 22), .inl ((k 22), 300, .inl (o_1.2.2.2.2.2.2))), ((a 28), .inl ((k 28), 4, .inl (o_3.2)))]) [0, 1, 2, 3, 4, 5, 6, 7, 8, 9, 10] rfl
      have hD9 := hD.sub (ws' := [((a 0), .inr (9, [.ref (a 1), .ref (a 3), .ref (a 4), .ref (a 7), .ref (a 10), .ref (a 14), .ref (a 16), .ref (a 18), .ref (a 19), .ref (a 21), .ref (a 23), .ref (a 25), .ref (a 27), .ref (a 28), .int hi])), ((a 14), .inr (0, [.ref (a 15), .ref (a 7)])), ((a 15), .inl ((k 15), 98, .inl (o_1.2.2.2.2.1))), ((a 7), .inr (5, [.ref (a 8), .ref (a 9), .int dv])), ((a 8), .inl ((k 8), 8, .inl fu)), ((a 9), .inl ((k 9), 48, .inl fp)), ((a 19), .inr (4, [.ref (a 20), .int (o_1.2.1), .int (o_1.2.2.1)])), ((a 20), .inl ((k 20), 3920, .inl (o_1.2.2.2.2.2.1))), ((a 21), .inr (1, [.ref (a 22), .int (o_1.2.2.2.1)])), ((a 22), .inl ((k 22), 300, .inl (o_1.2.2.2.2.2.2))), ((a 28), .inl ((k 28), 4, .inl (o_3.2)))]) [0, 1, 2, 3, 4, 5, 6, 7, 8, 9, 10] (by decide) rfl
      have hK9 := hK.sub (tys' := [((k 15), .int), ((k 8), .int), ((k 9), .int), ((k 20), .int), ((k 22), .int), ((k 28), .int)]) [0, 1, 2, 3, 4, 5] rfl
      exact W.iret (v := (-1)) hx hb hr (fun t ht hW => ⟨⟨(-1), (), rfl, ⟨rfl, trivial⟩, by rw [ht]; exact hP9, va_K.moved hW.alike hK9, hD9⟩, hS.F ht⟩) hS.2.2 dX9_again_49
    · have hG := q_ifn c_8 hG
      refine lv_aload_n hx hb dX9_again_33 rfl (lv_at hl 1 rfl) ?_
      refine va_get (D := (dC, dI)) (ci := 9) (v := .ref (a 14)) (C := RX9) (T := TX9) (N := 15) hx hb hts iA_9 hown hK hP 0 rfl rfl 5 (by decide) (hts (.fieldLink RX9 47 "HubTree" "now" "LHubTree$Bus;") (List.mem_cons_of_mem _ m_34)) (fun _ h9 => h9) rfl dX9_again_34 ?_
      refine va_get (D := (dC, dI)) (ci := 0) (v := .ref (a 15)) (C := RX0) (T := TX0) (N := 2) hx hb hts iA_0 hown hK hP 1 rfl rfl 0 (by decide) (hts (.fieldLink RX9 157 "HubTree$Bus" "row" "[I") (List.mem_cons_of_mem _ m_462)) (fun _ h9 => h9) rfl dX9_again_37 ?_
      refine lv_bipush (v := 16) hx hb dX9_again_40 (by decide) ?_
      refine lv_iload_n hx hb dX9_again_42 rfl (lv_at hl 2 rfl) ?_
      refine lv_iadd hx hb dX9_again_43 ?_
      obtain ⟨h_9, hG⟩ := q_ix hG
      refine va_iald hx hb hK hP 2 0 rfl rfl (i := (16 + z1)) h_9 dX9_again_44 ?_
      refine q_top (y := ((o_1.2.2.2.2.1) (16 + z1).toNatClampNeg)) rfl ?_
      refine lv_goto (tgt := 49) hx hb dX9_again_45 (by decide) ?_
      obtain rfl := Option.some.inj hG
      have hP9 := hP.sub (ws' := [((a 0), .inr (9, [.ref (a 1), .ref (a 3), .ref (a 4), .ref (a 7), .ref (a 10), .ref (a 14), .ref (a 16), .ref (a 18), .ref (a 19), .ref (a 21), .ref (a 23), .ref (a 25), .ref (a 27), .ref (a 28), .int hi])), ((a 14), .inr (0, [.ref (a 15), .ref (a 7)])), ((a 15), .inl ((k 15), 98, .inl (o_1.2.2.2.2.1))), ((a 7), .inr (5, [.ref (a 8), .ref (a 9), .int dv])), ((a 8), .inl ((k 8), 8, .inl fu)), ((a 9), .inl ((k 9), 48, .inl fp)), ((a 19), .inr (4, [.ref (a 20), .int (o_1.2.1), .int (o_1.2.2.1)])), ((a 20), .inl ((k 20), 3920, .inl (o_1.2.2.2.2.2.1))), ((a 21), .inr (1, [.ref (a 22), .int (o_1.2.2.2.1)])), ((a 22), .inl ((k 22), 300, .inl (o_1.2.2.2.2.2.2))), ((a 28), .inl ((k 28), 4, .inl (o_3.2)))]) [0, 1, 2, 3, 4, 5, 6, 7, 8, 9, 10] rfl
      have hD9 := hD.sub (ws' := [((a 0), .inr (9, [.ref (a 1), .ref (a 3), .ref (a 4), .ref (a 7), .ref (a 10), .ref (a 14), .ref (a 16), .ref (a 18), .ref (a 19), .ref (a 21), .ref (a 23), .ref (a 25), .ref (a 27), .ref (a 28), .int hi])), ((a 14), .inr (0, [.ref (a 15), .ref (a 7)])), ((a 15), .inl ((k 15), 98, .inl (o_1.2.2.2.2.1))), ((a 7), .inr (5, [.ref (a 8), .ref (a 9), .int dv])), ((a 8), .inl ((k 8), 8, .inl fu)), ((a 9), .inl ((k 9), 48, .inl fp)), ((a 19), .inr (4, [.ref (a 20), .int (o_1.2.1), .int (o_1.2.2.1)])), ((a 20), .inl ((k 20), 3920, .inl (o_1.2.2.2.2.2.1))), ((a 21), .inr (1, [.ref (a 22), .int (o_1.2.2.2.1)])), ((a 22), .inl ((k 22), 300, .inl (o_1.2.2.2.2.2.2))), ((a 28), .inl ((k 28), 4, .inl (o_3.2)))]) [0, 1, 2, 3, 4, 5, 6, 7, 8, 9, 10] (by decide) rfl
      have hK9 := hK.sub (tys' := [((k 15), .int), ((k 8), .int), ((k 9), .int), ((k 20), .int), ((k 22), .int), ((k 28), .int)]) [0, 1, 2, 3, 4, 5] rfl
      exact W.iret (v := ((o_1.2.2.2.2.1) (16 + z1).toNatClampNeg)) hx hb hr (fun t ht hW => ⟨⟨((o_1.2.2.2.2.1) (16 + z1).toNatClampNeg), (), rfl, ⟨rfl, trivial⟩, by rw [ht]; exact hP9, va_K.moved hW.alike hK9, hD9⟩, hS.F ht⟩) hS.2.2 dX9_again_49

def F_X9_sleep (dv : Int32) (nx : Int32) (ph : Int32) (tt : Int32) (fu : Nat → Int32) (fp : Nat → Int32) (fr : Nat → Int32) (fq : Nat → Int32) (fd : Nat → Int32) (fz : Nat → Int32) (z1 : Int32) : Option (Int32 × Int32 × Int32 × Int32 × (Nat → Int32) × (Nat → Int32) × (Nat → Int32) × (Nat → Int32)) := ((F_X9_attempt dv nx ph tt fr fu fp fq fd 1 6 z1 (-1) (-1)).bind fun o_1 => ((F_X9_isDone fz o_1.1).bind fun o_3 => (if o_3.1 = 0 then some ((-1), (o_1.2.1), (o_1.2.2.1), (o_1.2.2.2.1), (o_1.2.2.2.2.1), (o_1.2.2.2.2.2.1), (o_1.2.2.2.2.2.2), (o_3.2)) else ((F_X5_has dv z1).bind fun o_6 => (if o_6 = 0 then some ((-1), (o_1.2.1), (o_1.2.2.1), (o_1.2.2.2.1), (o_1.2.2.2.2.1), (o_1.2.2.2.2.2.1), (o_1.2.2.2.2.2.2), (o_3.2)) else (if (88 + z1) < 0 ∨ 98 ≤ ((88 + z1)).toNatClampNeg then none else some (((o_1.2.2.2.2.1) (88 + z1).toNatClampNeg), (o_1.2.1), (o_1.2.2.1), (o_1.2.2.2.1), (o_1.2.2.2.2.1), (o_1.2.2.2.2.2.1), (o_1.2.2.2.2.2.2), (o_3.2))))))))
set_option maxHeartbeats 4000000 in
set_option maxRecDepth 100000 in
theorem c_X9_sleep (l : Launch) (dC : Nat → ClassId) (dI : Nat → Nat → Nat) (a : Nat → Nat) (k : Nat → ClassId) (dv : Int32) (nx : Int32) (ph : Int32) (tt : Int32) (hi : Int32) (fu : Nat → Int32) (fp : Nat → Int32) (fr : Nat → Int32) (fq : Nat → Int32) (fd : Nat → Int32) (fz : Nat → Int32) (z1 : Int32) (A : Nat → Prop) (o : Int32 × Int32 × Int32 × Int32 × (Nat → Int32) × (Nat → Int32) × (Nat → Int32) × (Nat → Int32)) (hG : F_X9_sleep dv nx ph tt fu fp fr fq fd fz z1 = some o) : Met l yX9_sleep (.code yX9_sleep cX9_sleep 3 (some .int) :: wA) ({ frames := 6, cells := 0, slots := 0, locals := 144 }) (va_Pc [.ref (a 0), .int z1] (q_W (dC, dI) A [((a 0), .inr (9, [.ref (a 1), .ref (a 3), .ref (a 4), .ref (a 7), .ref (a 10), .ref (a 14), .ref (a 16), .ref (a 18), .ref (a 19), .ref (a 21), .ref (a 23), .ref (a 25), .ref (a 27), .ref (a 28), .int hi])), ((a 14), .inr (0, [.ref (a 15), .ref (a 7)])), ((a 15), .inl ((k 15), 98, .inl fr)), ((a 7), .inr (5, [.ref (a 8), .ref (a 9), .int dv])), ((a 8), .inl ((k 8), 8, .inl fu)), ((a 9), .inl ((k 9), 48, .inl fp)), ((a 19), .inr (4, [.ref (a 20), .int nx, .int ph])), ((a 20), .inl ((k 20), 3920, .inl fq)), ((a 21), .inr (1, [.ref (a 22), .int tt])), ((a 22), .inl ((k 22), 300, .inl fd)), ((a 28), .inl ((k 28), 4, .inl fz))] [((k 15), .int), ((k 8), .int), ((k 9), .int), ((k 20), .int), ((k 22), .int), ((k 28), .int)])) (va_Qi (fun (r : Int32) (_ : Unit) => r = o.1 ∧ True) (fun (_ : Unit) t => q_B (dC, dI) A [((a 0), .inr (9, [.ref (a 1), .ref (a 3), .ref (a 4), .ref (a 7), .ref (a 10), .ref (a 14), .ref (a 16), .ref (a 18), .ref (a 19), .ref (a 21), .ref (a 23), .ref (a 25), .ref (a 27), .ref (a 28), .int hi])), ((a 14), .inr (0, [.ref (a 15), .ref (a 7)])), ((a 15), .inl ((k 15), 98, .inl (o.2.2.2.2.1))), ((a 7), .inr (5, [.ref (a 8), .ref (a 9), .int dv])), ((a 8), .inl ((k 8), 8, .inl fu)), ((a 9), .inl ((k 9), 48, .inl fp)), ((a 19), .inr (4, [.ref (a 20), .int (o.2.1), .int (o.2.2.1)])), ((a 20), .inl ((k 20), 3920, .inl (o.2.2.2.2.2.1))), ((a 21), .inr (1, [.ref (a 22), .int (o.2.2.2.1)])), ((a 22), .inl ((k 22), 300, .inl (o.2.2.2.2.2.2.1))), ((a 28), .inl ((k 28), 4, .inl (o.2.2.2.2.2.2.2)))] [((k 15), .int), ((k 8), .int), ((k 9), .int), ((k 20), .int), ((k 22), .int), ((k 28), .int)] t) A) 0 0 A := by
  refine Met.ofW (cc := cX9_sleep) (maxL := 3) (ret := (some .int)) (by decide) rfl ?_
  intro p e s m args below meth c s₁ B hml hv
  obtain ⟨rfl, hP, hK, hD, hA⟩ := hv
  have hx := B.exec
  have hb := B.bytes
  have hr := B.returns
  have hts := atoms_spec (ws := .code yX9_sleep cX9_sleep 3 (some .int) :: wA) B.pre
  have hown : s.vm.findClass RX9 = some m.cls := findClass_of_methodNamed B.named
  have hlocks := B.notSynchronized
  have hS : va_S A s.heap s.heap [] := va_S.rf
  have hl := lv_entry ([.ref (a 0), .int z1]) (n := 3) (Nat.le_of_ble_eq_true rfl)
  rw [lg_entry_eq]
  generalize (lg_sl ([.ref (a 0), .int z1]) ++ List.replicate (3 - (lg_sl ([.ref (a 0), .int z1])).length) Slot.unset).toArray = ls at hl ⊢
  have hl : lv_has ls 3 [(0, .ref (a 0)), (1, .int z1)] := hl
  unfold F_X9_sleep at hG
  refine lv_aload_n hx hb dX9_sleep_0 rfl (lv_at hl 0 rfl) ?_
  refine lv_aload_n hx hb dX9_sleep_1 rfl (lv_at hl 0 rfl) ?_
  refine lv_aload_n hx hb dX9_sleep_2 rfl (lv_at hl 0 rfl) ?_
  refine va_get (D := (dC, dI)) (ci := 9) (v := .ref (a 14)) (C := RX9) (T := TX9) (N := 15) hx hb hts iA_9 hown hK hP 0 rfl rfl 5 (by decide) (hts (.fieldLink RX9 47 "HubTree" "now" "LHubTree$Bus;") (List.mem_cons_of_mem _ m_34)) (fun _ h9 => h9) rfl dX9_sleep_3 ?_
  refine lv_iconst (v := 1) hx hb dX9_sleep_6 (by decide) ?_
  refine lv_bipush (v := 6) hx hb dX9_sleep_7 (by decide) ?_
  refine lv_iload_n hx hb dX9_sleep_9 rfl (lv_at hl 1 rfl) ?_
  refine lv_iconst (v := (-1)) hx hb dX9_sleep_10 (by decide) ?_
  refine lv_iconst (v := (-1)) hx hb dX9_sleep_11 (by decide) ?_
  obtain ⟨o_1, r_2, hG⟩ := q_bi hG
  refine q_goi2 (v := o_1.1) (wr := [((a 28), .inl ((k 28), 4, .inl fz))]) (va_runV (As := [.ref (a 14), .int 1, .int 6, .int z1, .int (-1), .int (-1)]) (rest := [.ref (a 0)]) ⟨hx, hb, hml, hown, hts⟩ (c_X9_attempt l dC dI a k (a 14) (a 15) (k 15) hi dv nx ph tt fr fu fp fq fd 1 6 z1 (-1) (-1) (va_A [((a 0), .inr (9, [.ref (a 1), .ref (a 3), .ref (a 4), .ref (a 7), .ref (a 10), .ref (a 14), .ref (a 16), .ref (a 18), .ref (a 19), .ref (a 21), .ref (a 23), .ref (a 25), .ref (a 27), .ref (a 28), .int hi])), ((a 14), .inr (0, [.ref (a 15), .ref (a 7)])), ((a 15), .inl ((k 15), 98, .inl fr)), ((a 7), .inr (5, [.ref (a 8), .ref (a 9), .int dv])), ((a 8), .inl ((k 8), 8, .inl fu)), ((a 9), .inl ((k 9), 48, .inl fp)), ((a 19), .inr (4, [.ref (a 20), .int nx, .int ph])), ((a 20), .inl ((k 20), 3920, .inl fq)), ((a 21), .inr (1, [.ref (a 22), .int tt])), ((a 22), .inl ((k 22), 300, .inl fd))] s.heap.size) o_1 r_2) (cwV 6 hts (q_gV m_722 m_723 m_724 m_2 m_725) rfl rfl rfl hdV_yX9_attempt_6 ⟨Nat.le_of_ble_eq_true rfl, Nat.le_of_ble_eq_true rfl⟩) (q_preWV hK hP hD (q := (RX9, TX9, 15)) (ci := 9) (q0 := 0) rfl rfl [0, 1, 2, 3, 4, 5, 6, 7, 8, 9] (by decide) rfl rfl [0, 1, 2, 3, 4] rfl) rfl rfl hl.1 rfl (lv_room (Nat.le_of_ble_eq_true rfl)) dX9_sleep_12 ⟨Nat.le_of_ble_eq_true rfl, Nat.le_of_ble_eq_true rfl⟩) hK hP hD hS hA [0, 1, 2, 3, 4, 5, 6, 7, 8, 9] [10] rfl rfl (by decide) (by decide) (fun _ H locs _ hP hD hK9 hS => ?_)
  have hP : va_P (dC, dI) vwCl [((a 0), .inr (9, [.ref (a 1), .ref (a 3), .ref (a 4), .ref (a 7), .ref (a 10), .ref (a 14), .ref (a 16), .ref (a 18), .ref (a 19), .ref (a 21), .ref (a 23), .ref (a 25), .ref (a 27), .ref (a 28), .int hi])), ((a 14), .inr (0, [.ref (a 15), .ref (a 7)])), ((a 15), .inl ((k 15), 98, .inl (o_1.2.2.2.2.1))), ((a 7), .inr (5, [.ref (a 8), .ref (a 9), .int dv])), ((a 8), .inl ((k 8), 8, .inl fu)), ((a 9), .inl ((k 9), 48, .inl fp)), ((a 19), .inr (4, [.ref (a 20), .int (o_1.2.1), .int (o_1.2.2.1)])), ((a 20), .inl ((k 20), 3920, .inl (o_1.2.2.2.2.2.1))), ((a 21), .inr (1, [.ref (a 22), .int (o_1.2.2.2.1)])), ((a 22), .inl ((k 22), 300, .inl (o_1.2.2.2.2.2.2))), ((a 28), .inl ((k 28), 4, .inl fz))] H := hP.sub [1, 2, 3, 4, 5, 6, 7, 8, 9, 10, 0] rfl
  have hD : va_D A [((a 0), .inr (9, [.ref (a 1), .ref (a 3), .ref (a 4), .ref (a 7), .ref (a 10), .ref (a 14), .ref (a 16), .ref (a 18), .ref (a 19), .ref (a 21), .ref (a 23), .ref (a 25), .ref (a 27), .ref (a 28), .int hi])), ((a 14), .inr (0, [.ref (a 15), .ref (a 7)])), ((a 15), .inl ((k 15), 98, .inl (o_1.2.2.2.2.1))), ((a 7), .inr (5, [.ref (a 8), .ref (a 9), .int dv])), ((a 8), .inl ((k 8), 8, .inl fu)), ((a 9), .inl ((k 9), 48, .inl fp)), ((a 19), .inr (4, [.ref (a 20), .int (o_1.2.1), .int (o_1.2.2.1)])), ((a 20), .inl ((k 20), 3920, .inl (o_1.2.2.2.2.2.1))), ((a 21), .inr (1, [.ref (a 22), .int (o_1.2.2.2.1)])), ((a 22), .inl ((k 22), 300, .inl (o_1.2.2.2.2.2.2))), ((a 28), .inl ((k 28), 4, .inl fz))] := hD.sub [1, 2, 3, 4, 5, 6, 7, 8, 9, 10, 0] (by decide) rfl
  obtain ⟨o_3, r_4, hG⟩ := q_bi hG
  refine q_goi2 (v := o_3.1) (wr := [((a 14), .inr (0, [.ref (a 15), .ref (a 7)])), ((a 15), .inl ((k 15), 98, .inl (o_1.2.2.2.2.1))), ((a 7), .inr (5, [.ref (a 8), .ref (a 9), .int dv])), ((a 8), .inl ((k 8), 8, .inl fu)), ((a 9), .inl ((k 9), 48, .inl fp)), ((a 19), .inr (4, [.ref (a 20), .int (o_1.2.1), .int (o_1.2.2.1)])), ((a 20), .inl ((k 20), 3920, .inl (o_1.2.2.2.2.2.1))), ((a 21), .inr (1, [.ref (a 22), .int (o_1.2.2.2.1)])), ((a 22), .inl ((k 22), 300, .inl (o_1.2.2.2.2.2.2)))]) (va_runV (As := [.int o_1.1]) (rest := []) ⟨hx, hb, hml, hown, hts⟩ (c_X9_isDone l dC dI a k hi fz o_1.1 (va_A [((a 0), .inr (9, [.ref (a 1), .ref (a 3), .ref (a 4), .ref (a 7), .ref (a 10), .ref (a 14), .ref (a 16), .ref (a 18), .ref (a 19), .ref (a 21), .ref (a 23), .ref (a 25), .ref (a 27), .ref (a 28), .int hi])), ((a 28), .inl ((k 28), 4, .inl fz))] H.size) o_3 r_4) (cwV 1 hts (q_gV m_889 m_890 m_891 m_2 m_892) rfl rfl rfl hdV_yX9_isDone_1 ⟨Nat.le_of_ble_eq_true rfl, Nat.le_of_ble_eq_true rfl⟩) (q_preWV hK hP hD (q := (RX9, TX9, 15)) (ci := 9) (q0 := 0) rfl rfl [0, 10] (by decide) rfl rfl [5] rfl) rfl rfl hl.1 rfl (lv_room (Nat.le_of_ble_eq_true rfl)) dX9_sleep_15 ⟨Nat.le_of_ble_eq_true rfl, Nat.le_of_ble_eq_true rfl⟩) hK hP hD hS hA [0, 10] [1, 2, 3, 4, 5, 6, 7, 8, 9] rfl rfl (by decide) (by decide) (fun _ H locs _ hP hD hK9 hS => ?_)
  have hP : va_P (dC, dI) vwCl [((a 0), .inr (9, [.ref (a 1), .ref (a 3), .ref (a 4), .ref (a 7), .ref (a 10), .ref (a 14), .ref (a 16), .ref (a 18), .ref (a 19), .ref (a 21), .ref (a 23), .ref (a 25), .ref (a 27), .ref (a 28), .int hi])), ((a 14), .inr (0, [.ref (a 15), .ref (a 7)])), ((a 15), .inl ((k 15), 98, .inl (o_1.2.2.2.2.1))), ((a 7), .inr (5, [.ref (a 8), .ref (a 9), .int dv])), ((a 8), .inl ((k 8), 8, .inl fu)), ((a 9), .inl ((k 9), 48, .inl fp)), ((a 19), .inr (4, [.ref (a 20), .int (o_1.2.1), .int (o_1.2.2.1)])), ((a 20), .inl ((k 20), 3920, .inl (o_1.2.2.2.2.2.1))), ((a 21), .inr (1, [.ref (a 22), .int (o_1.2.2.2.1)])), ((a 22), .inl ((k 22), 300, .inl (o_1.2.2.2.2.2.2))), ((a 28), .inl ((k 28), 4, .inl (o_3.2)))] H := hP.sub [9, 0, 1, 2, 3, 4, 5, 6, 7, 8, 10] rfl
  have hD : va_D A [((a 0), .inr (9, [.ref (a 1), .ref (a 3), .ref (a 4), .ref (a 7), .ref (a 10), .ref (a 14), .ref (a 16), .ref (a 18), .ref (a 19), .ref (a 21), .ref (a 23), .ref (a 25), .ref (a 27), .ref (a 28), .int hi])), ((a 14), .inr (0, [.ref (a 15), .ref (a 7)])), ((a 15), .inl ((k 15), 98, .inl (o_1.2.2.2.2.1))), ((a 7), .inr (5, [.ref (a 8), .ref (a 9), .int dv])), ((a 8), .inl ((k 8), 8, .inl fu)), ((a 9), .inl ((k 9), 48, .inl fp)), ((a 19), .inr (4, [.ref (a 20), .int (o_1.2.1), .int (o_1.2.2.1)])), ((a 20), .inl ((k 20), 3920, .inl (o_1.2.2.2.2.2.1))), ((a 21), .inr (1, [.ref (a 22), .int (o_1.2.2.2.1)])), ((a 22), .inl ((k 22), 300, .inl (o_1.2.2.2.2.2.2))), ((a 28), .inl ((k 28), 4, .inl (o_3.2)))] := hD.sub [9, 0, 1, 2, 3, 4, 5, 6, 7, 8, 10] (by decide) rfl
  refine lv_istore_n (lv' := [(2, .int o_3.1), (0, .ref (a 0)), (1, .int z1)]) hx hb dX9_sleep_18 rfl hl (by decide) rfl (fun ls hl => ?_)
  refine lv_iload_n hx hb dX9_sleep_19 rfl (lv_at hl 0 rfl) ?_
  refine lv_if_eq (tgt := 49) hx hb dX9_sleep_20 (by decide) (fun c_5 => ?_) (fun c_5 => ?_)
  · have hG := q_ifp c_5 hG
    refine lv_iconst (v := (-1)) hx hb dX9_sleep_49 (by decide) ?_
    obtain rfl := Option.some.inj hG
    have hP9 := hP.sub (ws' := [((a 0), .inr (9, [.ref (a 1), .ref (a 3), .ref (a 4), .ref (a 7), .ref (a 10), .ref (a 14), .ref (a 16), .ref (a 18), .ref (a 19), .ref (a 21), .ref (a 23), .ref (a 25), .ref (a 27), .ref (a 28), .int hi])), ((a 14), .inr (0, [.ref (a 15), .ref (a 7)])), ((a 15), .inl ((k 15), 98, .inl (o_1.2.2.2.2.1))), ((a 7), .inr (5, [.ref (a 8), .ref (a 9), .int dv])), ((a 8), .inl ((k 8), 8, .inl fu)), ((a 9), .inl ((k 9), 48, .inl fp)), ((a 19), .inr (4, [.ref (a 20), .int (o_1.2.1), .int (o_1.2.2.1)])), ((a 20), .inl ((k 20), 3920, .inl (o_1.2.2.2.2.2.1))), ((a 21), .inr (1, [.ref (a 22), .int (o_1.2.2.2.1)])), ((a 22), .inl ((k 22), 300, .inl (o_1.2.2.2.2.2.2))), ((a 28), .inl ((k 28), 4, .inl (o_3.2)))]) [0, 1, 2, 3, 4, 5, 6, 7, 8, 9, 10] rfl
    have hD9 := hD.sub (ws' := [((a 0), .inr (9, [.ref (a 1), .ref (a 3), .ref (a 4), .ref (a 7), .ref (a 10), .ref (a 14), .ref (a 16), .ref (a 18), .ref (a 19), .ref (a 21), .ref (a 23), .ref (a 25), .ref (a 27), .ref (a 28), .int hi])), ((a 14), .inr (0, [.ref (a 15), .ref (a 7)])), ((a 15), .inl ((k 15), 98, .inl (o_1.2.2.2.2.1))), ((a 7), .inr (5, [.ref (a 8), .ref (a 9), .int dv])), ((a 8), .inl ((k 8), 8, .inl fu)), ((a 9), .inl ((k 9), 48, .inl fp)), ((a 19), .inr (4, [.ref (a 20), .int (o_1.2.1), .int (o_1.2.2.1)])), ((a 20), .inl ((k 20), 3920, .inl (o_1.2.2.2.2.2.1))), ((a 21), .inr (1, [.ref (a 22), .int (o_1.2.2.2.1)])), ((a 22), .inl ((k 22), 300, .inl (o_1.2.2.2.2.2.2))), ((a 28), .inl ((k 28), 4, .inl (o_3.2)))]) [0, 1, 2, 3, 4, 5, 6, 7, 8, 9, 10] (by decide) rfl
    have hK9 := hK.sub (tys' := [((k 15), .int), ((k 8), .int), ((k 9), .int), ((k 20), .int), ((k 22), .int), ((k 28), .int)]) [0, 1, 2, 3, 4, 5] rfl
    exact W.iret (v := (-1)) hx hb hr (fun t ht hW => ⟨⟨(-1), (), rfl, ⟨rfl, trivial⟩, by rw [ht]; exact hP9, va_K.moved hW.alike hK9, hD9⟩, hS.F ht⟩) hS.2.2 dX9_sleep_50
  · have hG := q_ifn c_5 hG
    refine lv_aload_n hx hb dX9_sleep_23 rfl (lv_at hl 1 rfl) ?_
    refine va_get (D := (dC, dI)) (ci := 9) (v := .ref (a 7)) (C := RX9) (T := TX9) (N := 15) hx hb hts iA_9 hown hK hP 0 rfl rfl 3 (by decide) (hts (.fieldLink RX9 32 "HubTree" "plan" "LHubTree$Plan;") (List.mem_cons_of_mem _ m_26)) (fun _ h9 => h9) rfl dX9_sleep_24 ?_
    refine lv_iload_n hx hb dX9_sleep_27 rfl (lv_at hl 2 rfl) ?_
    obtain ⟨o_6, r_7, hG⟩ := q_bi hG
    refine q_goi (v := o_6) (va_runV (As := [.int z1]) (rest := []) ⟨hx, hb, hml, hown, hts⟩ (c_X5_has l dC dI (a 7) (a 8) (a 9) dv z1 o_6 r_7) (cwV 1 hts (q_gV m_464 m_465 m_466 m_24 m_467) rfl rfl rfl hdV_yX5_has_1 ⟨Nat.le_of_ble_eq_true rfl, Nat.le_of_ble_eq_true rfl⟩) (q_preV hK hP (q := (RX5, TX5, 3)) (ci := 5) (q0 := 3) rfl rfl [3] rfl [] rfl) rfl rfl hl.1 rfl (lv_room (Nat.le_of_ble_eq_true rfl)) dX9_sleep_28 ⟨Nat.le_of_ble_eq_true rfl, Nat.le_of_ble_eq_true rfl⟩) hP hS (fun H locs hP hS => ?_)
    refine lv_if_eq (tgt := 49) hx hb dX9_sleep_31 (by decide) (fun c_8 => ?_) (fun c_8 => ?_)
    · have hG := q_ifp c_8 hG
      refine lv_iconst (v := (-1)) hx hb dX9_sleep_49 (by decide) ?_
      obtain rfl := Option.some.inj hG
      have hP9 := hP.sub (ws' := [((a 0), .inr (9, [.ref (a 1), .ref (a 3), .ref (a 4), .ref (a 7), .ref (a 10), .ref (a 14), .ref (a 16), .ref (a 18), .ref (a 19), .ref (a 21), .ref (a 23), .ref (a 25), .ref (a 27), .ref (a 28), .int hi])), ((a 14), .inr (0, [.ref (a 15), .ref (a 7)])), ((a 15), .inl ((k 15), 98, .inl (o_1.2.2.2.2.1))), ((a 7), .inr (5, [.ref (a 8), .ref (a 9), .int dv])), ((a 8), .inl ((k 8), 8, .inl fu)), ((a 9), .inl ((k 9), 48, .inl fp)), ((a 19), .inr (4, [.ref (a 20), .int (o_1.2.1), .int (o_1.2.2.1)])), ((a 20), .inl ((k 20), 3920, .inl (o_1.2.2.2.2.2.1))), ((a 21), .inr (1, [.ref (a 22), .int (o_1.2.2.2.1)])), ((a 22), .inl ((k 22), 300, .inl (o_1.2.2.2.2.2.2))), ((a 28), .inl ((k 28), 4, .inl (o_3.2)))]) [0, 1, 2, 3, 4, 5, 6, 7, 8, 9, 10] rfl
      have hD9 := hD.sub (ws' := [((a 0), .inr (9, [.ref (a 1), .ref (a 3), .ref (a 4), .ref (a 7), .ref (a 10), .ref (a 14), .ref (a 16), .ref (a 18), .ref (a 19), .ref (a 21), .ref (a 23), .ref (a 25), .ref (a 27), .ref (a 28), .int hi])), ((a 14), .inr (0, [.ref (a 15), .ref (a 7)])), ((a 15), .inl ((k 15), 98, .inl (o_1.2.2.2.2.1))), ((a 7), .inr (5, [.ref (a 8), .ref (a 9), .int dv])), ((a 8), .inl ((k 8), 8, .inl fu)), ((a 9), .inl ((k 9), 48, .inl fp)), ((a 19), .inr (4, [.ref (a 20), .int (o_1.2.1), .int (o_1.2.2.1)])), ((a 20), .inl ((k 20), 3920, .inl (o_1.2.2.2.2.2.1))), ((a 21), .inr (1, [.ref (a 22), .int (o_1.2.2.2.1)])), ((a 22), .inl ((k 22), 300, .inl (o_1.2.2.2.2.2.2))), ((a 28), .inl ((k 28), 4, .inl (o_3.2)))]) [0, 1, 2, 3, 4, 5, 6, 7, 8, 9, 10] (by decide) rfl
      have hK9 := hK.sub (tys' := [((k 15), .int), ((k 8), .int), ((k 9), .int), ((k 20), .int), ((k 22), .int), ((k 28), .int)]) [0, 1, 2, 3, 4, 5] rfl
      exact W.iret (v := (-1)) hx hb hr (fun t ht hW => ⟨⟨(-1), (), rfl, ⟨rfl, trivial⟩, by rw [ht]; exact hP9, va_K.moved hW.alike hK9, hD9⟩, hS.F ht⟩) hS.2.2 dX9_sleep_50
    · have hG := q_ifn c_8 hG
      refine lv_aload_n hx hb dX9_sleep_34 rfl (lv_at hl 1 rfl) ?_
      refine va_get (D := (dC, dI)) (ci := 9) (v := .ref (a 14)) (C := RX9) (T := TX9) (N := 15) hx hb hts iA_9 hown hK hP 0 rfl rfl 5 (by decide) (hts (.fieldLink RX9 47 "HubTree" "now" "LHubTree$Bus;") (List.mem_cons_of_mem _ m_34)) (fun _ h9 => h9) rfl dX9_sleep_35 ?_
      refine va_get (D := (dC, dI)) (ci := 0) (v := .ref (a 15)) (C := RX0) (T := TX0) (N := 2) hx hb hts iA_0 hown hK hP 1 rfl rfl 0 (by decide) (hts (.fieldLink RX9 157 "HubTree$Bus" "row" "[I") (List.mem_cons_of_mem _ m_462)) (fun _ h9 => h9) rfl dX9_sleep_38 ?_
      refine lv_bipush (v := 88) hx hb dX9_sleep_41 (by decide) ?_
      refine lv_iload_n hx hb dX9_sleep_43 rfl (lv_at hl 2 rfl) ?_
      refine lv_iadd hx hb dX9_sleep_44 ?_
      obtain ⟨h_9, hG⟩ := q_ix hG
      refine va_iald hx hb hK hP 2 0 rfl rfl (i := (88 + z1)) h_9 dX9_sleep_45 ?_
      refine q_top (y := ((o_1.2.2.2.2.1) (88 + z1).toNatClampNeg)) rfl ?_
      refine lv_goto (tgt := 50) hx hb dX9_sleep_46 (by decide) ?_
      obtain rfl := Option.some.inj hG
      have hP9 := hP.sub (ws' := [((a 0), .inr (9, [.ref (a 1), .ref (a 3), .ref (a 4), .ref (a 7), .ref (a 10), .ref (a 14), .ref (a 16), .ref (a 18), .ref (a 19), .ref (a 21), .ref (a 23), .ref (a 25), .ref (a 27), .ref (a 28), .int hi])), ((a 14), .inr (0, [.ref (a 15), .ref (a 7)])), ((a 15), .inl ((k 15), 98, .inl (o_1.2.2.2.2.1))), ((a 7), .inr (5, [.ref (a 8), .ref (a 9), .int dv])), ((a 8), .inl ((k 8), 8, .inl fu)), ((a 9), .inl ((k 9), 48, .inl fp)), ((a 19), .inr (4, [.ref (a 20), .int (o_1.2.1), .int (o_1.2.2.1)])), ((a 20), .inl ((k 20), 3920, .inl (o_1.2.2.2.2.2.1))), ((a 21), .inr (1, [.ref (a 22), .int (o_1.2.2.2.1)])), ((a 22), .inl ((k 22), 300, .inl (o_1.2.2.2.2.2.2))), ((a 28), .inl ((k 28), 4, .inl (o_3.2)))]) [0, 1, 2, 3, 4, 5, 6, 7, 8, 9, 10] rfl
      have hD9 := hD.sub (ws' := [((a 0), .inr (9, [.ref (a 1), .ref (a 3), .ref (a 4), .ref (a 7), .ref (a 10), .ref (a 14), .ref (a 16), .ref (a 18), .ref (a 19), .ref (a 21), .ref (a 23), .ref (a 25), .ref (a 27), .ref (a 28), .int hi])), ((a 14), .inr (0, [.ref (a 15), .ref (a 7)])), ((a 15), .inl ((k 15), 98, .inl (o_1.2.2.2.2.1))), ((a 7), .inr (5, [.ref (a 8), .ref (a 9), .int dv])), ((a 8), .inl ((k 8), 8, .inl fu)), ((a 9), .inl ((k 9), 48, .inl fp)), ((a 19), .inr (4, [.ref (a 20), .int (o_1.2.1), .int (o_1.2.2.1)])), ((a 20), .inl ((k 20), 3920, .inl (o_1.2.2.2.2.2.1))), ((a 21), .inr (1, [.ref (a 22), .int (o_1.2.2.2.1)])), ((a 22), .inl ((k 22), 300, .inl (o_1.2.2.2.2.2.2))), ((a 28), .inl ((k 28), 4, .inl (o_3.2)))]) [0, 1, 2, 3, 4, 5, 6, 7, 8, 9, 10] (by decide) rfl
      have hK9 := hK.sub (tys' := [((k 15), .int), ((k 8), .int), ((k 9), .int), ((k 20), .int), ((k 22), .int), ((k 28), .int)]) [0, 1, 2, 3, 4, 5] rfl
      exact W.iret (v := ((o_1.2.2.2.2.1) (88 + z1).toNatClampNeg)) hx hb hr (fun t ht hW => ⟨⟨((o_1.2.2.2.2.1) (88 + z1).toNatClampNeg), (), rfl, ⟨rfl, trivial⟩, by rw [ht]; exact hP9, va_K.moved hW.alike hK9, hD9⟩, hS.F ht⟩) hS.2.2 dX9_sleep_50

def FL_X9_years_34 (dv : Int32) (nx : Int32) (ph : Int32) (tt : Int32) (xx : Int64) (fu : Nat → Int32) (fp : Nat → Int32) (fr : Nat → Int32) (fq : Nat → Int32) (fd : Nat → Int32) (z1 : Int32) (z2 : Int64) : Nat → Int32 → (Int32) → (Int32) → (Int32) → (Int64) → (Nat → Int32) → (Nat → Int32) → (Nat → Int32) → Option (Int32 × Int32 × Int32 × Int32 × Int64 × (Nat → Int32) × (Nat → Int32) × (Nat → Int32))
  | 0, _, _, _, _, _, _, _, _ => none
  | n + 1, x4_34, nx_c, ph_c, tt_c, xx_c, fr_c, fq_c, fd_c => (if z1 ≤ x4_34 then some ((fr_c 96), nx_c, ph_c, tt_c, xx_c, fr_c, fq_c, fd_c) else ((F_X2_next xx_c 8).bind fun o_7 => (if 2 < o_7.1 then (if o_7.1 = 3 then ((F_X2_next (o_7.2) dv).bind fun o_20 => ((F_X9_attempt dv nx_c ph_c tt_c fr_c fu fp fq_c fd_c 1 1 o_20.1 (-1) (-1)).bind fun o_22 => (FL_X9_years_34 dv nx ph tt xx fu fp fr fq fd z1 z2 n (x4_34 + 1) (o_22.2.1) (o_22.2.2.1) (o_22.2.2.2.1) (o_20.2) (o_22.2.2.2.2.1) (o_22.2.2.2.2.2.1) (o_22.2.2.2.2.2.2)))) else (if 6 < o_7.1 then ((F_X2_next (o_7.2) dv).bind fun o_12 => ((F_X9_attempt dv nx_c ph_c tt_c fr_c fu fp fq_c fd_c 1 3 o_12.1 (-1) (-1)).bind fun o_14 => (FL_X9_years_34 dv nx ph tt xx fu fp fr fq fd z1 z2 n (x4_34 + 1) (o_14.2.1) (o_14.2.2.1) (o_14.2.2.2.1) (o_12.2) (o_14.2.2.2.2.1) (o_14.2.2.2.2.2.1) (o_14.2.2.2.2.2.2)))) else ((F_X2_next (o_7.2) 9).bind fun o_16 => ((F_X9_attempt dv nx_c ph_c tt_c fr_c fu fp fq_c fd_c 1 2 (o_16.1 + 1) (-1) (-1)).bind fun o_18 => (FL_X9_years_34 dv nx ph tt xx fu fp fr fq fd z1 z2 n (x4_34 + 1) (o_18.2.1) (o_18.2.2.1) (o_18.2.2.2.1) (o_16.2) (o_18.2.2.2.2.1) (o_18.2.2.2.2.2.1) (o_18.2.2.2.2.2.2)))))) else ((F_X2_next (o_7.2) dv).bind fun o_24 => ((F_X2_next (o_24.2) (dv + 1)).bind fun o_26 => (if o_26.1 = dv then ((F_X2_next (o_26.2) 4).bind fun o_33 => ((F_X9_attempt dv nx_c ph_c tt_c fr_c fu fp fq_c fd_c 1 0 o_24.1 8 o_33.1).bind fun o_35 => (FL_X9_years_34 dv nx ph tt xx fu fp fr fq fd z1 z2 n (x4_34 + 1) (o_35.2.1) (o_35.2.2.1) (o_35.2.2.2.1) (o_33.2) (o_35.2.2.2.2.1) (o_35.2.2.2.2.2.1) (o_35.2.2.2.2.2.2)))) else ((F_X2_next (o_26.2) 4).bind fun o_29 => ((F_X9_attempt dv nx_c ph_c tt_c fr_c fu fp fq_c fd_c 1 0 o_24.1 o_26.1 o_29.1).bind fun o_31 => (FL_X9_years_34 dv nx ph tt xx fu fp fr fq fd z1 z2 n (x4_34 + 1) (o_31.2.1) (o_31.2.2.1) (o_31.2.2.2.1) (o_29.2) (o_31.2.2.2.2.1) (o_31.2.2.2.2.2.1) (o_31.2.2.2.2.2.2))))))))))

def F_X9_years (dv : Int32) (nx : Int32) (ph : Int32) (tt : Int32) (xx : Int64) (fu : Nat → Int32) (fp : Nat → Int32) (fr : Nat → Int32) (fq : Nat → Int32) (fd : Nat → Int32) (z1 : Int32) (z2 : Int64) : Option (Int32 × Int32 × Int32 × Int32 × Int64 × (Nat → Int32) × (Nat → Int32) × (Nat → Int32)) := ((F_X5_isTold dv).bind fun o_1 => (if o_1 = 0 then some ((-1), nx, ph, tt, xx, fr, fq, fd) else (if z1 < 1 then some ((-1), nx, ph, tt, xx, fr, fq, fd) else (if z1 ≤ 40 then (FL_X9_years_34 dv nx ph tt xx fu fp fr fq fd z1 z2 1000 0 nx ph tt z2 fr fq fd) else some ((-1), nx, ph, tt, xx, fr, fq, fd)))))
set_option maxHeartbeats 4000000 in
set_option maxRecDepth 100000 in
theorem c_X9_years (l : Launch) (dC : Nat → ClassId) (dI : Nat → Nat → Nat) (a : Nat → Nat) (k : Nat → ClassId) (dv : Int32) (nx : Int32) (ph : Int32) (tt : Int32) (hi : Int32) (xx : Int64) (fu : Nat → Int32) (fp : Nat → Int32) (fr : Nat → Int32) (fq : Nat → Int32) (fd : Nat → Int32) (z1 : Int32) (z2 : Int64) (A : Nat → Prop) (o : Int32 × Int32 × Int32 × Int32 × Int64 × (Nat → Int32) × (Nat → Int32) × (Nat → Int32)) (hG : F_X9_years dv nx ph tt xx fu fp fr fq fd z1 z2 = some o) : Met l yX9_years (.code yX9_years cX9_years 8 (some .int) :: wA) ({ frames := 6, cells := 0, slots := 0, locals := 144 }) (va_Pc [.ref (a 0), .int z1, .long z2] (q_W (dC, dI) A [((a 0), .inr (9, [.ref (a 1), .ref (a 3), .ref (a 4), .ref (a 7), .ref (a 10), .ref (a 14), .ref (a 16), .ref (a 18), .ref (a 19), .ref (a 21), .ref (a 23), .ref (a 25), .ref (a 27), .ref (a 28), .int hi])), ((a 14), .inr (0, [.ref (a 15), .ref (a 7)])), ((a 15), .inl ((k 15), 98, .inl fr)), ((a 7), .inr (5, [.ref (a 8), .ref (a 9), .int dv])), ((a 8), .inl ((k 8), 8, .inl fu)), ((a 9), .inl ((k 9), 48, .inl fp)), ((a 19), .inr (4, [.ref (a 20), .int nx, .int ph])), ((a 20), .inl ((k 20), 3920, .inl fq)), ((a 21), .inr (1, [.ref (a 22), .int tt])), ((a 22), .inl ((k 22), 300, .inl fd)), ((a 27), .inr (2, [.long xx]))] [((k 15), .int), ((k 8), .int), ((k 9), .int), ((k 20), .int), ((k 22), .int)])) (va_Qi (fun (r : Int32) (_ : Unit) => r = o.1 ∧ True) (fun (_ : Unit) t => q_B (dC, dI) A [((a 0), .inr (9, [.ref (a 1), .ref (a 3), .ref (a 4), .ref (a 7), .ref (a 10), .ref (a 14), .ref (a 16), .ref (a 18), .ref (a 19), .ref (a 21), .ref (a 23), .ref (a 25), .ref (a 27), .ref (a 28), .int hi])), ((a 14), .inr (0, [.ref (a 15), .ref (a 7)])), ((a 15), .inl ((k 15), 98, .inl (o.2.2.2.2.2.1))), ((a 7), .inr (5, [.ref (a 8), .ref (a 9), .int dv])), ((a 8), .inl ((k 8), 8, .inl fu)), ((a 9), .inl ((k 9), 48, .inl fp)), ((a 19), .inr (4, [.ref (a 20), .int (o.2.1), .int (o.2.2.1)])), ((a 20), .inl ((k 20), 3920, .inl (o.2.2.2.2.2.2.1))), ((a 21), .inr (1, [.ref (a 22), .int (o.2.2.2.1)])), ((a 22), .inl ((k 22), 300, .inl (o.2.2.2.2.2.2.2))), ((a 27), .inr (2, [.long (o.2.2.2.2.1)]))] [((k 15), .int), ((k 8), .int), ((k 9), .int), ((k 20), .int), ((k 22), .int)] t) A) 0 0 A := by
  refine Met.ofW (cc := cX9_years) (maxL := 8) (ret := (some .int)) (by decide) rfl ?_
  intro p e s m args below meth c s₁ B hml hv
  obtain ⟨rfl, hP, hK, hD, hA⟩ := hv
  have hx := B.exec
  have hb := B.bytes
  have hr := B.returns
  have hts := atoms_spec (ws := .code yX9_years cX9_years 8 (some .int) :: wA) B.pre
  have hown : s.vm.findClass RX9 = some m.cls := findClass_of_methodNamed B.named
  have hlocks := B.notSynchronized
  have hS : va_S A s.heap s.heap [] := va_S.rf
  have hl := lv_entry ([.ref (a 0), .int z1, .long z2]) (n := 8) (Nat.le_of_ble_eq_true rfl)
  rw [lg_entry_eq]
  generalize (lg_sl ([.ref (a 0), .int z1, .long z2]) ++ List.replicate (8 - (lg_sl ([.ref (a 0), .int z1, .long z2])).length) Slot.unset).toArray = ls at hl ⊢
  have hl : lv_has ls 8 [(0, .ref (a 0)), (1, .int z1), (2, .long z2)] := hl
  unfold F_X9_years at hG
  refine lv_aload_n hx hb dX9_years_0 rfl (lv_at hl 0 rfl) ?_
  refine va_get (D := (dC, dI)) (ci := 9) (v := .ref (a 7)) (C := RX9) (T := TX9) (N := 15) hx hb hts iA_9 hown hK hP 0 rfl rfl 3 (by decide) (hts (.fieldLink RX9 32 "HubTree" "plan" "LHubTree$Plan;") (List.mem_cons_of_mem _ m_26)) (fun _ h9 => h9) rfl dX9_years_1 ?_
  obtain ⟨o_1, r_2, hG⟩ := q_bi hG
  refine q_goi (v := o_1) (va_runV (As := []) (rest := []) ⟨hx, hb, hml, hown, hts⟩ (c_X5_isTold l dC dI (a 7) (a 8) (a 9) dv o_1 r_2) (cwV 0 hts (q_gV m_449 m_300 m_301 m_24 m_302) rfl rfl rfl hdV_yX5_isTold_0 ⟨Nat.le_of_ble_eq_true rfl, Nat.le_of_ble_eq_true rfl⟩) (q_preV hK hP (q := (RX5, TX5, 3)) (ci := 5) (q0 := 3) rfl rfl [3] rfl [] rfl) rfl rfl hl.1 rfl (lv_room (Nat.le_of_ble_eq_true rfl)) dX9_years_4 ⟨Nat.le_of_ble_eq_true rfl, Nat.le_of_ble_eq_true rfl⟩) hP hS (fun H locs hP hS => ?_)
  refine lv_if_eq (tgt := 21) hx hb dX9_years_7 (by decide) (fun c_3 => ?_) (fun c_3 => ?_)
  · have hG := q_ifp c_3 hG
    refine lv_iconst (v := (-1)) hx hb dX9_years_21 (by decide) ?_
    obtain rfl := Option.some.inj hG
    have hP9 := hP.sub (ws' := [((a 0), .inr (9, [.ref (a 1), .ref (a 3), .ref (a 4), .ref (a 7), .ref (a 10), .ref (a 14), .ref (a 16), .ref (a 18), .ref (a 19), .ref (a 21), .ref (a 23), .ref (a 25), .ref (a 27), .ref (a 28), .int hi])), ((a 14), .inr (0, [.ref (a 15), .ref (a 7)])), ((a 15), .inl ((k 15), 98, .inl fr)), ((a 7), .inr (5, [.ref (a 8), .ref (a 9), .int dv])), ((a 8), .inl ((k 8), 8, .inl fu)), ((a 9), .inl ((k 9), 48, .inl fp)), ((a 19), .inr (4, [.ref (a 20), .int nx, .int ph])), ((a 20), .inl ((k 20), 3920, .inl fq)), ((a 21), .inr (1, [.ref (a 22), .int tt])), ((a 22), .inl ((k 22), 300, .inl fd)), ((a 27), .inr (2, [.long xx]))]) [0, 1, 2, 3, 4, 5, 6, 7, 8, 9, 10] rfl
    have hD9 := hD.sub (ws' := [((a 0), .inr (9, [.ref (a 1), .ref (a 3), .ref (a 4), .ref (a 7), .ref (a 10), .ref (a 14), .ref (a 16), .ref (a 18), .ref (a 19), .ref (a 21), .ref (a 23), .ref (a 25), .ref (a 27), .ref (a 28), .int hi])), ((a 14), .inr (0, [.ref (a 15), .ref (a 7)])), ((a 15), .inl ((k 15), 98, .inl fr)), ((a 7), .inr (5, [.ref (a 8), .ref (a 9), .int dv])), ((a 8), .inl ((k 8), 8, .inl fu)), ((a 9), .inl ((k 9), 48, .inl fp)), ((a 19), .inr (4, [.ref (a 20), .int nx, .int ph])), ((a 20), .inl ((k 20), 3920, .inl fq)), ((a 21), .inr (1, [.ref (a 22), .int tt])), ((a 22), .inl ((k 22), 300, .inl fd)), ((a 27), .inr (2, [.long xx]))]) [0, 1, 2, 3, 4, 5, 6, 7, 8, 9, 10] (by decide) rfl
    have hK9 := hK.sub (tys' := [((k 15), .int), ((k 8), .int), ((k 9), .int), ((k 20), .int), ((k 22), .int)]) [0, 1, 2, 3, 4] rfl
    exact W.iret (v := (-1)) hx hb hr (fun t ht hW => ⟨⟨(-1), (), rfl, ⟨rfl, trivial⟩, by rw [ht]; exact hP9, va_K.moved hW.alike hK9, hD9⟩, hS.F ht⟩) hS.2.2 dX9_years_22
  · have hG := q_ifn c_3 hG
    refine lv_iload_n hx hb dX9_years_10 rfl (lv_at hl 1 rfl) ?_
    refine lv_iconst (v := 1) hx hb dX9_years_11 (by decide) ?_
    refine lv_icmp_lt (tgt := 21) hx hb dX9_years_12 (by decide) (fun c_4 => ?_) (fun c_4 => ?_)
    · have hG := q_ifp c_4 hG
      refine lv_iconst (v := (-1)) hx hb dX9_years_21 (by decide) ?_
      obtain rfl := Option.some.inj hG
      have hP9 := hP.sub (ws' := [((a 0), .inr (9, [.ref (a 1), .ref (a 3), .ref (a 4), .ref (a 7), .ref (a 10), .ref (a 14), .ref (a 16), .ref (a 18), .ref (a 19), .ref (a 21), .ref (a 23), .ref (a 25), .ref (a 27), .ref (a 28), .int hi])), ((a 14), .inr (0, [.ref (a 15), .ref (a 7)])), ((a 15), .inl ((k 15), 98, .inl fr)), ((a 7), .inr (5, [.ref (a 8), .ref (a 9), .int dv])), ((a 8), .inl ((k 8), 8, .inl fu)), ((a 9), .inl ((k 9), 48, .inl fp)), ((a 19), .inr (4, [.ref (a 20), .int nx, .int ph])), ((a 20), .inl ((k 20), 3920, .inl fq)), ((a 21), .inr (1, [.ref (a 22), .int tt])), ((a 22), .inl ((k 22), 300, .inl fd)), ((a 27), .inr (2, [.long xx]))]) [0, 1, 2, 3, 4, 5, 6, 7, 8, 9, 10] rfl
      have hD9 := hD.sub (ws' := [((a 0), .inr (9, [.ref (a 1), .ref (a 3), .ref (a 4), .ref (a 7), .ref (a 10), .ref (a 14), .ref (a 16), .ref (a 18), .ref (a 19), .ref (a 21), .ref (a 23), .ref (a 25), .ref (a 27), .ref (a 28), .int hi])), ((a 14), .inr (0, [.ref (a 15), .ref (a 7)])), ((a 15), .inl ((k 15), 98, .inl fr)), ((a 7), .inr (5, [.ref (a 8), .ref (a 9), .int dv])), ((a 8), .inl ((k 8), 8, .inl fu)), ((a 9), .inl ((k 9), 48, .inl fp)), ((a 19), .inr (4, [.ref (a 20), .int nx, .int ph])), ((a 20), .inl ((k 20), 3920, .inl fq)), ((a 21), .inr (1, [.ref (a 22), .int tt])), ((a 22), .inl ((k 22), 300, .inl fd)), ((a 27), .inr (2, [.long xx]))]) [0, 1, 2, 3, 4, 5, 6, 7, 8, 9, 10] (by decide) rfl
      have hK9 := hK.sub (tys' := [((k 15), .int), ((k 8), .int), ((k 9), .int), ((k 20), .int), ((k 22), .int)]) [0, 1, 2, 3, 4] rfl
      exact W.iret (v := (-1)) hx hb hr (fun t ht hW => ⟨⟨(-1), (), rfl, ⟨rfl, trivial⟩, by rw [ht]; exact hP9, va_K.moved hW.alike hK9, hD9⟩, hS.F ht⟩) hS.2.2 dX9_years_22
    · have hG := q_ifn c_4 hG
      refine lv_iload_n hx hb dX9_years_15 rfl (lv_at hl 1 rfl) ?_
      refine lv_bipush (v := 40) hx hb dX9_years_16 (by decide) ?_
      refine lv_icmp_le (tgt := 23) hx hb dX9_years_18 (by decide) (fun c_5 => ?_) (fun c_5 => ?_)
      · have hG := q_ifp c_5 hG
        refine lv_aload_n hx hb dX9_years_23 rfl (lv_at hl 0 rfl) ?_
        refine va_get (D := (dC, dI)) (ci := 9) (v := .ref (a 27)) (C := RX9) (T := TX9) (N := 15) hx hb hts iA_9 hown hK hP 0 rfl rfl 12 (by decide) (hts (.fieldLink RX9 86 "HubTree" "draws" "LHubTree$Draws;") (List.mem_cons_of_mem _ m_53)) (fun _ h9 => h9) rfl dX9_years_24 ?_
        refine lv_lload_n hx hb dX9_years_27 rfl (lv_at hl 2 rfl) ?_
        refine va_put (D := (dC, dI)) (ci := 2) (v := .long z2) (ty := .long) (C := RX2) (T := TX2) (N := 1) hx hb hts iA_2 tyX2 tyX2_ok nmX2 hown hK hP hD hS 10 rfl rfl 0 (by decide) (hts (.fieldLink RX9 240 "HubTree$Draws" "x" "J") (List.mem_cons_of_mem _ m_1091)) (fun _ h9 => h9) rfl (by decide +kernel) rfl rfl (Nat.le_of_ble_eq_true rfl) dX9_years_28 (fun H locs hP hD hS => ?_)
        have hP : va_P (dC, dI) vwCl [((a 0), .inr (9, [.ref (a 1), .ref (a 3), .ref (a 4), .ref (a 7), .ref (a 10), .ref (a 14), .ref (a 16), .ref (a 18), .ref (a 19), .ref (a 21), .ref (a 23), .ref (a 25), .ref (a 27), .ref (a 28), .int hi])), ((a 14), .inr (0, [.ref (a 15), .ref (a 7)])), ((a 15), .inl ((k 15), 98, .inl fr)), ((a 7), .inr (5, [.ref (a 8), .ref (a 9), .int dv])), ((a 8), .inl ((k 8), 8, .inl fu)), ((a 9), .inl ((k 9), 48, .inl fp)), ((a 19), .inr (4, [.ref (a 20), .int nx, .int ph])), ((a 20), .inl ((k 20), 3920, .inl fq)), ((a 21), .inr (1, [.ref (a 22), .int tt])), ((a 22), .inl ((k 22), 300, .inl fd)), ((a 27), .inr (2, [.long z2]))] H := hP
        have hD : va_D A [((a 0), .inr (9, [.ref (a 1), .ref (a 3), .ref (a 4), .ref (a 7), .ref (a 10), .ref (a 14), .ref (a 16), .ref (a 18), .ref (a 19), .ref (a 21), .ref (a 23), .ref (a 25), .ref (a 27), .ref (a 28), .int hi])), ((a 14), .inr (0, [.ref (a 15), .ref (a 7)])), ((a 15), .inl ((k 15), 98, .inl fr)), ((a 7), .inr (5, [.ref (a 8), .ref (a 9), .int dv])), ((a 8), .inl ((k 8), 8, .inl fu)), ((a 9), .inl ((k 9), 48, .inl fp)), ((a 19), .inr (4, [.ref (a 20), .int nx, .int ph])), ((a 20), .inl ((k 20), 3920, .inl fq)), ((a 21), .inr (1, [.ref (a 22), .int tt])), ((a 22), .inl ((k 22), 300, .inl fd)), ((a 27), .inr (2, [.long z2]))] := hD
        refine lv_iconst (v := 0) hx hb dX9_years_31 (by decide) ?_
        refine lv_istore (lv' := [(4, .int 0), (0, .ref (a 0)), (1, .int z1), (2, .long z2)]) hx hb dX9_years_32 hl (by decide) rfl (fun ls hl => ?_)
        have L_34 : ∀ (n_34 : Nat) (x4_34 : Int32) (nx_c : Int32) (ph_c : Int32) (tt_c : Int32) (xx_c : Int64) (fr_c : Nat → Int32) (fq_c : Nat → Int32) (fd_c : Nat → Int32) (H : Heap) (locs : List Loc) (ls : Array Slot), FL_X9_years_34 dv nx ph tt xx fu fp fr fq fd z1 z2 n_34 x4_34 nx_c ph_c tt_c xx_c fr_c fq_c fd_c = some o → va_P (dC, dI) vwCl [((a 0), .inr (9, [.ref (a 1), .ref (a 3), .ref (a 4), .ref (a 7), .ref (a 10), .ref (a 14), .ref (a 16), .ref (a 18), .ref (a 19), .ref (a 21), .ref (a 23), .ref (a 25), .ref (a 27), .ref (a 28), .int hi])), ((a 14), .inr (0, [.ref (a 15), .ref (a 7)])), ((a 15), .inl ((k 15), 98, .inl fr_c)), ((a 7), .inr (5, [.ref (a 8), .ref (a 9), .int dv])), ((a 8), .inl ((k 8), 8, .inl fu)), ((a 9), .inl ((k 9), 48, .inl fp)), ((a 19), .inr (4, [.ref (a 20), .int nx_c, .int ph_c])), ((a 20), .inl ((k 20), 3920, .inl fq_c)), ((a 21), .inr (1, [.ref (a 22), .int tt_c])), ((a 22), .inl ((k 22), 300, .inl fd_c)), ((a 27), .inr (2, [.long xx_c]))] H → va_D A [((a 0), .inr (9, [.ref (a 1), .ref (a 3), .ref (a 4), .ref (a 7), .ref (a 10), .ref (a 14), .ref (a 16), .ref (a 18), .ref (a 19), .ref (a 21), .ref (a 23), .ref (a 25), .ref (a 27), .ref (a 28), .int hi])), ((a 14), .inr (0, [.ref (a 15), .ref (a 7)])), ((a 15), .inl ((k 15), 98, .inl fr_c)), ((a 7), .inr (5, [.ref (a 8), .ref (a 9), .int dv])), ((a 8), .inl ((k 8), 8, .inl fu)), ((a 9), .inl ((k 9), 48, .inl fp)), ((a 19), .inr (4, [.ref (a 20), .int nx_c, .int ph_c])), ((a 20), .inl ((k 20), 3920, .inl fq_c)), ((a 21), .inr (1, [.ref (a 22), .int tt_c])), ((a 22), .inl ((k 22), 300, .inl fd_c)), ((a 27), .inr (2, [.long xx_c]))] → va_S A s.heap H locs → lv_has ls 8 [(4, .int x4_34), (0, .ref (a 0)), (1, .int z1), (2, .long z2)] → W p l e (headSpec (.code yX9_years cX9_years 8 (some .int) :: wA) ({ frames := 6, cells := 0, slots := 0, locals := 144 })).room s m #[.ref (a 0), .int z1, .long z2] below meth c H locs 0 0 (MQ below (va_Qi (fun (r : Int32) (_ : Unit) => r = o.1 ∧ True) (fun (_ : Unit) t => q_B (dC, dI) A [((a 0), .inr (9, [.ref (a 1), .ref (a 3), .ref (a 4), .ref (a 7), .ref (a 10), .ref (a 14), .ref (a 16), .ref (a 18), .ref (a 19), .ref (a 21), .ref (a 23), .ref (a 25), .ref (a 27), .ref (a 28), .int hi])), ((a 14), .inr (0, [.ref (a 15), .ref (a 7)])), ((a 15), .inl ((k 15), 98, .inl (o.2.2.2.2.2.1))), ((a 7), .inr (5, [.ref (a 8), .ref (a 9), .int dv])), ((a 8), .inl ((k 8), 8, .inl fu)), ((a 9), .inl ((k 9), 48, .inl fp)), ((a 19), .inr (4, [.ref (a 20), .int (o.2.1), .int (o.2.2.1)])), ((a 20), .inl ((k 20), 3920, .inl (o.2.2.2.2.2.2.1))), ((a 21), .inr (1, [.ref (a 22), .int (o.2.2.2.1)])), ((a 22), .inl ((k 22), 300, .inl (o.2.2.2.2.2.2.2))), ((a 27), .inr (2, [.long (o.2.2.2.2.1)]))] [((k 15), .int), ((k 8), .int), ((k 9), .int), ((k 20), .int), ((k 22), .int)] t) A) #[.ref (a 0), .int z1, .long z2] s 0 0 A) (F0 m 34 ls []) := by
          intro n_34
          induction n_34 with
          | zero =>
            intro x4_34 nx_c ph_c tt_c xx_c fr_c fq_c fd_c H locs ls hG
            exact q_no hG
          | succ n_34 ih_34 =>
            intro x4_34 nx_c ph_c tt_c xx_c fr_c fq_c fd_c H locs ls hG hP hD hS hl
            unfold FL_X9_years_34 at hG
            refine lv_iload hx hb dX9_years_34 (lv_at hl 0 rfl) ?_
            refine lv_iload_n hx hb dX9_years_36 rfl (lv_at hl 2 rfl) ?_
            refine lv_icmp_ge (tgt := 237) hx hb dX9_years_37 (by decide) (fun c_6 => ?_) (fun c_6 => ?_)
            · have hG := q_ifp c_6 hG
              refine lv_aload_n hx hb dX9_years_237 rfl (lv_at hl 1 rfl) ?_
              refine va_get (D := (dC, dI)) (ci := 9) (v := .ref (a 14)) (C := RX9) (T := TX9) (N := 15) hx hb hts iA_9 hown hK hP 0 rfl rfl 5 (by decide) (hts (.fieldLink RX9 47 "HubTree" "now" "LHubTree$Bus;") (List.mem_cons_of_mem _ m_34)) (fun _ h9 => h9) rfl dX9_years_238 ?_
              refine va_get (D := (dC, dI)) (ci := 0) (v := .ref (a 15)) (C := RX0) (T := TX0) (N := 2) hx hb hts iA_0 hown hK hP 1 rfl rfl 0 (by decide) (hts (.fieldLink RX9 157 "HubTree$Bus" "row" "[I") (List.mem_cons_of_mem _ m_462)) (fun _ h9 => h9) rfl dX9_years_241 ?_
              refine lv_bipush (v := 96) hx hb dX9_years_244 (by decide) ?_
              refine va_iald hx hb hK hP 2 0 rfl rfl (i := 96) (vp_in_iff.mpr (by decide)) dX9_years_246 ?_
              refine q_top (y := (fr_c 96)) rfl ?_
              obtain rfl := Option.some.inj hG
              have hP9 := hP.sub (ws' := [((a 0), .inr (9, [.ref (a 1), .ref (a 3), .ref (a 4), .ref (a 7), .ref (a 10), .ref (a 14), .ref (a 16), .ref (a 18), .ref (a 19), .ref (a 21), .ref (a 23), .ref (a 25), .ref (a 27), .ref (a 28), .int hi])), ((a 14), .inr (0, [.ref (a 15), .ref (a 7)])), ((a 15), .inl ((k 15), 98, .inl fr_c)), ((a 7), .inr (5, [.ref (a 8), .ref (a 9), .int dv])), ((a 8), .inl ((k 8), 8, .inl fu)), ((a 9), .inl ((k 9), 48, .inl fp)), ((a 19), .inr (4, [.ref (a 20), .int nx_c, .int ph_c])), ((a 20), .inl ((k 20), 3920, .inl fq_c)), ((a 21), .inr (1, [.ref (a 22), .int tt_c])), ((a 22), .inl ((k 22), 300, .inl fd_c)), ((a 27), .inr (2, [.long xx_c]))]) [0, 1, 2, 3, 4, 5, 6, 7, 8, 9, 10] rfl
              have hD9 := hD.sub (ws' := [((a 0), .inr (9, [.ref (a 1), .ref (a 3), .ref (a 4), .ref (a 7), .ref (a 10), .ref (a 14), .ref (a 16), .ref (a 18), .ref (a 19), .ref (a 21), .ref (a 23), .ref (a 25), .ref (a 27), .ref (a 28), .int hi])), ((a 14), .inr (0, [.ref (a 15), .ref (a 7)])), ((a 15), .inl ((k 15), 98, .inl fr_c)), ((a 7), .inr (5, [.ref (a 8), .ref (a 9), .int dv])), ((a 8), .inl ((k 8), 8, .inl fu)), ((a 9), .inl ((k 9), 48, .inl fp)), ((a 19), .inr (4, [.ref (a 20), .int nx_c, .int ph_c])), ((a 20), .inl ((k 20), 3920, .inl fq_c)), ((a 21), .inr (1, [.ref (a 22), .int tt_c])), ((a 22), .inl ((k 22), 300, .inl fd_c)), ((a 27), .inr (2, [.long xx_c]))]) [0, 1, 2, 3, 4, 5, 6, 7, 8, 9, 10] (by decide) rfl
              have hK9 := hK.sub (tys' := [((k 15), .int), ((k 8), .int), ((k 9), .int), ((k 20), .int), ((k 22), .int)]) [0, 1, 2, 3, 4] rfl
              exact W.iret (v := (fr_c 96)) hx hb hr (fun t ht hW => ⟨⟨(fr_c 96), (), rfl, ⟨rfl, trivial⟩, by rw [ht]; exact hP9, va_K.moved hW.alike hK9, hD9⟩, hS.F ht⟩) hS.2.2 dX9_years_247
            · have hG := q_ifn c_6 hG
              refine lv_aload_n hx hb dX9_years_40 rfl (lv_at hl 1 rfl) ?_
              refine va_get (D := (dC, dI)) (ci := 9) (v := .ref (a 27)) (C := RX9) (T := TX9) (N := 15) hx hb hts iA_9 hown hK hP 0 rfl rfl 12 (by decide) (hts (.fieldLink RX9 86 "HubTree" "draws" "LHubTree$Draws;") (List.mem_cons_of_mem _ m_53)) (fun _ h9 => h9) rfl dX9_years_41 ?_
              refine lv_bipush (v := 8) hx hb dX9_years_44 (by decide) ?_
              obtain ⟨o_7, r_8, hG⟩ := q_bi hG
              refine q_goi2 (v := o_7.1) (wr := [((a 0), .inr (9, [.ref (a 1), .ref (a 3), .ref (a 4), .ref (a 7), .ref (a 10), .ref (a 14), .ref (a 16), .ref (a 18), .ref (a 19), .ref (a 21), .ref (a 23), .ref (a 25), .ref (a 27), .ref (a 28), .int hi])), ((a 14), .inr (0, [.ref (a 15), .ref (a 7)])), ((a 15), .inl ((k 15), 98, .inl fr_c)), ((a 7), .inr (5, [.ref (a 8), .ref (a 9), .int dv])), ((a 8), .inl ((k 8), 8, .inl fu)), ((a 9), .inl ((k 9), 48, .inl fp)), ((a 19), .inr (4, [.ref (a 20), .int nx_c, .int ph_c])), ((a 20), .inl ((k 20), 3920, .inl fq_c)), ((a 21), .inr (1, [.ref (a 22), .int tt_c])), ((a 22), .inl ((k 22), 300, .inl fd_c))]) (va_runV (As := [.int 8]) (rest := []) ⟨hx, hb, hml, hown, hts⟩ (c_X2_next l dC dI (a 27) xx_c 8 (va_A [((a 27), .inr (2, [.long xx_c]))] H.size) o_7 r_8) (cwV 1 hts (q_gV m_1092 m_1093 m_1094 m_52 m_1095) rfl rfl rfl hdV_yX2_next_1 ⟨Nat.le_of_ble_eq_true rfl, Nat.le_of_ble_eq_true rfl⟩) (q_preWV hK hP hD (q := (RX2, TX2, 1)) (ci := 2) (q0 := 10) rfl rfl [10] (by decide) rfl rfl [] rfl) rfl rfl hl.1 rfl (lv_room (Nat.le_of_ble_eq_true rfl)) dX9_years_46 ⟨Nat.le_of_ble_eq_true rfl, Nat.le_of_ble_eq_true rfl⟩) hK hP hD hS hA [10] [0, 1, 2, 3, 4, 5, 6, 7, 8, 9] rfl rfl (by decide) (by decide) (fun _ H locs _ hP hD hK9 hS => ?_)
              have hP : va_P (dC, dI) vwCl [((a 0), .inr (9, [.ref (a 1), .ref (a 3), .ref (a 4), .ref (a 7), .ref (a 10), .ref (a 14), .ref (a 16), .ref (a 18), .ref (a 19), .ref (a 21), .ref (a 23), .ref (a 25), .ref (a 27), .ref (a 28), .int hi])), ((a 14), .inr (0, [.ref (a 15), .ref (a 7)])), ((a 15), .inl ((k 15), 98, .inl fr_c)), ((a 7), .inr (5, [.ref (a 8), .ref (a 9), .int dv])), ((a 8), .inl ((k 8), 8, .inl fu)), ((a 9), .inl ((k 9), 48, .inl fp)), ((a 19), .inr (4, [.ref (a 20), .int nx_c, .int ph_c])), ((a 20), .inl ((k 20), 3920, .inl fq_c)), ((a 21), .inr (1, [.ref (a 22), .int tt_c])), ((a 22), .inl ((k 22), 300, .inl fd_c)), ((a 27), .inr (2, [.long (o_7.2)]))] H := hP.sub [0, 1, 2, 3, 4, 5, 6, 7, 8, 9, 10] rfl
              have hD : va_D A [((a 0), .inr (9, [.ref (a 1), .ref (a 3), .ref (a 4), .ref (a 7), .ref (a 10), .ref (a 14), .ref (a 16), .ref (a 18), .ref (a 19), .ref (a 21), .ref (a 23), .ref (a 25), .ref (a 27), .ref (a 28), .int hi])), ((a 14), .inr (0, [.ref (a 15), .ref (a 7)])), ((a 15), .inl ((k 15), 98, .inl fr_c)), ((a 7), .inr (5, [.ref (a 8), .ref (a 9), .int dv])), ((a 8), .inl ((k 8), 8, .inl fu)), ((a 9), .inl ((k 9), 48, .inl fp)), ((a 19), .inr (4, [.ref (a 20), .int nx_c, .int ph_c])), ((a 20), .inl ((k 20), 3920, .inl fq_c)), ((a 21), .inr (1, [.ref (a 22), .int tt_c])), ((a 22), .inl ((k 22), 300, .inl fd_c)), ((a 27), .inr (2, [.long (o_7.2)]))] := hD.sub [0, 1, 2, 3, 4, 5, 6, 7, 8, 9, 10] (by decide) rfl
              refine lv_istore (lv' := [(5, .int o_7.1), (4, .int x4_34), (0, .ref (a 0)), (1, .int z1), (2, .long z2)]) hx hb dX9_years_49 hl (by decide) rfl (fun ls hl => ?_)
              refine lv_iload hx hb dX9_years_51 (lv_at hl 0 rfl) ?_
              refine lv_iconst (v := 2) hx hb dX9_years_53 (by decide) ?_
              refine lv_icmp_gt (tgt := 134) hx hb dX9_years_54 (by decide) (fun c_9 => ?_) (fun c_9 => ?_)
              · have hG := q_ifp c_9 hG
                refine lv_iload hx hb dX9_years_134 (lv_at hl 0 rfl) ?_
                refine lv_iconst (v := 3) hx hb dX9_years_136 (by decide) ?_
                refine lv_icmp_ne (tgt := 170) hx hb dX9_years_137 (by decide) (fun c_10 => ?_) (fun c_10 => ?_)
                · have hG := q_ifn c_10 hG
                  refine lv_iload hx hb dX9_years_170 (lv_at hl 0 rfl) ?_
                  refine lv_bipush (v := 6) hx hb dX9_years_172 (by decide) ?_
                  refine lv_icmp_gt (tgt := 204) hx hb dX9_years_174 (by decide) (fun c_11 => ?_) (fun c_11 => ?_)
                  · have hG := q_ifp c_11 hG
                    refine lv_aload_n hx hb dX9_years_204 rfl (lv_at hl 2 rfl) ?_
                    refine lv_aload_n hx hb dX9_years_205 rfl (lv_at hl 2 rfl) ?_
                    refine va_get (D := (dC, dI)) (ci := 9) (v := .ref (a 14)) (C := RX9) (T := TX9) (N := 15) hx hb hts iA_9 hown hK hP 0 rfl rfl 5 (by decide) (hts (.fieldLink RX9 47 "HubTree" "now" "LHubTree$Bus;") (List.mem_cons_of_mem _ m_34)) (fun _ h9 => h9) rfl dX9_years_206 ?_
                    refine lv_iconst (v := 1) hx hb dX9_years_209 (by decide) ?_
                    refine lv_iconst (v := 3) hx hb dX9_years_210 (by decide) ?_
                    refine lv_aload_n hx hb dX9_years_211 rfl (lv_at hl 2 rfl) ?_
                    refine va_get (D := (dC, dI)) (ci := 9) (v := .ref (a 27)) (C := RX9) (T := TX9) (N := 15) hx hb hts iA_9 hown hK hP 0 rfl rfl 12 (by decide) (hts (.fieldLink RX9 86 "HubTree" "draws" "LHubTree$Draws;") (List.mem_cons_of_mem _ m_53)) (fun _ h9 => h9) rfl dX9_years_212 ?_
                    refine lv_aload_n hx hb dX9_years_215 rfl (lv_at hl 2 rfl) ?_
                    refine va_get (D := (dC, dI)) (ci := 9) (v := .ref (a 7)) (C := RX9) (T := TX9) (N := 15) hx hb hts iA_9 hown hK hP 0 rfl rfl 3 (by decide) (hts (.fieldLink RX9 32 "HubTree" "plan" "LHubTree$Plan;") (List.mem_cons_of_mem _ m_26)) (fun _ h9 => h9) rfl dX9_years_216 ?_
                    refine va_get (D := (dC, dI)) (ci := 5) (v := .int dv) (C := RX5) (T := TX5) (N := 3) hx hb hts iA_5 hown hK hP 3 rfl rfl 2 (by decide) (hts (.fieldLink RX9 137 "HubTree$Plan" "devices" "I") (List.mem_cons_of_mem _ m_390)) (fun _ h9 => h9) rfl dX9_years_219 ?_
                    obtain ⟨o_12, r_13, hG⟩ := q_bi hG
                    refine q_goi2 (v := o_12.1) (wr := [((a 0), .inr (9, [.ref (a 1), .ref (a 3), .ref (a 4), .ref (a 7), .ref (a 10), .ref (a 14), .ref (a 16), .ref (a 18), .ref (a 19), .ref (a 21), .ref (a 23), .ref (a 25), .ref (a 27), .ref (a 28), .int hi])), ((a 14), .inr (0, [.ref (a 15), .ref (a 7)])), ((a 15), .inl ((k 15), 98, .inl fr_c)), ((a 7), .inr (5, [.ref (a 8), .ref (a 9), .int dv])), ((a 8), .inl ((k 8), 8, .inl fu)), ((a 9), .inl ((k 9), 48, .inl fp)), ((a 19), .inr (4, [.ref (a 20), .int nx_c, .int ph_c])), ((a 20), .inl ((k 20), 3920, .inl fq_c)), ((a 21), .inr (1, [.ref (a 22), .int tt_c])), ((a 22), .inl ((k 22), 300, .inl fd_c))]) (va_runV (As := [.int dv]) (rest := [.int 3, .int 1, .ref (a 14), .ref (a 0)]) ⟨hx, hb, hml, hown, hts⟩ (c_X2_next l dC dI (a 27) (o_7.2) dv (va_A [((a 27), .inr (2, [.long (o_7.2)]))] H.size) o_12 r_13) (cwV 1 hts (q_gV m_1092 m_1093 m_1094 m_52 m_1095) rfl rfl rfl hdV_yX2_next_1 ⟨Nat.le_of_ble_eq_true rfl, Nat.le_of_ble_eq_true rfl⟩) (q_preWV hK hP hD (q := (RX2, TX2, 1)) (ci := 2) (q0 := 10) rfl rfl [10] (by decide) rfl rfl [] rfl) rfl rfl hl.1 rfl (lv_room (Nat.le_of_ble_eq_true rfl)) dX9_years_222 ⟨Nat.le_of_ble_eq_true rfl, Nat.le_of_ble_eq_true rfl⟩) hK hP hD hS hA [10] [0, 1, 2, 3, 4, 5, 6, 7, 8, 9] rfl rfl (by decide) (by decide) (fun _ H locs _ hP hD hK9 hS => ?_)
                    have hP : va_P (dC, dI) vwCl [((a 0), .inr (9, [.ref (a 1), .ref (a 3), .ref (a 4), .ref (a 7), .ref (a 10), .ref (a 14), .ref (a 16), .ref (a 18), .ref (a 19), .ref (a 21), .ref (a 23), .ref (a 25), .ref (a 27), .ref (a 28), .int hi])), ((a 14), .inr (0, [.ref (a 15), .ref (a 7)])), ((a 15), .inl ((k 15), 98, .inl fr_c)), ((a 7), .inr (5, [.ref (a 8), .ref (a 9), .int dv])), ((a 8), .inl ((k 8), 8, .inl fu)), ((a 9), .inl ((k 9), 48, .inl fp)), ((a 19), .inr (4, [.ref (a 20), .int nx_c, .int ph_c])), ((a 20), .inl ((k 20), 3920, .inl fq_c)), ((a 21), .inr (1, [.ref (a 22), .int tt_c])), ((a 22), .inl ((k 22), 300, .inl fd_c)), ((a 27), .inr (2, [.long (o_12.2)]))] H := hP.sub [0, 1, 2, 3, 4, 5, 6, 7, 8, 9, 10] rfl
                    have hD : va_D A [((a 0), .inr (9, [.ref (a 1), .ref (a 3), .ref (a 4), .ref (a 7), .ref (a 10), .ref (a 14), .ref (a 16), .ref (a 18), .ref (a 19), .ref (a 21), .ref (a 23), .ref (a 25), .ref (a 27), .ref (a 28), .int hi])), ((a 14), .inr (0, [.ref (a 15), .ref (a 7)])), ((a 15), .inl ((k 15), 98, .inl fr_c)), ((a 7), .inr (5, [.ref (a 8), .ref (a 9), .int dv])), ((a 8), .inl ((k 8), 8, .inl fu)), ((a 9), .inl ((k 9), 48, .inl fp)), ((a 19), .inr (4, [.ref (a 20), .int nx_c, .int ph_c])), ((a 20), .inl ((k 20), 3920, .inl fq_c)), ((a 21), .inr (1, [.ref (a 22), .int tt_c])), ((a 22), .inl ((k 22), 300, .inl fd_c)), ((a 27), .inr (2, [.long (o_12.2)]))] := hD.sub [0, 1, 2, 3, 4, 5, 6, 7, 8, 9, 10] (by decide) rfl
                    refine lv_iconst (v := (-1)) hx hb dX9_years_225 (by decide) ?_
                    refine lv_iconst (v := (-1)) hx hb dX9_years_226 (by decide) ?_
                    obtain ⟨o_14, r_15, hG⟩ := q_bi hG
                    refine q_goi2 (v := o_14.1) (wr := [((a 27), .inr (2, [.long (o_12.2)]))]) (va_runV (As := [.ref (a 14), .int 1, .int 3, .int o_12.1, .int (-1), .int (-1)]) (rest := []) ⟨hx, hb, hml, hown, hts⟩ (c_X9_attempt l dC dI a k (a 14) (a 15) (k 15) hi dv nx_c ph_c tt_c fr_c fu fp fq_c fd_c 1 3 o_12.1 (-1) (-1) (va_A [((a 0), .inr (9, [.ref (a 1), .ref (a 3), .ref (a 4), .ref (a 7), .ref (a 10), .ref (a 14), .ref (a 16), .ref (a 18), .ref (a 19), .ref (a 21), .ref (a 23), .ref (a 25), .ref (a 27), .ref (a 28), .int hi])), ((a 14), .inr (0, [.ref (a 15), .ref (a 7)])), ((a 15), .inl ((k 15), 98, .inl fr_c)), ((a 7), .inr (5, [.ref (a 8), .ref (a 9), .int dv])), ((a 8), .inl ((k 8), 8, .inl fu)), ((a 9), .inl ((k 9), 48, .inl fp)), ((a 19), .inr (4, [.ref (a 20), .int nx_c, .int ph_c])), ((a 20), .inl ((k 20), 3920, .inl fq_c)), ((a 21), .inr (1, [.ref (a 22), .int tt_c])), ((a 22), .inl ((k 22), 300, .inl fd_c))] H.size) o_14 r_15) (cwV 6 hts (q_gV m_722 m_723 m_724 m_2 m_725) rfl rfl rfl hdV_yX9_attempt_6 ⟨Nat.le_of_ble_eq_true rfl, Nat.le_of_ble_eq_true rfl⟩) (q_preWV hK hP hD (q := (RX9, TX9, 15)) (ci := 9) (q0 := 0) rfl rfl [0, 1, 2, 3, 4, 5, 6, 7, 8, 9] (by decide) rfl rfl [0, 1, 2, 3, 4] rfl) rfl rfl hl.1 rfl (lv_room (Nat.le_of_ble_eq_true rfl)) dX9_years_227 ⟨Nat.le_of_ble_eq_true rfl, Nat.le_of_ble_eq_true rfl⟩) hK hP hD hS hA [0, 1, 2, 3, 4, 5, 6, 7, 8, 9] [10] rfl rfl (by decide) (by decide) (fun _ H locs _ hP hD hK9 hS => ?_)
                    have hP : va_P (dC, dI) vwCl [((a 0), .inr (9, [.ref (a 1), .ref (a 3), .ref (a 4), .ref (a 7), .ref (a 10), .ref (a 14), .ref (a 16), .ref (a 18), .ref (a 19), .ref (a 21), .ref (a 23), .ref (a 25), .ref (a 27), .ref (a 28), .int hi])), ((a 14), .inr (0, [.ref (a 15), .ref (a 7)])), ((a 15), .inl ((k 15), 98, .inl (o_14.2.2.2.2.1))), ((a 7), .inr (5, [.ref (a 8), .ref (a 9), .int dv])), ((a 8), .inl ((k 8), 8, .inl fu)), ((a 9), .inl ((k 9), 48, .inl fp)), ((a 19), .inr (4, [.ref (a 20), .int (o_14.2.1), .int (o_14.2.2.1)])), ((a 20), .inl ((k 20), 3920, .inl (o_14.2.2.2.2.2.1))), ((a 21), .inr (1, [.ref (a 22), .int (o_14.2.2.2.1)])), ((a 22), .inl ((k 22), 300, .inl (o_14.2.2.2.2.2.2))), ((a 27), .inr (2, [.long (o_12.2)]))] H := hP.sub [1, 2, 3, 4, 5, 6, 7, 8, 9, 10, 0] rfl
                    have hD : va_D A [((a 0), .inr (9, [.ref (a 1), .ref (a 3), .ref (a 4), .ref (a 7), .ref (a 10), .ref (a 14), .ref (a 16), .ref (a 18), .ref (a 19), .ref (a 21), .ref (a 23), .ref (a 25), .ref (a 27), .ref (a 28), .int hi])), ((a 14), .inr (0, [.ref (a 15), .ref (a 7)])), ((a 15), .inl ((k 15), 98, .inl (o_14.2.2.2.2.1))), ((a 7), .inr (5, [.ref (a 8), .ref (a 9), .int dv])), ((a 8), .inl ((k 8), 8, .inl fu)), ((a 9), .inl ((k 9), 48, .inl fp)), ((a 19), .inr (4, [.ref (a 20), .int (o_14.2.1), .int (o_14.2.2.1)])), ((a 20), .inl ((k 20), 3920, .inl (o_14.2.2.2.2.2.1))), ((a 21), .inr (1, [.ref (a 22), .int (o_14.2.2.2.1)])), ((a 22), .inl ((k 22), 300, .inl (o_14.2.2.2.2.2.2))), ((a 27), .inr (2, [.long (o_12.2)]))] := hD.sub [1, 2, 3, 4, 5, 6, 7, 8, 9, 10, 0] (by decide) rfl
                    refine lv_pop hx hb dX9_years_230 rfl ?_
                    refine lv_iinc (v := (x4_34 + 1)) (lv' := [(4, .int (x4_34 + 1)), (5, .int o_7.1), (0, .ref (a 0)), (1, .int z1), (2, .long z2)]) hx hb dX9_years_231 hl (k := 1) rfl (rfl) (by decide) rfl (fun ls hl => ?_)
                    refine lv_goto (tgt := 34) hx hb dX9_years_234 (by decide) ?_
                    exact ih_34 (x4_34 + 1) (o_14.2.1) (o_14.2.2.1) (o_14.2.2.2.1) (o_12.2) (o_14.2.2.2.2.1) (o_14.2.2.2.2.2.1) (o_14.2.2.2.2.2.2) H locs ls hG hP hD hS (lv_sub hl [0, 2, 3, 4] rfl)
                  · have hG := q_ifn c_11 hG
                    refine lv_aload_n hx hb dX9_years_177 rfl (lv_at hl 2 rfl) ?_
                    refine lv_aload_n hx hb dX9_years_178 rfl (lv_at hl 2 rfl) ?_
                    refine va_get (D := (dC, dI)) (ci := 9) (v := .ref (a 14)) (C := RX9) (T := TX9) (N := 15) hx hb hts iA_9 hown hK hP 0 rfl rfl 5 (by decide) (hts (.fieldLink RX9 47 "HubTree" "now" "LHubTree$Bus;") (List.mem_cons_of_mem _ m_34)) (fun _ h9 => h9) rfl dX9_years_179 ?_
                    refine lv_iconst (v := 1) hx hb dX9_years_182 (by decide) ?_
                    refine lv_iconst (v := 2) hx hb dX9_years_183 (by decide) ?_
                    refine lv_aload_n hx hb dX9_years_184 rfl (lv_at hl 2 rfl) ?_
                    refine va_get (D := (dC, dI)) (ci := 9) (v := .ref (a 27)) (C := RX9) (T := TX9) (N := 15) hx hb hts iA_9 hown hK hP 0 rfl rfl 12 (by decide) (hts (.fieldLink RX9 86 "HubTree" "draws" "LHubTree$Draws;") (List.mem_cons_of_mem _ m_53)) (fun _ h9 => h9) rfl dX9_years_185 ?_
                    refine lv_bipush (v := 9) hx hb dX9_years_188 (by decide) ?_
                    obtain ⟨o_16, r_17, hG⟩ := q_bi hG
                    refine q_goi2 (v := o_16.1) (wr := [((a 0), .inr (9, [.ref (a 1), .ref (a 3), .ref (a 4), .ref (a 7), .ref (a 10), .ref (a 14), .ref (a 16), .ref (a 18), .ref (a 19), .ref (a 21), .ref (a 23), .ref (a 25), .ref (a 27), .ref (a 28), .int hi])), ((a 14), .inr (0, [.ref (a 15), .ref (a 7)])), ((a 15), .inl ((k 15), 98, .inl fr_c)), ((a 7), .inr (5, [.ref (a 8), .ref (a 9), .int dv])), ((a 8), .inl ((k 8), 8, .inl fu)), ((a 9), .inl ((k 9), 48, .inl fp)), ((a 19), .inr (4, [.ref (a 20), .int nx_c, .int ph_c])), ((a 20), .inl ((k 20), 3920, .inl fq_c)), ((a 21), .inr (1, [.ref (a 22), .int tt_c])), ((a 22), .inl ((k 22), 300, .inl fd_c))]) (va_runV (As := [.int 9]) (rest := [.int 2, .int 1, .ref (a 14), .ref (a 0)]) ⟨hx, hb, hml, hown, hts⟩ (c_X2_next l dC dI (a 27) (o_7.2) 9 (va_A [((a 27), .inr (2, [.long (o_7.2)]))] H.size) o_16 r_17) (cwV 1 hts (q_gV m_1092 m_1093 m_1094 m_52 m_1095) rfl rfl rfl hdV_yX2_next_1 ⟨Nat.le_of_ble_eq_true rfl, Nat.le_of_ble_eq_true rfl⟩) (q_preWV hK hP hD (q := (RX2, TX2, 1)) (ci := 2) (q0 := 10) rfl rfl [10] (by decide) rfl rfl [] rfl) rfl rfl hl.1 rfl (lv_room (Nat.le_of_ble_eq_true rfl)) dX9_years_190 ⟨Nat.le_of_ble_eq_true rfl, Nat.le_of_ble_eq_true rfl⟩) hK hP hD hS hA [10] [0, 1, 2, 3, 4, 5, 6, 7, 8, 9] rfl rfl (by decide) (by decide) (fun _ H locs _ hP hD hK9 hS => ?_)
                    have hP : va_P (dC, dI) vwCl [((a 0), .inr (9, [.ref (a 1), .ref (a 3), .ref (a 4), .ref (a 7), .ref (a 10), .ref (a 14), .ref (a 16), .ref (a 18), .ref (a 19), .ref (a 21), .ref (a 23), .ref (a 25), .ref (a 27), .ref (a 28), .int hi])), ((a 14), .inr (0, [.ref (a 15), .ref (a 7)])), ((a 15), .inl ((k 15), 98, .inl fr_c)), ((a 7), .inr (5, [.ref (a 8), .ref (a 9), .int dv])), ((a 8), .inl ((k 8), 8, .inl fu)), ((a 9), .inl ((k 9), 48, .inl fp)), ((a 19), .inr (4, [.ref (a 20), .int nx_c, .int ph_c])), ((a 20), .inl ((k 20), 3920, .inl fq_c)), ((a 21), .inr (1, [.ref (a 22), .int tt_c])), ((a 22), .inl ((k 22), 300, .inl fd_c)), ((a 27), .inr (2, [.long (o_16.2)]))] H := hP.sub [0, 1, 2, 3, 4, 5, 6, 7, 8, 9, 10] rfl
                    have hD : va_D A [((a 0), .inr (9, [.ref (a 1), .ref (a 3), .ref (a 4), .ref (a 7), .ref (a 10), .ref (a 14), .ref (a 16), .ref (a 18), .ref (a 19), .ref (a 21), .ref (a 23), .ref (a 25), .ref (a 27), .ref (a 28), .int hi])), ((a 14), .inr (0, [.ref (a 15), .ref (a 7)])), ((a 15), .inl ((k 15), 98, .inl fr_c)), ((a 7), .inr (5, [.ref (a 8), .ref (a 9), .int dv])), ((a 8), .inl ((k 8), 8, .inl fu)), ((a 9), .inl ((k 9), 48, .inl fp)), ((a 19), .inr (4, [.ref (a 20), .int nx_c, .int ph_c])), ((a 20), .inl ((k 20), 3920, .inl fq_c)), ((a 21), .inr (1, [.ref (a 22), .int tt_c])), ((a 22), .inl ((k 22), 300, .inl fd_c)), ((a 27), .inr (2, [.long (o_16.2)]))] := hD.sub [0, 1, 2, 3, 4, 5, 6, 7, 8, 9, 10] (by decide) rfl
                    refine lv_iconst (v := 1) hx hb dX9_years_193 (by decide) ?_
                    refine lv_iadd hx hb dX9_years_194 ?_
                    refine lv_iconst (v := (-1)) hx hb dX9_years_195 (by decide) ?_
                    refine lv_iconst (v := (-1)) hx hb dX9_years_196 (by decide) ?_
                    obtain ⟨o_18, r_19, hG⟩ := q_bi hG
                    refine q_goi2 (v := o_18.1) (wr := [((a 27), .inr (2, [.long (o_16.2)]))]) (va_runV (As := [.ref (a 14), .int 1, .int 2, .int (o_16.1 + 1), .int (-1), .int (-1)]) (rest := []) ⟨hx, hb, hml, hown, hts⟩ (c_X9_attempt l dC dI a k (a 14) (a 15) (k 15) hi dv nx_c ph_c tt_c fr_c fu fp fq_c fd_c 1 2 (o_16.1 + 1) (-1) (-1) (va_A [((a 0), .inr (9, [.ref (a 1), .ref (a 3), .ref (a 4), .ref (a 7), .ref (a 10), .ref (a 14), .ref (a 16), .ref (a 18), .ref (a 19), .ref (a 21), .ref (a 23), .ref (a 25), .ref (a 27), .ref (a 28), .int hi])), ((a 14), .inr (0, [.ref (a 15), .ref (a 7)])), ((a 15), .inl ((k 15), 98, .inl fr_c)), ((a 7), .inr (5, [.ref (a 8), .ref (a 9), .int dv])), ((a 8), .inl ((k 8), 8, .inl fu)), ((a 9), .inl ((k 9), 48, .inl fp)), ((a 19), .inr (4, [.ref (a 20), .int nx_c, .int ph_c])), ((a 20), .inl ((k 20), 3920, .inl fq_c)), ((a 21), .inr (1, [.ref (a 22), .int tt_c])), ((a 22), .inl ((k 22), 300, .inl fd_c))] H.size) o_18 r_19) (cwV 6 hts (q_gV m_722 m_723 m_724 m_2 m_725) rfl rfl rfl hdV_yX9_attempt_6 ⟨Nat.le_of_ble_eq_true rfl, Nat.le_of_ble_eq_true rfl⟩) (q_preWV hK hP hD (q := (RX9, TX9, 15)) (ci := 9) (q0 := 0) rfl rfl [0, 1, 2, 3, 4, 5, 6, 7, 8, 9] (by decide) rfl rfl [0, 1, 2, 3, 4] rfl) rfl rfl hl.1 rfl (lv_room (Nat.le_of_ble_eq_true rfl)) dX9_years_197 ⟨Nat.le_of_ble_eq_true rfl, Nat.le_of_ble_eq_true rfl⟩) hK hP hD hS hA [0, 1, 2, 3, 4, 5, 6, 7, 8, 9] [10] rfl rfl (by decide) (by decide) (fun _ H locs _ hP hD hK9 hS => ?_)
                    have hP : va_P (dC, dI) vwCl [((a 0), .inr (9, [.ref (a 1), .ref (a 3), .ref (a 4), .ref (a 7), .ref (a 10), .ref (a 14), .ref (a 16), .ref (a 18), .ref (a 19), .ref (a 21), .ref (a 23), .ref (a 25), .ref (a 27), .ref (a 28), .int hi])), ((a 14), .inr (0, [.ref (a 15), .ref (a 7)])), ((a 15), .inl ((k 15), 98, .inl (o_18.2.2.2.2.1))), ((a 7), .inr (5, [.ref (a 8), .ref (a 9), .int dv])), ((a 8), .inl ((k 8), 8, .inl fu)), ((a 9), .inl ((k 9), 48, .inl fp)), ((a 19), .inr (4, [.ref (a 20), .int (o_18.2.1), .int (o_18.2.2.1)])), ((a 20), .inl ((k 20), 3920, .inl (o_18.2.2.2.2.2.1))), ((a 21), .inr (1, [.ref (a 22), .int (o_18.2.2.2.1)])), ((a 22), .inl ((k 22), 300, .inl (o_18.2.2.2.2.2.2))), ((a 27), .inr (2, [.long (o_16.2)]))] H := hP.sub [1, 2, 3, 4, 5, 6, 7, 8, 9, 10, 0] rfl
                    have hD : va_D A [((a 0), .inr (9, [.ref (a 1), .ref (a 3), .ref (a 4), .ref (a 7), .ref (a 10), .ref (a 14), .ref (a 16), .ref (a 18), .ref (a 19), .ref (a 21), .ref (a 23), .ref (a 25), .ref (a 27), .ref (a 28), .int hi])), ((a 14), .inr (0, [.ref (a 15), .ref (a 7)])), ((a 15), .inl ((k 15), 98, .inl (o_18.2.2.2.2.1))), ((a 7), .inr (5, [.ref (a 8), .ref (a 9), .int dv])), ((a 8), .inl ((k 8), 8, .inl fu)), ((a 9), .inl ((k 9), 48, .inl fp)), ((a 19), .inr (4, [.ref (a 20), .int (o_18.2.1), .int (o_18.2.2.1)])), ((a 20), .inl ((k 20), 3920, .inl (o_18.2.2.2.2.2.1))), ((a 21), .inr (1, [.ref (a 22), .int (o_18.2.2.2.1)])), ((a 22), .inl ((k 22), 300, .inl (o_18.2.2.2.2.2.2))), ((a 27), .inr (2, [.long (o_16.2)]))] := hD.sub [1, 2, 3, 4, 5, 6, 7, 8, 9, 10, 0] (by decide) rfl
                    refine lv_pop hx hb dX9_years_200 rfl ?_
                    refine lv_goto (tgt := 231) hx hb dX9_years_201 (by decide) ?_
                    refine lv_iinc (v := (x4_34 + 1)) (lv' := [(4, .int (x4_34 + 1)), (5, .int o_7.1), (0, .ref (a 0)), (1, .int z1), (2, .long z2)]) hx hb dX9_years_231 hl (k := 1) rfl (rfl) (by decide) rfl (fun ls hl => ?_)
                    refine lv_goto (tgt := 34) hx hb dX9_years_234 (by decide) ?_
                    exact ih_34 (x4_34 + 1) (o_18.2.1) (o_18.2.2.1) (o_18.2.2.2.1) (o_16.2) (o_18.2.2.2.2.1) (o_18.2.2.2.2.2.1) (o_18.2.2.2.2.2.2) H locs ls hG hP hD hS (lv_sub hl [0, 2, 3, 4] rfl)
                · have hG := q_ifp c_10 hG
                  refine lv_aload_n hx hb dX9_years_140 rfl (lv_at hl 2 rfl) ?_
                  refine lv_aload_n hx hb dX9_years_141 rfl (lv_at hl 2 rfl) ?_
                  refine va_get (D := (dC, dI)) (ci := 9) (v := .ref (a 14)) (C := RX9) (T := TX9) (N := 15) hx hb hts iA_9 hown hK hP 0 rfl rfl 5 (by decide) (hts (.fieldLink RX9 47 "HubTree" "now" "LHubTree$Bus;") (List.mem_cons_of_mem _ m_34)) (fun _ h9 => h9) rfl dX9_years_142 ?_
                  refine lv_iconst (v := 1) hx hb dX9_years_145 (by decide) ?_
                  refine lv_iconst (v := 1) hx hb dX9_years_146 (by decide) ?_
                  refine lv_aload_n hx hb dX9_years_147 rfl (lv_at hl 2 rfl) ?_
                  refine va_get (D := (dC, dI)) (ci := 9) (v := .ref (a 27)) (C := RX9) (T := TX9) (N := 15) hx hb hts iA_9 hown hK hP 0 rfl rfl 12 (by decide) (hts (.fieldLink RX9 86 "HubTree" "draws" "LHubTree$Draws;") (List.mem_cons_of_mem _ m_53)) (fun _ h9 => h9) rfl dX9_years_148 ?_
                  refine lv_aload_n hx hb dX9_years_151 rfl (lv_at hl 2 rfl) ?_
                  refine va_get (D := (dC, dI)) (ci := 9) (v := .ref (a 7)) (C := RX9) (T := TX9) (N := 15) hx hb hts iA_9 hown hK hP 0 rfl rfl 3 (by decide) (hts (.fieldLink RX9 32 "HubTree" "plan" "LHubTree$Plan;") (List.mem_cons_of_mem _ m_26)) (fun _ h9 => h9) rfl dX9_years_152 ?_
                  refine va_get (D := (dC, dI)) (ci := 5) (v := .int dv) (C := RX5) (T := TX5) (N := 3) hx hb hts iA_5 hown hK hP 3 rfl rfl 2 (by decide) (hts (.fieldLink RX9 137 "HubTree$Plan" "devices" "I") (List.mem_cons_of_mem _ m_390)) (fun _ h9 => h9) rfl dX9_years_155 ?_
                  obtain ⟨o_20, r_21, hG⟩ := q_bi hG
                  refine q_goi2 (v := o_20.1) (wr := [((a 0), .inr (9, [.ref (a 1), .ref (a 3), .ref (a 4), .ref (a 7), .ref (a 10), .ref (a 14), .ref (a 16), .ref (a 18), .ref (a 19), .ref (a 21), .ref (a 23), .ref (a 25), .ref (a 27), .ref (a 28), .int hi])), ((a 14), .inr (0, [.ref (a 15), .ref (a 7)])), ((a 15), .inl ((k 15), 98, .inl fr_c)), ((a 7), .inr (5, [.ref (a 8), .ref (a 9), .int dv])), ((a 8), .inl ((k 8), 8, .inl fu)), ((a 9), .inl ((k 9), 48, .inl fp)), ((a 19), .inr (4, [.ref (a 20), .int nx_c, .int ph_c])), ((a 20), .inl ((k 20), 3920, .inl fq_c)), ((a 21), .inr (1, [.ref (a 22), .int tt_c])), ((a 22), .inl ((k 22), 300, .inl fd_c))]) (va_runV (As := [.int dv]) (rest := [.int 1, .int 1, .ref (a 14), .ref (a 0)]) ⟨hx, hb, hml, hown, hts⟩ (c_X2_next l dC dI (a 27) (o_7.2) dv (va_A [((a 27), .inr (2, [.long (o_7.2)]))] H.size) o_20 r_21) (cwV 1 hts (q_gV m_1092 m_1093 m_1094 m_52 m_1095) rfl rfl rfl hdV_yX2_next_1 ⟨Nat.le_of_ble_eq_true rfl, Nat.le_of_ble_eq_true rfl⟩) (q_preWV hK hP hD (q := (RX2, TX2, 1)) (ci := 2) (q0 := 10) rfl rfl [10] (by decide) rfl rfl [] rfl) rfl rfl hl.1 rfl (lv_room (Nat.le_of_ble_eq_true rfl)) dX9_years_158 ⟨Nat.le_of_ble_eq_true rfl, Nat.le_of_ble_eq_true rfl⟩) hK hP hD hS hA [10] [0, 1, 2, 3, 4, 5, 6, 7, 8, 9] rfl rfl (by decide) (by decide) (fun _ H locs _ hP hD hK9 hS => ?_)
                  have hP : va_P (dC, dI) vwCl [((a 0), .inr (9, [.ref (a 1), .ref (a 3), .ref (a 4), .ref (a 7), .ref (a 10), .ref (a 14), .ref (a 16), .ref (a 18), .ref (a 19), .ref (a 21), .ref (a 23), .ref (a 25), .ref (a 27), .ref (a 28), .int hi])), ((a 14), .inr (0, [.ref (a 15), .ref (a 7)])), ((a 15), .inl ((k 15), 98, .inl fr_c)), ((a 7), .inr (5, [.ref (a 8), .ref (a 9), .int dv])), ((a 8), .inl ((k 8), 8, .inl fu)), ((a 9), .inl ((k 9), 48, .inl fp)), ((a 19), .inr (4, [.ref (a 20), .int nx_c, .int ph_c])), ((a 20), .inl ((k 20), 3920, .inl fq_c)), ((a 21), .inr (1, [.ref (a 22), .int tt_c])), ((a 22), .inl ((k 22), 300, .inl fd_c)), ((a 27), .inr (2, [.long (o_20.2)]))] H := hP.sub [0, 1, 2, 3, 4, 5, 6, 7, 8, 9, 10] rfl
                  have hD : va_D A [((a 0), .inr (9, [.ref (a 1), .ref (a 3), .ref (a 4), .ref (a 7), .ref (a 10), .ref (a 14), .ref (a 16), .ref (a 18), .ref (a 19), .ref (a 21), .ref (a 23), .ref (a 25), .ref (a 27), .ref (a 28), .int hi])), ((a 14), .inr (0, [.ref (a 15), .ref (a 7)])), ((a 15), .inl ((k 15), 98, .inl fr_c)), ((a 7), .inr (5, [.ref (a 8), .ref (a 9), .int dv])), ((a 8), .inl ((k 8), 8, .inl fu)), ((a 9), .inl ((k 9), 48, .inl fp)), ((a 19), .inr (4, [.ref (a 20), .int nx_c, .int ph_c])), ((a 20), .inl ((k 20), 3920, .inl fq_c)), ((a 21), .inr (1, [.ref (a 22), .int tt_c])), ((a 22), .inl ((k 22), 300, .inl fd_c)), ((a 27), .inr (2, [.long (o_20.2)]))] := hD.sub [0, 1, 2, 3, 4, 5, 6, 7, 8, 9, 10] (by decide) rfl
                  refine lv_iconst (v := (-1)) hx hb dX9_years_161 (by decide) ?_
                  refine lv_iconst (v := (-1)) hx hb dX9_years_162 (by decide) ?_
                  obtain ⟨o_22, r_23, hG⟩ := q_bi hG
                  refine q_goi2 (v := o_22.1) (wr := [((a 27), .inr (2, [.long (o_20.2)]))]) (va_runV (As := [.ref (a 14), .int 1, .int 1, .int o_20.1, .int (-1), .int (-1)]) (rest := []) ⟨hx, hb, hml, hown, hts⟩ (c_X9_attempt l dC dI a k (a 14) (a 15) (k 15) hi dv nx_c ph_c tt_c fr_c fu fp fq_c fd_c 1 1 o_20.1 (-1) (-1) (va_A [((a 0), .inr (9, [.ref (a 1), .ref (a 3), .ref (a 4), .ref (a 7), .ref (a 10), .ref (a 14), .ref (a 16), .ref (a 18), .ref (a 19), .ref (a 21), .ref (a 23), .ref (a 25), .ref (a 27), .ref (a 28), .int hi])), ((a 14), .inr (0, [.ref (a 15), .ref (a 7)])), ((a 15), .inl ((k 15), 98, .inl fr_c)), ((a 7), .inr (5, [.ref (a 8), .ref (a 9), .int dv])), ((a 8), .inl ((k 8), 8, .inl fu)), ((a 9), .inl ((k 9), 48, .inl fp)), ((a 19), .inr (4, [.ref (a 20), .int nx_c, .int ph_c])), ((a 20), .inl ((k 20), 3920, .inl fq_c)), ((a 21), .inr (1, [.ref (a 22), .int tt_c])), ((a 22), .inl ((k 22), 300, .inl fd_c))] H.size) o_22 r_23) (cwV 6 hts (q_gV m_722 m_723 m_724 m_2 m_725) rfl rfl rfl hdV_yX9_attempt_6 ⟨Nat.le_of_ble_eq_true rfl, Nat.le_of_ble_eq_true rfl⟩) (q_preWV hK hP hD (q := (RX9, TX9, 15)) (ci := 9) (q0 := 0) rfl rfl [0, 1, 2, 3, 4, 5, 6, 7, 8, 9] (by decide) rfl rfl [0, 1, 2, 3, 4] rfl) rfl rfl hl.1 rfl (lv_room (Nat.le_of_ble_eq_true rfl)) dX9_years_163 ⟨Nat.le_of_ble_eq_true rfl, Nat.le_of_ble_eq_true rfl⟩) hK hP hD hS hA [0, 1, 2, 3, 4, 5, 6, 7, 8, 9] [10] rfl rfl (by decide) (by decide) (fun _ H locs _ hP hD hK9 hS => ?_)
                  have hP : va_P (dC, dI) vwCl [((a 0), .inr (9, [.ref (a 1), .ref (a 3), .ref (a 4), .ref (a 7), .ref (a 10), .ref (a 14), .ref (a 16), .ref (a 18), .ref (a 19), .ref (a 21), .ref (a 23), .ref (a 25), .ref (a 27), .ref (a 28), .int hi])), ((a 14), .inr (0, [.ref (a 15), .ref (a 7)])), ((a 15), .inl ((k 15), 98, .inl (o_22.2.2.2.2.1))), ((a 7), .inr (5, [.ref (a 8), .ref (a 9), .int dv])), ((a 8), .inl ((k 8), 8, .inl fu)), ((a 9), .inl ((k 9), 48, .inl fp)), ((a 19), .inr (4, [.ref (a 20), .int (o_22.2.1), .int (o_22.2.2.1)])), ((a 20), .inl ((k 20), 3920, .inl (o_22.2.2.2.2.2.1))), ((a 21), .inr (1, [.ref (a 22), .int (o_22.2.2.2.1)])), ((a 22), .inl ((k 22), 300, .inl (o_22.2.2.2.2.2.2))), ((a 27), .inr (2, [.long (o_20.2)]))] H := hP.sub [1, 2, 3, 4, 5, 6, 7, 8, 9, 10, 0] rfl
                  have hD : va_D A [((a 0), .inr (9, [.ref (a 1), .ref (a 3), .ref (a 4), .ref (a 7), .ref (a 10), .ref (a 14), .ref (a 16), .ref (a 18), .ref (a 19), .ref (a 21), .ref (a 23), .ref (a 25), .ref (a 27), .ref (a 28), .int hi])), ((a 14), .inr (0, [.ref (a 15), .ref (a 7)])), ((a 15), .inl ((k 15), 98, .inl (o_22.2.2.2.2.1))), ((a 7), .inr (5, [.ref (a 8), .ref (a 9), .int dv])), ((a 8), .inl ((k 8), 8, .inl fu)), ((a 9), .inl ((k 9), 48, .inl fp)), ((a 19), .inr (4, [.ref (a 20), .int (o_22.2.1), .int (o_22.2.2.1)])), ((a 20), .inl ((k 20), 3920, .inl (o_22.2.2.2.2.2.1))), ((a 21), .inr (1, [.ref (a 22), .int (o_22.2.2.2.1)])), ((a 22), .inl ((k 22), 300, .inl (o_22.2.2.2.2.2.2))), ((a 27), .inr (2, [.long (o_20.2)]))] := hD.sub [1, 2, 3, 4, 5, 6, 7, 8, 9, 10, 0] (by decide) rfl
                  refine lv_pop hx hb dX9_years_166 rfl ?_
                  refine lv_goto (tgt := 231) hx hb dX9_years_167 (by decide) ?_
                  refine lv_iinc (v := (x4_34 + 1)) (lv' := [(4, .int (x4_34 + 1)), (5, .int o_7.1), (0, .ref (a 0)), (1, .int z1), (2, .long z2)]) hx hb dX9_years_231 hl (k := 1) rfl (rfl) (by decide) rfl (fun ls hl => ?_)
                  refine lv_goto (tgt := 34) hx hb dX9_years_234 (by decide) ?_
                  exact ih_34 (x4_34 + 1) (o_22.2.1) (o_22.2.2.1) (o_22.2.2.2.1) (o_20.2) (o_22.2.2.2.2.1) (o_22.2.2.2.2.2.1) (o_22.2.2.2.2.2.2) H locs ls hG hP hD hS (lv_sub hl [0, 2, 3, 4] rfl)
              · have hG := q_ifn c_9 hG
                refine lv_aload_n hx hb dX9_years_57 rfl (lv_at hl 2 rfl) ?_
                refine va_get (D := (dC, dI)) (ci := 9) (v := .ref (a 27)) (C := RX9) (T := TX9) (N := 15) hx hb hts iA_9 hown hK hP 0 rfl rfl 12 (by decide) (hts (.fieldLink RX9 86 "HubTree" "draws" "LHubTree$Draws;") (List.mem_cons_of_mem _ m_53)) (fun _ h9 => h9) rfl dX9_years_58 ?_
                refine lv_aload_n hx hb dX9_years_61 rfl (lv_at hl 2 rfl) ?_
                refine va_get (D := (dC, dI)) (ci := 9) (v := .ref (a 7)) (C := RX9) (T := TX9) (N := 15) hx hb hts iA_9 hown hK hP 0 rfl rfl 3 (by decide) (hts (.fieldLink RX9 32 "HubTree" "plan" "LHubTree$Plan;") (List.mem_cons_of_mem _ m_26)) (fun _ h9 => h9) rfl dX9_years_62 ?_
                refine va_get (D := (dC, dI)) (ci := 5) (v := .int dv) (C := RX5) (T := TX5) (N := 3) hx hb hts iA_5 hown hK hP 3 rfl rfl 2 (by decide) (hts (.fieldLink RX9 137 "HubTree$Plan" "devices" "I") (List.mem_cons_of_mem _ m_390)) (fun _ h9 => h9) rfl dX9_years_65 ?_
                obtain ⟨o_24, r_25, hG⟩ := q_bi hG
                refine q_goi2 (v := o_24.1) (wr := [((a 0), .inr (9, [.ref (a 1), .ref (a 3), .ref (a 4), .ref (a 7), .ref (a 10), .ref (a 14), .ref (a 16), .ref (a 18), .ref (a 19), .ref (a 21), .ref (a 23), .ref (a 25), .ref (a 27), .ref (a 28), .int hi])), ((a 14), .inr (0, [.ref (a 15), .ref (a 7)])), ((a 15), .inl ((k 15), 98, .inl fr_c)), ((a 7), .inr (5, [.ref (a 8), .ref (a 9), .int dv])), ((a 8), .inl ((k 8), 8, .inl fu)), ((a 9), .inl ((k 9), 48, .inl fp)), ((a 19), .inr (4, [.ref (a 20), .int nx_c, .int ph_c])), ((a 20), .inl ((k 20), 3920, .inl fq_c)), ((a 21), .inr (1, [.ref (a 22), .int tt_c])), ((a 22), .inl ((k 22), 300, .inl fd_c))]) (va_runV (As := [.int dv]) (rest := []) ⟨hx, hb, hml, hown, hts⟩ (c_X2_next l dC dI (a 27) (o_7.2) dv (va_A [((a 27), .inr (2, [.long (o_7.2)]))] H.size) o_24 r_25) (cwV 1 hts (q_gV m_1092 m_1093 m_1094 m_52 m_1095) rfl rfl rfl hdV_yX2_next_1 ⟨Nat.le_of_ble_eq_true rfl, Nat.le_of_ble_eq_true rfl⟩) (q_preWV hK hP hD (q := (RX2, TX2, 1)) (ci := 2) (q0 := 10) rfl rfl [10] (by decide) rfl rfl [] rfl) rfl rfl hl.1 rfl (lv_room (Nat.le_of_ble_eq_true rfl)) dX9_years_68 ⟨Nat.le_of_ble_eq_true rfl, Nat.le_of_ble_eq_true rfl⟩) hK hP hD hS hA [10] [0, 1, 2, 3, 4, 5, 6, 7, 8, 9] rfl rfl (by decide) (by decide) (fun _ H locs _ hP hD hK9 hS => ?_)
                have hP : va_P (dC, dI) vwCl [((a 0), .inr (9, [.ref (a 1), .ref (a 3), .ref (a 4), .ref (a 7), .ref (a 10), .ref (a 14), .ref (a 16), .ref (a 18), .ref (a 19), .ref (a 21), .ref (a 23), .ref (a 25), .ref (a 27), .ref (a 28), .int hi])), ((a 14), .inr (0, [.ref (a 15), .ref (a 7)])), ((a 15), .inl ((k 15), 98, .inl fr_c)), ((a 7), .inr (5, [.ref (a 8), .ref (a 9), .int dv])), ((a 8), .inl ((k 8), 8, .inl fu)), ((a 9), .inl ((k 9), 48, .inl fp)), ((a 19), .inr (4, [.ref (a 20), .int nx_c, .int ph_c])), ((a 20), .inl ((k 20), 3920, .inl fq_c)), ((a 21), .inr (1, [.ref (a 22), .int tt_c])), ((a 22), .inl ((k 22), 300, .inl fd_c)), ((a 27), .inr (2, [.long (o_24.2)]))] H := hP.sub [0, 1, 2, 3, 4, 5, 6, 7, 8, 9, 10] rfl
                have hD : va_D A [((a 0), .inr (9, [.ref (a 1), .ref (a 3), .ref (a 4), .ref (a 7), .ref (a 10), .ref (a 14), .ref (a 16), .ref (a 18), .ref (a 19), .ref (a 21), .ref (a 23), .ref (a 25), .ref (a 27), .ref (a 28), .int hi])), ((a 14), .inr (0, [.ref (a 15), .ref (a 7)])), ((a 15), .inl ((k 15), 98, .inl fr_c)), ((a 7), .inr (5, [.ref (a 8), .ref (a 9), .int dv])), ((a 8), .inl ((k 8), 8, .inl fu)), ((a 9), .inl ((k 9), 48, .inl fp)), ((a 19), .inr (4, [.ref (a 20), .int nx_c, .int ph_c])), ((a 20), .inl ((k 20), 3920, .inl fq_c)), ((a 21), .inr (1, [.ref (a 22), .int tt_c])), ((a 22), .inl ((k 22), 300, .inl fd_c)), ((a 27), .inr (2, [.long (o_24.2)]))] := hD.sub [0, 1, 2, 3, 4, 5, 6, 7, 8, 9, 10] (by decide) rfl
                refine lv_istore (lv' := [(6, .int o_24.1), (5, .int o_7.1), (4, .int x4_34), (0, .ref (a 0)), (1, .int z1), (2, .long z2)]) hx hb dX9_years_71 hl (by decide) rfl (fun ls hl => ?_)
                refine lv_aload_n hx hb dX9_years_73 rfl (lv_at hl 3 rfl) ?_
                refine va_get (D := (dC, dI)) (ci := 9) (v := .ref (a 27)) (C := RX9) (T := TX9) (N := 15) hx hb hts iA_9 hown hK hP 0 rfl rfl 12 (by decide) (hts (.fieldLink RX9 86 "HubTree" "draws" "LHubTree$Draws;") (List.mem_cons_of_mem _ m_53)) (fun _ h9 => h9) rfl dX9_years_74 ?_
                refine lv_aload_n hx hb dX9_years_77 rfl (lv_at hl 3 rfl) ?_
                refine va_get (D := (dC, dI)) (ci := 9) (v := .ref (a 7)) (C := RX9) (T := TX9) (N := 15) hx hb hts iA_9 hown hK hP 0 rfl rfl 3 (by decide) (hts (.fieldLink RX9 32 "HubTree" "plan" "LHubTree$Plan;") (List.mem_cons_of_mem _ m_26)) (fun _ h9 => h9) rfl dX9_years_78 ?_
                refine va_get (D := (dC, dI)) (ci := 5) (v := .int dv) (C := RX5) (T := TX5) (N := 3) hx hb hts iA_5 hown hK hP 3 rfl rfl 2 (by decide) (hts (.fieldLink RX9 137 "HubTree$Plan" "devices" "I") (List.mem_cons_of_mem _ m_390)) (fun _ h9 => h9) rfl dX9_years_81 ?_
                refine lv_iconst (v := 1) hx hb dX9_years_84 (by decide) ?_
                refine lv_iadd hx hb dX9_years_85 ?_
                obtain ⟨o_26, r_27, hG⟩ := q_bi hG
                refine q_goi2 (v := o_26.1) (wr := [((a 0), .inr (9, [.ref (a 1), .ref (a 3), .ref (a 4), .ref (a 7), .ref (a 10), .ref (a 14), .ref (a 16), .ref (a 18), .ref (a 19), .ref (a 21), .ref (a 23), .ref (a 25), .ref (a 27), .ref (a 28), .int hi])), ((a 14), .inr (0, [.ref (a 15), .ref (a 7)])), ((a 15), .inl ((k 15), 98, .inl fr_c)), ((a 7), .inr (5, [.ref (a 8), .ref (a 9), .int dv])), ((a 8), .inl ((k 8), 8, .inl fu)), ((a 9), .inl ((k 9), 48, .inl fp)), ((a 19), .inr (4, [.ref (a 20), .int nx_c, .int ph_c])), ((a 20), .inl ((k 20), 3920, .inl fq_c)), ((a 21), .inr (1, [.ref (a 22), .int tt_c])), ((a 22), .inl ((k 22), 300, .inl fd_c))]) (va_runV (As := [.int (dv + 1)]) (rest := []) ⟨hx, hb, hml, hown, hts⟩ (c_X2_next l dC dI (a 27) (o_24.2) (dv + 1) (va_A [((a 27), .inr (2, [.long (o_24.2)]))] H.size) o_26 r_27) (cwV 1 hts (q_gV m_1092 m_1093 m_1094 m_52 m_1095) rfl rfl rfl hdV_yX2_next_1 ⟨Nat.le_of_ble_eq_true rfl, Nat.le_of_ble_eq_true rfl⟩) (q_preWV hK hP hD (q := (RX2, TX2, 1)) (ci := 2) (q0 := 10) rfl rfl [10] (by decide) rfl rfl [] rfl) rfl rfl hl.1 rfl (lv_room (Nat.le_of_ble_eq_true rfl)) dX9_years_86 ⟨Nat.le_of_ble_eq_true rfl, Nat.le_of_ble_eq_true rfl⟩) hK hP hD hS hA [10] [0, 1, 2, 3, 4, 5, 6, 7, 8, 9] rfl rfl (by decide) (by decide) (fun _ H locs _ hP hD hK9 hS => ?_)
                have hP : va_P (dC, dI) vwCl [((a 0), .inr (9, [.ref (a 1), .ref (a 3), .ref (a 4), .ref (a 7), .ref (a 10), .ref (a 14), .ref (a 16), .ref (a 18), .ref (a 19), .ref (a 21), .ref (a 23), .ref (a 25), .ref (a 27), .ref (a 28), .int hi])), ((a 14), .inr (0, [.ref (a 15), .ref (a 7)])), ((a 15), .inl ((k 15), 98, .inl fr_c)), ((a 7), .inr (5, [.ref (a 8), .ref (a 9), .int dv])), ((a 8), .inl ((k 8), 8, .inl fu)), ((a 9), .inl ((k 9), 48, .inl fp)), ((a 19), .inr (4, [.ref (a 20), .int nx_c, .int ph_c])), ((a 20), .inl ((k 20), 3920, .inl fq_c)), ((a 21), .inr (1, [.ref (a 22), .int tt_c])), ((a 22), .inl ((k 22), 300, .inl fd_c)), ((a 27), .inr (2, [.long (o_26.2)]))] H := hP.sub [0, 1, 2, 3, 4, 5, 6, 7, 8, 9, 10] rfl
                have hD : va_D A [((a 0), .inr (9, [.ref (a 1), .ref (a 3), .ref (a 4), .ref (a 7), .ref (a 10), .ref (a 14), .ref (a 16), .ref (a 18), .ref (a 19), .ref (a 21), .ref (a 23), .ref (a 25), .ref (a 27), .ref (a 28), .int hi])), ((a 14), .inr (0, [.ref (a 15), .ref (a 7)])), ((a 15), .inl ((k 15), 98, .inl fr_c)), ((a 7), .inr (5, [.ref (a 8), .ref (a 9), .int dv])), ((a 8), .inl ((k 8), 8, .inl fu)), ((a 9), .inl ((k 9), 48, .inl fp)), ((a 19), .inr (4, [.ref (a 20), .int nx_c, .int ph_c])), ((a 20), .inl ((k 20), 3920, .inl fq_c)), ((a 21), .inr (1, [.ref (a 22), .int tt_c])), ((a 22), .inl ((k 22), 300, .inl fd_c)), ((a 27), .inr (2, [.long (o_26.2)]))] := hD.sub [0, 1, 2, 3, 4, 5, 6, 7, 8, 9, 10] (by decide) rfl
                refine lv_istore (lv' := [(7, .int o_26.1), (6, .int o_24.1), (5, .int o_7.1), (4, .int x4_34), (0, .ref (a 0)), (1, .int z1), (2, .long z2)]) hx hb dX9_years_89 hl (by decide) rfl (fun ls hl => ?_)
                refine lv_aload_n hx hb dX9_years_91 rfl (lv_at hl 4 rfl) ?_
                refine lv_aload_n hx hb dX9_years_92 rfl (lv_at hl 4 rfl) ?_
                refine va_get (D := (dC, dI)) (ci := 9) (v := .ref (a 14)) (C := RX9) (T := TX9) (N := 15) hx hb hts iA_9 hown hK hP 0 rfl rfl 5 (by decide) (hts (.fieldLink RX9 47 "HubTree" "now" "LHubTree$Bus;") (List.mem_cons_of_mem _ m_34)) (fun _ h9 => h9) rfl dX9_years_93 ?_
                refine lv_iconst (v := 1) hx hb dX9_years_96 (by decide) ?_
                refine lv_iconst (v := 0) hx hb dX9_years_97 (by decide) ?_
                refine lv_iload hx hb dX9_years_98 (lv_at hl 1 rfl) ?_
                refine lv_iload hx hb dX9_years_100 (lv_at hl 0 rfl) ?_
                refine lv_aload_n hx hb dX9_years_102 rfl (lv_at hl 4 rfl) ?_
                refine va_get (D := (dC, dI)) (ci := 9) (v := .ref (a 7)) (C := RX9) (T := TX9) (N := 15) hx hb hts iA_9 hown hK hP 0 rfl rfl 3 (by decide) (hts (.fieldLink RX9 32 "HubTree" "plan" "LHubTree$Plan;") (List.mem_cons_of_mem _ m_26)) (fun _ h9 => h9) rfl dX9_years_103 ?_
                refine va_get (D := (dC, dI)) (ci := 5) (v := .int dv) (C := RX5) (T := TX5) (N := 3) hx hb hts iA_5 hown hK hP 3 rfl rfl 2 (by decide) (hts (.fieldLink RX9 137 "HubTree$Plan" "devices" "I") (List.mem_cons_of_mem _ m_390)) (fun _ h9 => h9) rfl dX9_years_106 ?_
                refine lv_icmp_ne (tgt := 117) hx hb dX9_years_109 (by decide) (fun c_28 => ?_) (fun c_28 => ?_)
                · have hG := q_ifn c_28 hG
                  refine lv_iload hx hb dX9_years_117 (lv_at hl 0 rfl) ?_
                  refine lv_aload_n hx hb dX9_years_119 rfl (lv_at hl 4 rfl) ?_
                  refine va_get (D := (dC, dI)) (ci := 9) (v := .ref (a 27)) (C := RX9) (T := TX9) (N := 15) hx hb hts iA_9 hown hK hP 0 rfl rfl 12 (by decide) (hts (.fieldLink RX9 86 "HubTree" "draws" "LHubTree$Draws;") (List.mem_cons_of_mem _ m_53)) (fun _ h9 => h9) rfl dX9_years_120 ?_
                  refine lv_iconst (v := 4) hx hb dX9_years_123 (by decide) ?_
                  obtain ⟨o_29, r_30, hG⟩ := q_bi hG
                  refine q_goi2 (v := o_29.1) (wr := [((a 0), .inr (9, [.ref (a 1), .ref (a 3), .ref (a 4), .ref (a 7), .ref (a 10), .ref (a 14), .ref (a 16), .ref (a 18), .ref (a 19), .ref (a 21), .ref (a 23), .ref (a 25), .ref (a 27), .ref (a 28), .int hi])), ((a 14), .inr (0, [.ref (a 15), .ref (a 7)])), ((a 15), .inl ((k 15), 98, .inl fr_c)), ((a 7), .inr (5, [.ref (a 8), .ref (a 9), .int dv])), ((a 8), .inl ((k 8), 8, .inl fu)), ((a 9), .inl ((k 9), 48, .inl fp)), ((a 19), .inr (4, [.ref (a 20), .int nx_c, .int ph_c])), ((a 20), .inl ((k 20), 3920, .inl fq_c)), ((a 21), .inr (1, [.ref (a 22), .int tt_c])), ((a 22), .inl ((k 22), 300, .inl fd_c))]) (va_runV (As := [.int 4]) (rest := [.int o_26.1, .int o_24.1, .int 0, .int 1, .ref (a 14), .ref (a 0)]) ⟨hx, hb, hml, hown, hts⟩ (c_X2_next l dC dI (a 27) (o_26.2) 4 (va_A [((a 27), .inr (2, [.long (o_26.2)]))] H.size) o_29 r_30) (cwV 1 hts (q_gV m_1092 m_1093 m_1094 m_52 m_1095) rfl rfl rfl hdV_yX2_next_1 ⟨Nat.le_of_ble_eq_true rfl, Nat.le_of_ble_eq_true rfl⟩) (q_preWV hK hP hD (q := (RX2, TX2, 1)) (ci := 2) (q0 := 10) rfl rfl [10] (by decide) rfl rfl [] rfl) rfl rfl hl.1 rfl (lv_room (Nat.le_of_ble_eq_true rfl)) dX9_years_124 ⟨Nat.le_of_ble_eq_true rfl, Nat.le_of_ble_eq_true rfl⟩) hK hP hD hS hA [10] [0, 1, 2, 3, 4, 5, 6, 7, 8, 9] rfl rfl (by decide) (by decide) (fun _ H locs _ hP hD hK9 hS => ?_)
                  have hP : va_P (dC, dI) vwCl [((a 0), .inr (9, [.ref (a 1), .ref (a 3), .ref (a 4), .ref (a 7), .ref (a 10), .ref (a 14), .ref (a 16), .ref (a 18), .ref (a 19), .ref (a 21), .ref (a 23), .ref (a 25), .ref (a 27), .ref (a 28), .int hi])), ((a 14), .inr (0, [.ref (a 15), .ref (a 7)])), ((a 15), .inl ((k 15), 98, .inl fr_c)), ((a 7), .inr (5, [.ref (a 8), .ref (a 9), .int dv])), ((a 8), .inl ((k 8), 8, .inl fu)), ((a 9), .inl ((k 9), 48, .inl fp)), ((a 19), .inr (4, [.ref (a 20), .int nx_c, .int ph_c])), ((a 20), .inl ((k 20), 3920, .inl fq_c)), ((a 21), .inr (1, [.ref (a 22), .int tt_c])), ((a 22), .inl ((k 22), 300, .inl fd_c)), ((a 27), .inr (2, [.long (o_29.2)]))] H := hP.sub [0, 1, 2, 3, 4, 5, 6, 7, 8, 9, 10] rfl
                  have hD : va_D A [((a 0), .inr (9, [.ref (a 1), .ref (a 3), .ref (a 4), .ref (a 7), .ref (a 10), .ref (a 14), .ref (a 16), .ref (a 18), .ref (a 19), .ref (a 21), .ref (a 23), .ref (a 25), .ref (a 27), .ref (a 28), .int hi])), ((a 14), .inr (0, [.ref (a 15), .ref (a 7)])), ((a 15), .inl ((k 15), 98, .inl fr_c)), ((a 7), .inr (5, [.ref (a 8), .ref (a 9), .int dv])), ((a 8), .inl ((k 8), 8, .inl fu)), ((a 9), .inl ((k 9), 48, .inl fp)), ((a 19), .inr (4, [.ref (a 20), .int nx_c, .int ph_c])), ((a 20), .inl ((k 20), 3920, .inl fq_c)), ((a 21), .inr (1, [.ref (a 22), .int tt_c])), ((a 22), .inl ((k 22), 300, .inl fd_c)), ((a 27), .inr (2, [.long (o_29.2)]))] := hD.sub [0, 1, 2, 3, 4, 5, 6, 7, 8, 9, 10] (by decide) rfl
                  obtain ⟨o_31, r_32, hG⟩ := q_bi hG
                  refine q_goi2 (v := o_31.1) (wr := [((a 27), .inr (2, [.long (o_29.2)]))]) (va_runV (As := [.ref (a 14), .int 1, .int 0, .int o_24.1, .int o_26.1, .int o_29.1]) (rest := []) ⟨hx, hb, hml, hown, hts⟩ (c_X9_attempt l dC dI a k (a 14) (a 15) (k 15) hi dv nx_c ph_c tt_c fr_c fu fp fq_c fd_c 1 0 o_24.1 o_26.1 o_29.1 (va_A [((a 0), .inr (9, [.ref (a 1), .ref (a 3), .ref (a 4), .ref (a 7), .ref (a 10), .ref (a 14), .ref (a 16), .ref (a 18), .ref (a 19), .ref (a 21), .ref (a 23), .ref (a 25), .ref (a 27), .ref (a 28), .int hi])), ((a 14), .inr (0, [.ref (a 15), .ref (a 7)])), ((a 15), .inl ((k 15), 98, .inl fr_c)), ((a 7), .inr (5, [.ref (a 8), .ref (a 9), .int dv])), ((a 8), .inl ((k 8), 8, .inl fu)), ((a 9), .inl ((k 9), 48, .inl fp)), ((a 19), .inr (4, [.ref (a 20), .int nx_c, .int ph_c])), ((a 20), .inl ((k 20), 3920, .inl fq_c)), ((a 21), .inr (1, [.ref (a 22), .int tt_c])), ((a 22), .inl ((k 22), 300, .inl fd_c))] H.size) o_31 r_32) (cwV 6 hts (q_gV m_722 m_723 m_724 m_2 m_725) rfl rfl rfl hdV_yX9_attempt_6 ⟨Nat.le_of_ble_eq_true rfl, Nat.le_of_ble_eq_true rfl⟩) (q_preWV hK hP hD (q := (RX9, TX9, 15)) (ci := 9) (q0 := 0) rfl rfl [0, 1, 2, 3, 4, 5, 6, 7, 8, 9] (by decide) rfl rfl [0, 1, 2, 3, 4] rfl) rfl rfl hl.1 rfl (lv_room (Nat.le_of_ble_eq_true rfl)) dX9_years_127 ⟨Nat.le_of_ble_eq_true rfl, Nat.le_of_ble_eq_true rfl⟩) hK hP hD hS hA [0, 1, 2, 3, 4, 5, 6, 7, 8, 9] [10] rfl rfl (by decide) (by decide) (fun _ H locs _ hP hD hK9 hS => ?_)
                  have hP : va_P (dC, dI) vwCl [((a 0), .inr (9, [.ref (a 1), .ref (a 3), .ref (a 4), .ref (a 7), .ref (a 10), .ref (a 14), .ref (a 16), .ref (a 18), .ref (a 19), .ref (a 21), .ref (a 23), .ref (a 25), .ref (a 27), .ref (a 28), .int hi])), ((a 14), .inr (0, [.ref (a 15), .ref (a 7)])), ((a 15), .inl ((k 15), 98, .inl (o_31.2.2.2.2.1))), ((a 7), .inr (5, [.ref (a 8), .ref (a 9), .int dv])), ((a 8), .inl ((k 8), 8, .inl fu)), ((a 9), .inl ((k 9), 48, .inl fp)), ((a 19), .inr (4, [.ref (a 20), .int (o_31.2.1), .int (o_31.2.2.1)])), ((a 20), .inl ((k 20), 3920, .inl (o_31.2.2.2.2.2.1))), ((a 21), .inr (1, [.ref (a 22), .int (o_31.2.2.2.1)])), ((a 22), .inl ((k 22), 300, .inl (o_31.2.2.2.2.2.2))), ((a 27), .inr (2, [.long (o_29.2)]))] H := hP.sub [1, 2, 3, 4, 5, 6, 7, 8, 9, 10, 0] rfl
                  have hD : va_D A [((a 0), .inr (9, [.ref (a 1), .ref (a 3), .ref (a 4), .ref (a 7), .ref (a 10), .ref (a 14), .ref (a 16), .ref (a 18), .ref (a 19), .ref (a 21), .ref (a 23), .ref (a 25), .ref (a 27), .ref (a 28), .int hi])), ((a 14), .inr (0, [.ref (a 15), .ref (a 7)])), ((a 15), .inl ((k 15), 98, .inl (o_31.2.2.2.2.1))), ((a 7), .inr (5, [.ref (a 8), .ref (a 9), .int dv])), ((a 8), .inl ((k 8), 8, .inl fu)), ((a 9), .inl ((k 9), 48, .inl fp)), ((a 19), .inr (4, [.ref (a 20), .int (o_31.2.1), .int (o_31.2.2.1)])), ((a 20), .inl ((k 20), 3920, .inl (o_31.2.2.2.2.2.1))), ((a 21), .inr (1, [.ref (a 22), .int (o_31.2.2.2.1)])), ((a 22), .inl ((k 22), 300, .inl (o_31.2.2.2.2.2.2))), ((a 27), .inr (2, [.long (o_29.2)]))] := hD.sub [1, 2, 3, 4, 5, 6, 7, 8, 9, 10, 0] (by decide) rfl
                  refine lv_pop hx hb dX9_years_130 rfl ?_
                  refine lv_goto (tgt := 231) hx hb dX9_years_131 (by decide) ?_
                  refine lv_iinc (v := (x4_34 + 1)) (lv' := [(4, .int (x4_34 + 1)), (7, .int o_26.1), (6, .int o_24.1), (5, .int o_7.1), (0, .ref (a 0)), (1, .int z1), (2, .long z2)]) hx hb dX9_years_231 hl (k := 3) rfl (rfl) (by decide) rfl (fun ls hl => ?_)
                  refine lv_goto (tgt := 34) hx hb dX9_years_234 (by decide) ?_
                  exact ih_34 (x4_34 + 1) (o_31.2.1) (o_31.2.2.1) (o_31.2.2.2.1) (o_29.2) (o_31.2.2.2.2.1) (o_31.2.2.2.2.2.1) (o_31.2.2.2.2.2.2) H locs ls hG hP hD hS (lv_sub hl [0, 4, 5, 6] rfl)
                · have hG := q_ifp c_28 hG
                  refine lv_bipush (v := 8) hx hb dX9_years_112 (by decide) ?_
                  refine lv_goto (tgt := 119) hx hb dX9_years_114 (by decide) ?_
                  refine lv_aload_n hx hb dX9_years_119 rfl (lv_at hl 4 rfl) ?_
                  refine va_get (D := (dC, dI)) (ci := 9) (v := .ref (a 27)) (C := RX9) (T := TX9) (N := 15) hx hb hts iA_9 hown hK hP 0 rfl rfl 12 (by decide) (hts (.fieldLink RX9 86 "HubTree" "draws" "LHubTree$Draws;") (List.mem_cons_of_mem _ m_53)) (fun _ h9 => h9) rfl dX9_years_120 ?_
                  refine lv_iconst (v := 4) hx hb dX9_years_123 (by decide) ?_
                  obtain ⟨o_33, r_34, hG⟩ := q_bi hG
                  refine q_goi2 (v := o_33.1) (wr := [((a 0), .inr (9, [.ref (a 1), .ref (a 3), .ref (a 4), .ref (a 7), .ref (a 10), .ref (a 14), .ref (a 16), .ref (a 18), .ref (a 19), .ref (a 21), .ref (a 23), .ref (a 25), .ref (a 27), .ref (a 28), .int hi])), ((a 14), .inr (0, [.ref (a 15), .ref (a 7)])), ((a 15), .inl ((k 15), 98, .inl fr_c)), ((a 7), .inr (5, [.ref (a 8), .ref (a 9), .int dv])), ((a 8), .inl ((k 8), 8, .inl fu)), ((a 9), .inl ((k 9), 48, .inl fp)), ((a 19), .inr (4, [.ref (a 20), .int nx_c, .int ph_c])), ((a 20), .inl ((k 20), 3920, .inl fq_c)), ((a 21), .inr (1, [.ref (a 22), .int tt_c])), ((a 22), .inl ((k 22), 300, .inl fd_c))]) (va_runV (As := [.int 4]) (rest := [.int 8, .int o_24.1, .int 0, .int 1, .ref (a 14), .ref (a 0)]) ⟨hx, hb, hml, hown, hts⟩ (c_X2_next l dC dI (a 27) (o_26.2) 4 (va_A [((a 27), .inr (2, [.long (o_26.2)]))] H.size) o_33 r_34) (cwV 1 hts (q_gV m_1092 m_1093 m_1094 m_52 m_1095) rfl rfl rfl hdV_yX2_next_1 ⟨Nat.le_of_ble_eq_true rfl, Nat.le_of_ble_eq_true rfl⟩) (q_preWV hK hP hD (q := (RX2, TX2, 1)) (ci := 2) (q0 := 10) rfl rfl [10] (by decide) rfl rfl [] rfl) rfl rfl hl.1 rfl (lv_room (Nat.le_of_ble_eq_true rfl)) dX9_years_124 ⟨Nat.le_of_ble_eq_true rfl, Nat.le_of_ble_eq_true rfl⟩) hK hP hD hS hA [10] [0, 1, 2, 3, 4, 5, 6, 7, 8, 9] rfl rfl (by decide) (by decide) (fun _ H locs _ hP hD hK9 hS => ?_)
                  have hP : va_P (dC, dI) vwCl [((a 0), .inr (9, [.ref (a 1), .ref (a 3), .ref (a 4), .ref (a 7), .ref (a 10), .ref (a 14), .ref (a 16), .ref (a 18), .ref (a 19), .ref (a 21), .ref (a 23), .ref (a 25), .ref (a 27), .ref (a 28), .int hi])), ((a 14), .inr (0, [.ref (a 15), .ref (a 7)])), ((a 15), .inl ((k 15), 98, .inl fr_c)), ((a 7), .inr (5, [.ref (a 8), .ref (a 9), .int dv])), ((a 8), .inl ((k 8), 8, .inl fu)), ((a 9), .inl ((k 9), 48, .inl fp)), ((a 19), .inr (4, [.ref (a 20), .int nx_c, .int ph_c])), ((a 20), .inl ((k 20), 3920, .inl fq_c)), ((a 21), .inr (1, [.ref (a 22), .int tt_c])), ((a 22), .inl ((k 22), 300, .inl fd_c)), ((a 27), .inr (2, [.long (o_33.2)]))] H := hP.sub [0, 1, 2, 3, 4, 5, 6, 7, 8, 9, 10] rfl
                  have hD : va_D A [((a 0), .inr (9, [.ref (a 1), .ref (a 3), .ref (a 4), .ref (a 7), .ref (a 10), .ref (a 14), .ref (a 16), .ref (a 18), .ref (a 19), .ref (a 21), .ref (a 23), .ref (a 25), .ref (a 27), .ref (a 28), .int hi])), ((a 14), .inr (0, [.ref (a 15), .ref (a 7)])), ((a 15), .inl ((k 15), 98, .inl fr_c)), ((a 7), .inr (5, [.ref (a 8), .ref (a 9), .int dv])), ((a 8), .inl ((k 8), 8, .inl fu)), ((a 9), .inl ((k 9), 48, .inl fp)), ((a 19), .inr (4, [.ref (a 20), .int nx_c, .int ph_c])), ((a 20), .inl ((k 20), 3920, .inl fq_c)), ((a 21), .inr (1, [.ref (a 22), .int tt_c])), ((a 22), .inl ((k 22), 300, .inl fd_c)), ((a 27), .inr (2, [.long (o_33.2)]))] := hD.sub [0, 1, 2, 3, 4, 5, 6, 7, 8, 9, 10] (by decide) rfl
                  obtain ⟨o_35, r_36, hG⟩ := q_bi hG
                  refine q_goi2 (v := o_35.1) (wr := [((a 27), .inr (2, [.long (o_33.2)]))]) (va_runV (As := [.ref (a 14), .int 1, .int 0, .int o_24.1, .int 8, .int o_33.1]) (rest := []) ⟨hx, hb, hml, hown, hts⟩ (c_X9_attempt l dC dI a k (a 14) (a 15) (k 15) hi dv nx_c ph_c tt_c fr_c fu fp fq_c fd_c 1 0 o_24.1 8 o_33.1 (va_A [((a 0), .inr (9, [.ref (a 1), .ref (a 3), .ref (a 4), .ref (a 7), .ref (a 10), .ref (a 14), .ref (a 16), .ref (a 18), .ref (a 19), .ref (a 21), .ref (a 23), .ref (a 25), .ref (a 27), .ref (a 28), .int hi])), ((a 14), .inr (0, [.ref (a 15), .ref (a 7)])), ((a 15), .inl ((k 15), 98, .inl fr_c)), ((a 7), .inr (5, [.ref (a 8), .ref (a 9), .int dv])), ((a 8), .inl ((k 8), 8, .inl fu)), ((a 9), .inl ((k 9), 48, .inl fp)), ((a 19), .inr (4, [.ref (a 20), .int nx_c, .int ph_c])), ((a 20), .inl ((k 20), 3920, .inl fq_c)), ((a 21), .inr (1, [.ref (a 22), .int tt_c])), ((a 22), .inl ((k 22), 300, .inl fd_c))] H.size) o_35 r_36) (cwV 6 hts (q_gV m_722 m_723 m_724 m_2 m_725) rfl rfl rfl hdV_yX9_attempt_6 ⟨Nat.le_of_ble_eq_true rfl, Nat.le_of_ble_eq_true rfl⟩) (q_preWV hK hP hD (q := (RX9, TX9, 15)) (ci := 9) (q0 := 0) rfl rfl [0, 1, 2, 3, 4, 5, 6, 7, 8, 9] (by decide) rfl rfl [0, 1, 2, 3, 4] rfl) rfl rfl hl.1 rfl (lv_room (Nat.le_of_ble_eq_true rfl)) dX9_years_127 ⟨Nat.le_of_ble_eq_true rfl, Nat.le_of_ble_eq_true rfl⟩) hK hP hD hS hA [0, 1, 2, 3, 4, 5, 6, 7, 8, 9] [10] rfl rfl (by decide) (by decide) (fun _ H locs _ hP hD hK9 hS => ?_)
                  have hP : va_P (dC, dI) vwCl [((a 0), .inr (9, [.ref (a 1), .ref (a 3), .ref (a 4), .ref (a 7), .ref (a 10), .ref (a 14), .ref (a 16), .ref (a 18), .ref (a 19), .ref (a 21), .ref (a 23), .ref (a 25), .ref (a 27), .ref (a 28), .int hi])), ((a 14), .inr (0, [.ref (a 15), .ref (a 7)])), ((a 15), .inl ((k 15), 98, .inl (o_35.2.2.2.2.1))), ((a 7), .inr (5, [.ref (a 8), .ref (a 9), .int dv])), ((a 8), .inl ((k 8), 8, .inl fu)), ((a 9), .inl ((k 9), 48, .inl fp)), ((a 19), .inr (4, [.ref (a 20), .int (o_35.2.1), .int (o_35.2.2.1)])), ((a 20), .inl ((k 20), 3920, .inl (o_35.2.2.2.2.2.1))), ((a 21), .inr (1, [.ref (a 22), .int (o_35.2.2.2.1)])), ((a 22), .inl ((k 22), 300, .inl (o_35.2.2.2.2.2.2))), ((a 27), .inr (2, [.long (o_33.2)]))] H := hP.sub [1, 2, 3, 4, 5, 6, 7, 8, 9, 10, 0] rfl
                  have hD : va_D A [((a 0), .inr (9, [.ref (a 1), .ref (a 3), .ref (a 4), .ref (a 7), .ref (a 10), .ref (a 14), .ref (a 16), .ref (a 18), .ref (a 19), .ref (a 21), .ref (a 23), .ref (a 25), .ref (a 27), .ref (a 28), .int hi])), ((a 14), .inr (0, [.ref (a 15), .ref (a 7)])), ((a 15), .inl ((k 15), 98, .inl (o_35.2.2.2.2.1))), ((a 7), .inr (5, [.ref (a 8), .ref (a 9), .int dv])), ((a 8), .inl ((k 8), 8, .inl fu)), ((a 9), .inl ((k 9), 48, .inl fp)), ((a 19), .inr (4, [.ref (a 20), .int (o_35.2.1), .int (o_35.2.2.1)])), ((a 20), .inl ((k 20), 3920, .inl (o_35.2.2.2.2.2.1))), ((a 21), .inr (1, [.ref (a 22), .int (o_35.2.2.2.1)])), ((a 22), .inl ((k 22), 300, .inl (o_35.2.2.2.2.2.2))), ((a 27), .inr (2, [.long (o_33.2)]))] := hD.sub [1, 2, 3, 4, 5, 6, 7, 8, 9, 10, 0] (by decide) rfl
                  refine lv_pop hx hb dX9_years_130 rfl ?_
                  refine lv_goto (tgt := 231) hx hb dX9_years_131 (by decide) ?_
                  refine lv_iinc (v := (x4_34 + 1)) (lv' := [(4, .int (x4_34 + 1)), (7, .int o_26.1), (6, .int o_24.1), (5, .int o_7.1), (0, .ref (a 0)), (1, .int z1), (2, .long z2)]) hx hb dX9_years_231 hl (k := 3) rfl (rfl) (by decide) rfl (fun ls hl => ?_)
                  refine lv_goto (tgt := 34) hx hb dX9_years_234 (by decide) ?_
                  exact ih_34 (x4_34 + 1) (o_35.2.1) (o_35.2.2.1) (o_35.2.2.2.1) (o_33.2) (o_35.2.2.2.2.1) (o_35.2.2.2.2.2.1) (o_35.2.2.2.2.2.2) H locs ls hG hP hD hS (lv_sub hl [0, 4, 5, 6] rfl)
        exact L_34 1000 0 nx ph tt z2 fr fq fd H locs ls hG hP hD hS hl
      · have hG := q_ifn c_5 hG
        refine lv_iconst (v := (-1)) hx hb dX9_years_21 (by decide) ?_
        obtain rfl := Option.some.inj hG
        have hP9 := hP.sub (ws' := [((a 0), .inr (9, [.ref (a 1), .ref (a 3), .ref (a 4), .ref (a 7), .ref (a 10), .ref (a 14), .ref (a 16), .ref (a 18), .ref (a 19), .ref (a 21), .ref (a 23), .ref (a 25), .ref (a 27), .ref (a 28), .int hi])), ((a 14), .inr (0, [.ref (a 15), .ref (a 7)])), ((a 15), .inl ((k 15), 98, .inl fr)), ((a 7), .inr (5, [.ref (a 8), .ref (a 9), .int dv])), ((a 8), .inl ((k 8), 8, .inl fu)), ((a 9), .inl ((k 9), 48, .inl fp)), ((a 19), .inr (4, [.ref (a 20), .int nx, .int ph])), ((a 20), .inl ((k 20), 3920, .inl fq)), ((a 21), .inr (1, [.ref (a 22), .int tt])), ((a 22), .inl ((k 22), 300, .inl fd)), ((a 27), .inr (2, [.long xx]))]) [0, 1, 2, 3, 4, 5, 6, 7, 8, 9, 10] rfl
        have hD9 := hD.sub (ws' := [((a 0), .inr (9, [.ref (a 1), .ref (a 3), .ref (a 4), .ref (a 7), .ref (a 10), .ref (a 14), .ref (a 16), .ref (a 18), .ref (a 19), .ref (a 21), .ref (a 23), .ref (a 25), .ref (a 27), .ref (a 28), .int hi])), ((a 14), .inr (0, [.ref (a 15), .ref (a 7)])), ((a 15), .inl ((k 15), 98, .inl fr)), ((a 7), .inr (5, [.ref (a 8), .ref (a 9), .int dv])), ((a 8), .inl ((k 8), 8, .inl fu)), ((a 9), .inl ((k 9), 48, .inl fp)), ((a 19), .inr (4, [.ref (a 20), .int nx, .int ph])), ((a 20), .inl ((k 20), 3920, .inl fq)), ((a 21), .inr (1, [.ref (a 22), .int tt])), ((a 22), .inl ((k 22), 300, .inl fd)), ((a 27), .inr (2, [.long xx]))]) [0, 1, 2, 3, 4, 5, 6, 7, 8, 9, 10] (by decide) rfl
        have hK9 := hK.sub (tys' := [((k 15), .int), ((k 8), .int), ((k 9), .int), ((k 20), .int), ((k 22), .int)]) [0, 1, 2, 3, 4] rfl
        exact W.iret (v := (-1)) hx hb hr (fun t ht hW => ⟨⟨(-1), (), rfl, ⟨rfl, trivial⟩, by rw [ht]; exact hP9, va_K.moved hW.alike hK9, hD9⟩, hS.F ht⟩) hS.2.2 dX9_years_22

def F_X9_status (fz : Nat → Int32) (z1 : Int32) : Option (Int32) := (if z1 < 0 then some ((-1)) else (if 4 ≤ z1 then some ((-1)) else (if z1 < 0 ∨ 4 ≤ (z1).toNatClampNeg then none else some ((fz (z1).toNatClampNeg)))))
set_option maxHeartbeats 4000000 in
set_option maxRecDepth 100000 in
theorem c_X9_status (l : Launch) (dC : Nat → ClassId) (dI : Nat → Nat → Nat) (a : Nat → Nat) (k : Nat → ClassId) (hi : Int32) (fz : Nat → Int32) (z1 : Int32) (o : Int32) (hG : F_X9_status fz z1 = some o) : Met l yX9_status (.code yX9_status cX9_status 2 (some .int) :: wA) ({ frames := 0, cells := 0, slots := 0, locals := 0 }) (va_Pc [.ref (a 0), .int z1] (q_R (dC, dI) [((a 0), .inr (9, [.ref (a 1), .ref (a 3), .ref (a 4), .ref (a 7), .ref (a 10), .ref (a 14), .ref (a 16), .ref (a 18), .ref (a 19), .ref (a 21), .ref (a 23), .ref (a 25), .ref (a 27), .ref (a 28), .int hi])), ((a 28), .inl ((k 28), 4, .inl fz))] [((k 28), .int)])) (q_i o) 0 0 (fun _ => False) := by
  refine Met.ofW (cc := cX9_status) (maxL := 2) (ret := (some .int)) (by decide) rfl ?_
  intro p e s m args below meth c s₁ B hml hv
  obtain ⟨rfl, hP, hK⟩ := hv
  have hx := B.exec
  have hb := B.bytes
  have hr := B.returns
  have hts := atoms_spec (ws := .code yX9_status cX9_status 2 (some .int) :: wA) B.pre
  have hown : s.vm.findClass RX9 = some m.cls := findClass_of_methodNamed B.named
  have hlocks := B.notSynchronized
  have hS : va_S (fun _ => False) s.heap s.heap [] := va_S.rf
  have hl := lv_entry ([.ref (a 0), .int z1]) (n := 2) (Nat.le_of_ble_eq_true rfl)
  rw [lg_entry_eq]
  generalize (lg_sl ([.ref (a 0), .int z1]) ++ List.replicate (2 - (lg_sl ([.ref (a 0), .int z1])).length) Slot.unset).toArray = ls at hl ⊢
  have hl : lv_has ls 2 [(0, .ref (a 0)), (1, .int z1)] := hl
  unfold F_X9_status at hG
  refine lv_iload_n hx hb dX9_status_0 rfl (lv_at hl 1 rfl) ?_
  refine lv_if_lt (tgt := 22) hx hb dX9_status_1 (by decide) (fun c_1 => ?_) (fun c_1 => ?_)
  · have hG := q_ifp c_1 hG
    refine lv_iconst (v := (-1)) hx hb dX9_status_22 (by decide) ?_
    obtain rfl := Option.some.inj hG
    exact W.iret (v := (-1)) hx hb hr (fun t ht hW => ⟨⟨(-1), (), rfl, rfl, trivial⟩, hS.F ht⟩) hS.2.2 dX9_status_23
  · have hG := q_ifn c_1 hG
    refine lv_iload_n hx hb dX9_status_4 rfl (lv_at hl 1 rfl) ?_
    refine lv_aload_n hx hb dX9_status_5 rfl (lv_at hl 0 rfl) ?_
    refine va_get (D := (dC, dI)) (ci := 9) (v := .ref (a 28)) (C := RX9) (T := TX9) (N := 15) hx hb hts iA_9 hown hK hP 0 rfl rfl 13 (by decide) (hts (.fieldLink RX9 90 "HubTree" "refusals" "[I") (List.mem_cons_of_mem _ m_55)) (fun _ h9 => h9) rfl dX9_status_6 ?_
    refine va_alen hx hb hK hP 1 0 rfl rfl (v := 4) rfl dX9_status_9 ?_
    refine lv_icmp_ge (tgt := 22) hx hb dX9_status_10 (by decide) (fun c_2 => ?_) (fun c_2 => ?_)
    · have hG := q_ifp c_2 hG
      refine lv_iconst (v := (-1)) hx hb dX9_status_22 (by decide) ?_
      obtain rfl := Option.some.inj hG
      exact W.iret (v := (-1)) hx hb hr (fun t ht hW => ⟨⟨(-1), (), rfl, rfl, trivial⟩, hS.F ht⟩) hS.2.2 dX9_status_23
    · have hG := q_ifn c_2 hG
      refine lv_aload_n hx hb dX9_status_13 rfl (lv_at hl 0 rfl) ?_
      refine va_get (D := (dC, dI)) (ci := 9) (v := .ref (a 28)) (C := RX9) (T := TX9) (N := 15) hx hb hts iA_9 hown hK hP 0 rfl rfl 13 (by decide) (hts (.fieldLink RX9 90 "HubTree" "refusals" "[I") (List.mem_cons_of_mem _ m_55)) (fun _ h9 => h9) rfl dX9_status_14 ?_
      refine lv_iload_n hx hb dX9_status_17 rfl (lv_at hl 1 rfl) ?_
      obtain ⟨h_3, hG⟩ := q_ix hG
      refine va_iald hx hb hK hP 1 0 rfl rfl (i := z1) h_3 dX9_status_18 ?_
      refine q_top (y := (fz (z1).toNatClampNeg)) rfl ?_
      refine lv_goto (tgt := 23) hx hb dX9_status_19 (by decide) ?_
      obtain rfl := Option.some.inj hG
      exact W.iret (v := (fz (z1).toNatClampNeg)) hx hb hr (fun t ht hW => ⟨⟨(fz (z1).toNatClampNeg), (), rfl, rfl, trivial⟩, hS.F ht⟩) hS.2.2 dX9_status_23

def F_X9_undo (nx : Int32) (ph : Int32) (tt : Int32) (fr : Nat → Int32) (fq : Nat → Int32) : Option (Int32 × Int32 × Int32 × Int32 × (Nat → Int32)) := (if ph = 0 then some ((-1), nx, ph, tt, fr) else ((F_X4_restore fq nx ph fr).bind fun o_2 => ((F_X1_forgetLatest tt).bind fun o_4 => some ((o_2.2.1), (o_2.1), (o_2.2.1), (o_4), (o_2.2.2)))))
set_option maxHeartbeats 4000000 in
set_option maxRecDepth 100000 in
theorem c_X9_undo (l : Launch) (dC : Nat → ClassId) (dI : Nat → Nat → Nat) (a : Nat → Nat) (k : Nat → ClassId) (dv : Int32) (nx : Int32) (ph : Int32) (tt : Int32) (hi : Int32) (fu : Nat → Int32) (fp : Nat → Int32) (fr : Nat → Int32) (fq : Nat → Int32) (A : Nat → Prop) (o : Int32 × Int32 × Int32 × Int32 × (Nat → Int32)) (hG : F_X9_undo nx ph tt fr fq = some o) : Met l yX9_undo (.code yX9_undo cX9_undo 1 (some .int) :: wA) ({ frames := 2, cells := 0, slots := 0, locals := 81 }) (va_Pc [.ref (a 0)] (q_W (dC, dI) A [((a 0), .inr (9, [.ref (a 1), .ref (a 3), .ref (a 4), .ref (a 7), .ref (a 10), .ref (a 14), .ref (a 16), .ref (a 18), .ref (a 19), .ref (a 21), .ref (a 23), .ref (a 25), .ref (a 27), .ref (a 28), .int hi])), ((a 14), .inr (0, [.ref (a 15), .ref (a 7)])), ((a 15), .inl ((k 15), 98, .inl fr)), ((a 7), .inr (5, [.ref (a 8), .ref (a 9), .int dv])), ((a 8), .inl ((k 8), 8, .inl fu)), ((a 9), .inl ((k 9), 48, .inl fp)), ((a 19), .inr (4, [.ref (a 20), .int nx, .int ph])), ((a 20), .inl ((k 20), 3920, .inl fq)), ((a 21), .inr (1, [.ref (a 22), .int tt]))] [((k 15), .int), ((k 8), .int), ((k 9), .int), ((k 20), .int)])) (va_Qi (fun (r : Int32) (_ : Unit) => r = o.1 ∧ True) (fun (_ : Unit) t => q_B (dC, dI) A [((a 0), .inr (9, [.ref (a 1), .ref (a 3), .ref (a 4), .ref (a 7), .ref (a 10), .ref (a 14), .ref (a 16), .ref (a 18), .ref (a 19), .ref (a 21), .ref (a 23), .ref (a 25), .ref (a 27), .ref (a 28), .int hi])), ((a 14), .inr (0, [.ref (a 15), .ref (a 7)])), ((a 15), .inl ((k 15), 98, .inl (o.2.2.2.2))), ((a 7), .inr (5, [.ref (a 8), .ref (a 9), .int dv])), ((a 8), .inl ((k 8), 8, .inl fu)), ((a 9), .inl ((k 9), 48, .inl fp)), ((a 19), .inr (4, [.ref (a 20), .int (o.2.1), .int (o.2.2.1)])), ((a 20), .inl ((k 20), 3920, .inl fq)), ((a 21), .inr (1, [.ref (a 22), .int (o.2.2.2.1)]))] [((k 15), .int), ((k 8), .int), ((k 9), .int), ((k 20), .int)] t) A) 0 0 A := by
  refine Met.ofW (cc := cX9_undo) (maxL := 1) (ret := (some .int)) (by decide) rfl ?_
  intro p e s m args below meth c s₁ B hml hv
  obtain ⟨rfl, hP, hK, hD, hA⟩ := hv
  have hx := B.exec
  have hb := B.bytes
  have hr := B.returns
  have hts := atoms_spec (ws := .code yX9_undo cX9_undo 1 (some .int) :: wA) B.pre
  have hown : s.vm.findClass RX9 = some m.cls := findClass_of_methodNamed B.named
  have hlocks := B.notSynchronized
  have hS : va_S A s.heap s.heap [] := va_S.rf
  have hl := lv_entry ([.ref (a 0)]) (n := 1) (Nat.le_of_ble_eq_true rfl)
  rw [lg_entry_eq]
  generalize (lg_sl ([.ref (a 0)]) ++ List.replicate (1 - (lg_sl ([.ref (a 0)])).length) Slot.unset).toArray = ls at hl ⊢
  have hl : lv_has ls 1 [(0, .ref (a 0))] := hl
  unfold F_X9_undo at hG
  refine lv_aload_n hx hb dX9_undo_0 rfl (lv_at hl 0 rfl) ?_
  refine va_get (D := (dC, dI)) (ci := 9) (v := .ref (a 19)) (C := RX9) (T := TX9) (N := 15) hx hb hts iA_9 hown hK hP 0 rfl rfl 8 (by decide) (hts (.fieldLink RX9 66 "HubTree" "past" "LHubTree$Past;") (List.mem_cons_of_mem _ m_43)) (fun _ h9 => h9) rfl dX9_undo_1 ?_
  refine va_get (D := (dC, dI)) (ci := 4) (v := .int ph) (C := RX4) (T := TX4) (N := 3) hx hb hts iA_4 hown hK hP 6 rfl rfl 2 (by decide) (hts (.fieldLink RX9 247 "HubTree$Past" "held" "I") (List.mem_cons_of_mem _ m_1129)) (fun _ h9 => h9) rfl dX9_undo_4 ?_
  refine lv_if_ne (tgt := 12) hx hb dX9_undo_7 (by decide) (fun c_1 => ?_) (fun c_1 => ?_)
  · have hG := q_ifn c_1 hG
    refine lv_aload_n hx hb dX9_undo_12 rfl (lv_at hl 0 rfl) ?_
    refine va_get (D := (dC, dI)) (ci := 9) (v := .ref (a 19)) (C := RX9) (T := TX9) (N := 15) hx hb hts iA_9 hown hK hP 0 rfl rfl 8 (by decide) (hts (.fieldLink RX9 66 "HubTree" "past" "LHubTree$Past;") (List.mem_cons_of_mem _ m_43)) (fun _ h9 => h9) rfl dX9_undo_13 ?_
    refine lv_aload_n hx hb dX9_undo_16 rfl (lv_at hl 0 rfl) ?_
    refine va_get (D := (dC, dI)) (ci := 9) (v := .ref (a 14)) (C := RX9) (T := TX9) (N := 15) hx hb hts iA_9 hown hK hP 0 rfl rfl 5 (by decide) (hts (.fieldLink RX9 47 "HubTree" "now" "LHubTree$Bus;") (List.mem_cons_of_mem _ m_34)) (fun _ h9 => h9) rfl dX9_undo_17 ?_
    obtain ⟨o_2, r_3, hG⟩ := q_bi hG
    refine q_gov2 (wr := [((a 0), .inr (9, [.ref (a 1), .ref (a 3), .ref (a 4), .ref (a 7), .ref (a 10), .ref (a 14), .ref (a 16), .ref (a 18), .ref (a 19), .ref (a 21), .ref (a 23), .ref (a 25), .ref (a 27), .ref (a 28), .int hi])), ((a 7), .inr (5, [.ref (a 8), .ref (a 9), .int dv])), ((a 8), .inl ((k 8), 8, .inl fu)), ((a 9), .inl ((k 9), 48, .inl fp)), ((a 21), .inr (1, [.ref (a 22), .int tt]))]) (va_runV (As := [.ref (a 14)]) (rest := []) ⟨hx, hb, hml, hown, hts⟩ (c_X4_restore l dC dI (a 19) (a 20) (k 20) fq nx ph (a 14) (a 15) (a 7) (k 15) fr (va_A [((a 19), .inr (4, [.ref (a 20), .int nx, .int ph])), ((a 20), .inl ((k 20), 3920, .inl fq)), ((a 14), .inr (0, [.ref (a 15), .ref (a 7)])), ((a 15), .inl ((k 15), 98, .inl fr))] s.heap.size) o_2 r_3) (cwV 1 hts (q_gV m_1130 m_1131 m_1132 m_42 m_1133) rfl rfl rfl hdV_yX4_restore_1 ⟨Nat.le_of_ble_eq_true rfl, Nat.le_of_ble_eq_true rfl⟩) (q_preWV hK hP hD (q := (RX4, TX4, 3)) (ci := 4) (q0 := 6) rfl rfl [6, 7, 1, 2] (by decide) rfl rfl [3, 0] rfl) rfl rfl hl.1 rfl (lv_room (Nat.le_of_ble_eq_true rfl)) dX9_undo_20 ⟨Nat.le_of_ble_eq_true rfl, Nat.le_of_ble_eq_true rfl⟩) hK hP hD hS hA [6, 7, 1, 2] [0, 3, 4, 5, 8] rfl rfl (by decide) (by decide) (fun _ H locs _ hP hD hK9 hS => ?_)
    have hP : va_P (dC, dI) vwCl [((a 0), .inr (9, [.ref (a 1), .ref (a 3), .ref (a 4), .ref (a 7), .ref (a 10), .ref (a 14), .ref (a 16), .ref (a 18), .ref (a 19), .ref (a 21), .ref (a 23), .ref (a 25), .ref (a 27), .ref (a 28), .int hi])), ((a 14), .inr (0, [.ref (a 15), .ref (a 7)])), ((a 15), .inl ((k 15), 98, .inl (o_2.2.2))), ((a 7), .inr (5, [.ref (a 8), .ref (a 9), .int dv])), ((a 8), .inl ((k 8), 8, .inl fu)), ((a 9), .inl ((k 9), 48, .inl fp)), ((a 19), .inr (4, [.ref (a 20), .int (o_2.1), .int (o_2.2.1)])), ((a 20), .inl ((k 20), 3920, .inl fq)), ((a 21), .inr (1, [.ref (a 22), .int tt]))] H := hP.sub [0, 7, 8, 1, 2, 3, 5, 6, 4] rfl
    have hD : va_D A [((a 0), .inr (9, [.ref (a 1), .ref (a 3), .ref (a 4), .ref (a 7), .ref (a 10), .ref (a 14), .ref (a 16), .ref (a 18), .ref (a 19), .ref (a 21), .ref (a 23), .ref (a 25), .ref (a 27), .ref (a 28), .int hi])), ((a 14), .inr (0, [.ref (a 15), .ref (a 7)])), ((a 15), .inl ((k 15), 98, .inl (o_2.2.2))), ((a 7), .inr (5, [.ref (a 8), .ref (a 9), .int dv])), ((a 8), .inl ((k 8), 8, .inl fu)), ((a 9), .inl ((k 9), 48, .inl fp)), ((a 19), .inr (4, [.ref (a 20), .int (o_2.1), .int (o_2.2.1)])), ((a 20), .inl ((k 20), 3920, .inl fq)), ((a 21), .inr (1, [.ref (a 22), .int tt]))] := hD.sub [0, 7, 8, 1, 2, 3, 5, 6, 4] (by decide) rfl
    refine lv_aload_n hx hb dX9_undo_23 rfl (lv_at hl 0 rfl) ?_
    refine va_get (D := (dC, dI)) (ci := 9) (v := .ref (a 21)) (C := RX9) (T := TX9) (N := 15) hx hb hts iA_9 hown hK hP 0 rfl rfl 9 (by decide) (hts (.fieldLink RX9 73 "HubTree" "diary" "LHubTree$Diary;") (List.mem_cons_of_mem _ m_47)) (fun _ h9 => h9) rfl dX9_undo_24 ?_
    obtain ⟨o_4, r_5, hG⟩ := q_bi hG
    refine q_gov2 (wr := [((a 0), .inr (9, [.ref (a 1), .ref (a 3), .ref (a 4), .ref (a 7), .ref (a 10), .ref (a 14), .ref (a 16), .ref (a 18), .ref (a 19), .ref (a 21), .ref (a 23), .ref (a 25), .ref (a 27), .ref (a 28), .int hi])), ((a 14), .inr (0, [.ref (a 15), .ref (a 7)])), ((a 15), .inl ((k 15), 98, .inl (o_2.2.2))), ((a 7), .inr (5, [.ref (a 8), .ref (a 9), .int dv])), ((a 8), .inl ((k 8), 8, .inl fu)), ((a 9), .inl ((k 9), 48, .inl fp)), ((a 19), .inr (4, [.ref (a 20), .int (o_2.1), .int (o_2.2.1)])), ((a 20), .inl ((k 20), 3920, .inl fq))]) (va_runV (As := []) (rest := []) ⟨hx, hb, hml, hown, hts⟩ (c_X1_forgetLatest l dC dI (a 21) (a 22) tt (va_A [((a 21), .inr (1, [.ref (a 22), .int tt]))] H.size) o_4 r_5) (cwV 0 hts (q_gV m_1134 m_1135 m_1136 m_46 m_1137) rfl rfl rfl hdV_yX1_forgetLatest_0 ⟨Nat.le_of_ble_eq_true rfl, Nat.le_of_ble_eq_true rfl⟩) (q_preWV hK hP hD (q := (RX1, TX1, 2)) (ci := 1) (q0 := 8) rfl rfl [8] (by decide) rfl rfl [] rfl) rfl rfl hl.1 rfl (lv_room (Nat.le_of_ble_eq_true rfl)) dX9_undo_27 ⟨Nat.le_of_ble_eq_true rfl, Nat.le_of_ble_eq_true rfl⟩) hK hP hD hS hA [8] [0, 1, 2, 3, 4, 5, 6, 7] rfl rfl (by decide) (by decide) (fun _ H locs _ hP hD hK9 hS => ?_)
    have hP : va_P (dC, dI) vwCl [((a 0), .inr (9, [.ref (a 1), .ref (a 3), .ref (a 4), .ref (a 7), .ref (a 10), .ref (a 14), .ref (a 16), .ref (a 18), .ref (a 19), .ref (a 21), .ref (a 23), .ref (a 25), .ref (a 27), .ref (a 28), .int hi])), ((a 14), .inr (0, [.ref (a 15), .ref (a 7)])), ((a 15), .inl ((k 15), 98, .inl (o_2.2.2))), ((a 7), .inr (5, [.ref (a 8), .ref (a 9), .int dv])), ((a 8), .inl ((k 8), 8, .inl fu)), ((a 9), .inl ((k 9), 48, .inl fp)), ((a 19), .inr (4, [.ref (a 20), .int (o_2.1), .int (o_2.2.1)])), ((a 20), .inl ((k 20), 3920, .inl fq)), ((a 21), .inr (1, [.ref (a 22), .int (o_4)]))] H := hP.sub [0, 1, 2, 3, 4, 5, 6, 7, 8] rfl
    have hD : va_D A [((a 0), .inr (9, [.ref (a 1), .ref (a 3), .ref (a 4), .ref (a 7), .ref (a 10), .ref (a 14), .ref (a 16), .ref (a 18), .ref (a 19), .ref (a 21), .ref (a 23), .ref (a 25), .ref (a 27), .ref (a 28), .int hi])), ((a 14), .inr (0, [.ref (a 15), .ref (a 7)])), ((a 15), .inl ((k 15), 98, .inl (o_2.2.2))), ((a 7), .inr (5, [.ref (a 8), .ref (a 9), .int dv])), ((a 8), .inl ((k 8), 8, .inl fu)), ((a 9), .inl ((k 9), 48, .inl fp)), ((a 19), .inr (4, [.ref (a 20), .int (o_2.1), .int (o_2.2.1)])), ((a 20), .inl ((k 20), 3920, .inl fq)), ((a 21), .inr (1, [.ref (a 22), .int (o_4)]))] := hD.sub [0, 1, 2, 3, 4, 5, 6, 7, 8] (by decide) rfl
    refine lv_aload_n hx hb dX9_undo_30 rfl (lv_at hl 0 rfl) ?_
    refine va_get (D := (dC, dI)) (ci := 9) (v := .ref (a 19)) (C := RX9) (T := TX9) (N := 15) hx hb hts iA_9 hown hK hP 0 rfl rfl 8 (by decide) (hts (.fieldLink RX9 66 "HubTree" "past" "LHubTree$Past;") (List.mem_cons_of_mem _ m_43)) (fun _ h9 => h9) rfl dX9_undo_31 ?_
    refine va_get (D := (dC, dI)) (ci := 4) (v := .int (o_2.2.1)) (C := RX4) (T := TX4) (N := 3) hx hb hts iA_4 hown hK hP 6 rfl rfl 2 (by decide) (hts (.fieldLink RX9 247 "HubTree$Past" "held" "I") (List.mem_cons_of_mem _ m_1129)) (fun _ h9 => h9) rfl dX9_undo_34 ?_
    obtain rfl := Option.some.inj hG
    have hP9 := hP.sub (ws' := [((a 0), .inr (9, [.ref (a 1), .ref (a 3), .ref (a 4), .ref (a 7), .ref (a 10), .ref (a 14), .ref (a 16), .ref (a 18), .ref (a 19), .ref (a 21), .ref (a 23), .ref (a 25), .ref (a 27), .ref (a 28), .int hi])), ((a 14), .inr (0, [.ref (a 15), .ref (a 7)])), ((a 15), .inl ((k 15), 98, .inl (o_2.2.2))), ((a 7), .inr (5, [.ref (a 8), .ref (a 9), .int dv])), ((a 8), .inl ((k 8), 8, .inl fu)), ((a 9), .inl ((k 9), 48, .inl fp)), ((a 19), .inr (4, [.ref (a 20), .int (o_2.1), .int (o_2.2.1)])), ((a 20), .inl ((k 20), 3920, .inl fq)), ((a 21), .inr (1, [.ref (a 22), .int (o_4)]))]) [0, 1, 2, 3, 4, 5, 6, 7, 8] rfl
    have hD9 := hD.sub (ws' := [((a 0), .inr (9, [.ref (a 1), .ref (a 3), .ref (a 4), .ref (a 7), .ref (a 10), .ref (a 14), .ref (a 16), .ref (a 18), .ref (a 19), .ref (a 21), .ref (a 23), .ref (a 25), .ref (a 27), .ref (a 28), .int hi])), ((a 14), .inr (0, [.ref (a 15), .ref (a 7)])), ((a 15), .inl ((k 15), 98, .inl (o_2.2.2))), ((a 7), .inr (5, [.ref (a 8), .ref (a 9), .int dv])), ((a 8), .inl ((k 8), 8, .inl fu)), ((a 9), .inl ((k 9), 48, .inl fp)), ((a 19), .inr (4, [.ref (a 20), .int (o_2.1), .int (o_2.2.1)])), ((a 20), .inl ((k 20), 3920, .inl fq)), ((a 21), .inr (1, [.ref (a 22), .int (o_4)]))]) [0, 1, 2, 3, 4, 5, 6, 7, 8] (by decide) rfl
    have hK9 := hK.sub (tys' := [((k 15), .int), ((k 8), .int), ((k 9), .int), ((k 20), .int)]) [0, 1, 2, 3] rfl
    exact W.iret (v := (o_2.2.1)) hx hb hr (fun t ht hW => ⟨⟨(o_2.2.1), (), rfl, ⟨rfl, trivial⟩, by rw [ht]; exact hP9, va_K.moved hW.alike hK9, hD9⟩, hS.F ht⟩) hS.2.2 dX9_undo_37
  · have hG := q_ifp c_1 hG
    refine lv_iconst (v := (-1)) hx hb dX9_undo_10 (by decide) ?_
    obtain rfl := Option.some.inj hG
    have hP9 := hP.sub (ws' := [((a 0), .inr (9, [.ref (a 1), .ref (a 3), .ref (a 4), .ref (a 7), .ref (a 10), .ref (a 14), .ref (a 16), .ref (a 18), .ref (a 19), .ref (a 21), .ref (a 23), .ref (a 25), .ref (a 27), .ref (a 28), .int hi])), ((a 14), .inr (0, [.ref (a 15), .ref (a 7)])), ((a 15), .inl ((k 15), 98, .inl fr)), ((a 7), .inr (5, [.ref (a 8), .ref (a 9), .int dv])), ((a 8), .inl ((k 8), 8, .inl fu)), ((a 9), .inl ((k 9), 48, .inl fp)), ((a 19), .inr (4, [.ref (a 20), .int nx, .int ph])), ((a 20), .inl ((k 20), 3920, .inl fq)), ((a 21), .inr (1, [.ref (a 22), .int tt]))]) [0, 1, 2, 3, 4, 5, 6, 7, 8] rfl
    have hD9 := hD.sub (ws' := [((a 0), .inr (9, [.ref (a 1), .ref (a 3), .ref (a 4), .ref (a 7), .ref (a 10), .ref (a 14), .ref (a 16), .ref (a 18), .ref (a 19), .ref (a 21), .ref (a 23), .ref (a 25), .ref (a 27), .ref (a 28), .int hi])), ((a 14), .inr (0, [.ref (a 15), .ref (a 7)])), ((a 15), .inl ((k 15), 98, .inl fr)), ((a 7), .inr (5, [.ref (a 8), .ref (a 9), .int dv])), ((a 8), .inl ((k 8), 8, .inl fu)), ((a 9), .inl ((k 9), 48, .inl fp)), ((a 19), .inr (4, [.ref (a 20), .int nx, .int ph])), ((a 20), .inl ((k 20), 3920, .inl fq)), ((a 21), .inr (1, [.ref (a 22), .int tt]))]) [0, 1, 2, 3, 4, 5, 6, 7, 8] (by decide) rfl
    have hK9 := hK.sub (tys' := [((k 15), .int), ((k 8), .int), ((k 9), .int), ((k 20), .int)]) [0, 1, 2, 3] rfl
    exact W.iret (v := (-1)) hx hb hr (fun t ht hW => ⟨⟨(-1), (), rfl, ⟨rfl, trivial⟩, by rw [ht]; exact hP9, va_K.moved hW.alike hK9, hD9⟩, hS.F ht⟩) hS.2.2 dX9_undo_11

def F_X9_log (tt : Int32) (fd : Nat → Int32) (z1 : Int32) (z2 : Int32) : Option (Int32) := (if z1 < 0 then some ((-1000000)) else ((F_X1_shown tt).bind fun o_2 => (if o_2 ≤ z1 then some ((-1000000)) else (if z2 < 0 then some ((-1000000)) else (if z2 < 3 then ((F_X1_read fd tt z1 z2).bind fun o_7 => some (o_7)) else some ((-1000000)))))))
set_option maxHeartbeats 4000000 in
set_option maxRecDepth 100000 in
theorem c_X9_log (l : Launch) (dC : Nat → ClassId) (dI : Nat → Nat → Nat) (a : Nat → Nat) (k : Nat → ClassId) (tt : Int32) (hi : Int32) (fd : Nat → Int32) (z1 : Int32) (z2 : Int32) (o : Int32) (hG : F_X9_log tt fd z1 z2 = some o) : Met l yX9_log (.code yX9_log cX9_log 3 (some .int) :: wA) ({ frames := 2, cells := 0, slots := 0, locals := 41 }) (va_Pc [.ref (a 0), .int z1, .int z2] (q_R (dC, dI) [((a 0), .inr (9, [.ref (a 1), .ref (a 3), .ref (a 4), .ref (a 7), .ref (a 10), .ref (a 14), .ref (a 16), .ref (a 18), .ref (a 19), .ref (a 21), .ref (a 23), .ref (a 25), .ref (a 27), .ref (a 28), .int hi])), ((a 21), .inr (1, [.ref (a 22), .int tt])), ((a 22), .inl ((k 22), 300, .inl fd))] [((k 22), .int)])) (q_i o) 0 0 (fun _ => False) := by
  refine Met.ofW (cc := cX9_log) (maxL := 3) (ret := (some .int)) (by decide) rfl ?_
  intro p e s m args below meth c s₁ B hml hv
  obtain ⟨rfl, hP, hK⟩ := hv
  have hx := B.exec
  have hb := B.bytes
  have hr := B.returns
  have hts := atoms_spec (ws := .code yX9_log cX9_log 3 (some .int) :: wA) B.pre
  have hown : s.vm.findClass RX9 = some m.cls := findClass_of_methodNamed B.named
  have hlocks := B.notSynchronized
  have hS : va_S (fun _ => False) s.heap s.heap [] := va_S.rf
  have hl := lv_entry ([.ref (a 0), .int z1, .int z2]) (n := 3) (Nat.le_of_ble_eq_true rfl)
  rw [lg_entry_eq]
  generalize (lg_sl ([.ref (a 0), .int z1, .int z2]) ++ List.replicate (3 - (lg_sl ([.ref (a 0), .int z1, .int z2])).length) Slot.unset).toArray = ls at hl ⊢
  have hl : lv_has ls 3 [(0, .ref (a 0)), (1, .int z1), (2, .int z2)] := hl
  unfold F_X9_log at hG
  refine lv_iload_n hx hb dX9_log_0 rfl (lv_at hl 1 rfl) ?_
  refine lv_if_lt (tgt := 24) hx hb dX9_log_1 (by decide) (fun c_1 => ?_) (fun c_1 => ?_)
  · have hG := q_ifp c_1 hG
    refine lv_ldc (v := (-1000000)) hx hb hown (hts (.constant RX9 185 (-1000000)) (List.mem_cons_of_mem _ m_556)) dX9_log_24 ?_
    obtain rfl := Option.some.inj hG
    exact W.iret (v := (-1000000)) hx hb hr (fun t ht hW => ⟨⟨(-1000000), (), rfl, rfl, trivial⟩, hS.F ht⟩) hS.2.2 dX9_log_26
  · have hG := q_ifn c_1 hG
    refine lv_iload_n hx hb dX9_log_4 rfl (lv_at hl 1 rfl) ?_
    refine lv_aload_n hx hb dX9_log_5 rfl (lv_at hl 0 rfl) ?_
    refine va_get (D := (dC, dI)) (ci := 9) (v := .ref (a 21)) (C := RX9) (T := TX9) (N := 15) hx hb hts iA_9 hown hK hP 0 rfl rfl 9 (by decide) (hts (.fieldLink RX9 73 "HubTree" "diary" "LHubTree$Diary;") (List.mem_cons_of_mem _ m_47)) (fun _ h9 => h9) rfl dX9_log_6 ?_
    obtain ⟨o_2, r_3, hG⟩ := q_bi hG
    refine q_goi (v := o_2) (va_runV (As := []) (rest := [.int z1]) ⟨hx, hb, hml, hown, hts⟩ (c_X1_shown l dC dI (a 21) (a 22) tt o_2 r_3) (cwV 0 hts (q_gV m_1147 m_1148 m_1149 m_46 m_1150) rfl rfl rfl hdV_yX1_shown_0 ⟨Nat.le_of_ble_eq_true rfl, Nat.le_of_ble_eq_true rfl⟩) (q_preV hK hP (q := (RX1, TX1, 2)) (ci := 1) (q0 := 1) rfl rfl [1] rfl [] rfl) rfl rfl hl.1 rfl (lv_room (Nat.le_of_ble_eq_true rfl)) dX9_log_9 ⟨Nat.le_of_ble_eq_true rfl, Nat.le_of_ble_eq_true rfl⟩) hP hS (fun H locs hP hS => ?_)
    refine lv_icmp_ge (tgt := 24) hx hb dX9_log_12 (by decide) (fun c_4 => ?_) (fun c_4 => ?_)
    · have hG := q_ifp c_4 hG
      refine lv_ldc (v := (-1000000)) hx hb hown (hts (.constant RX9 185 (-1000000)) (List.mem_cons_of_mem _ m_556)) dX9_log_24 ?_
      obtain rfl := Option.some.inj hG
      exact W.iret (v := (-1000000)) hx hb hr (fun t ht hW => ⟨⟨(-1000000), (), rfl, rfl, trivial⟩, hS.F ht⟩) hS.2.2 dX9_log_26
    · have hG := q_ifn c_4 hG
      refine lv_iload_n hx hb dX9_log_15 rfl (lv_at hl 2 rfl) ?_
      refine lv_if_lt (tgt := 24) hx hb dX9_log_16 (by decide) (fun c_5 => ?_) (fun c_5 => ?_)
      · have hG := q_ifp c_5 hG
        refine lv_ldc (v := (-1000000)) hx hb hown (hts (.constant RX9 185 (-1000000)) (List.mem_cons_of_mem _ m_556)) dX9_log_24 ?_
        obtain rfl := Option.some.inj hG
        exact W.iret (v := (-1000000)) hx hb hr (fun t ht hW => ⟨⟨(-1000000), (), rfl, rfl, trivial⟩, hS.F ht⟩) hS.2.2 dX9_log_26
      · have hG := q_ifn c_5 hG
        refine lv_iload_n hx hb dX9_log_19 rfl (lv_at hl 2 rfl) ?_
        refine lv_iconst (v := 3) hx hb dX9_log_20 (by decide) ?_
        refine lv_icmp_lt (tgt := 27) hx hb dX9_log_21 (by decide) (fun c_6 => ?_) (fun c_6 => ?_)
        · have hG := q_ifp c_6 hG
          refine lv_aload_n hx hb dX9_log_27 rfl (lv_at hl 0 rfl) ?_
          refine va_get (D := (dC, dI)) (ci := 9) (v := .ref (a 21)) (C := RX9) (T := TX9) (N := 15) hx hb hts iA_9 hown hK hP 0 rfl rfl 9 (by decide) (hts (.fieldLink RX9 73 "HubTree" "diary" "LHubTree$Diary;") (List.mem_cons_of_mem _ m_47)) (fun _ h9 => h9) rfl dX9_log_28 ?_
          refine lv_iload_n hx hb dX9_log_31 rfl (lv_at hl 1 rfl) ?_
          refine lv_iload_n hx hb dX9_log_32 rfl (lv_at hl 2 rfl) ?_
          obtain ⟨o_7, r_8, hG⟩ := q_bi hG
          refine q_goi (v := o_7) (va_runV (As := [.int z1, .int z2]) (rest := []) ⟨hx, hb, hml, hown, hts⟩ (c_X1_read l dC dI (a 21) (a 22) (k 22) fd tt z1 z2 o_7 r_8) (cwV 2 hts (q_gV m_1152 m_1153 m_1154 m_46 m_1155) rfl rfl rfl hdV_yX1_read_2 ⟨Nat.le_of_ble_eq_true rfl, Nat.le_of_ble_eq_true rfl⟩) (q_preV hK hP (q := (RX1, TX1, 2)) (ci := 1) (q0 := 1) rfl rfl [1, 2] rfl [0] rfl) rfl rfl hl.1 rfl (lv_room (Nat.le_of_ble_eq_true rfl)) dX9_log_33 ⟨Nat.le_of_ble_eq_true rfl, Nat.le_of_ble_eq_true rfl⟩) hP hS (fun H locs hP hS => ?_)
          obtain rfl := Option.some.inj hG
          exact W.iret (v := o_7) hx hb hr (fun t ht hW => ⟨⟨o_7, (), rfl, rfl, trivial⟩, hS.F ht⟩) hS.2.2 dX9_log_36
        · have hG := q_ifn c_6 hG
          refine lv_ldc (v := (-1000000)) hx hb hown (hts (.constant RX9 185 (-1000000)) (List.mem_cons_of_mem _ m_556)) dX9_log_24 ?_
          obtain rfl := Option.some.inj hG
          exact W.iret (v := (-1000000)) hx hb hr (fun t ht hW => ⟨⟨(-1000000), (), rfl, rfl, trivial⟩, hS.F ht⟩) hS.2.2 dX9_log_26

def F_X9_when (dv : Int32) (fu : Nat → Int32) (fp : Nat → Int32) (fr : Nat → Int32) (fa : Nat → Int32) (z1 : Int32) : Option (Int32 × (Nat → Int32)) := ((F_X5_has dv z1).bind fun o_1 => (if o_1 = 0 then some ((-1), fa) else ((F_X0_is fr dv fu fp z1 0).bind fun o_4 => (if o_4 = 0 then ((F_X3_ticksTillRunning fa fr dv fu fp z1).bind fun o_7 => some (o_7.1, (o_7.2))) else some ((-1), fa)))))
set_option maxHeartbeats 4000000 in
set_option maxRecDepth 100000 in
theorem c_X9_when (l : Launch) (dC : Nat → ClassId) (dI : Nat → Nat → Nat) (a : Nat → Nat) (k : Nat → ClassId) (dv : Int32) (hi : Int32) (fu : Nat → Int32) (fp : Nat → Int32) (fr : Nat → Int32) (fa : Nat → Int32) (z1 : Int32) (A : Nat → Prop) (o : Int32 × (Nat → Int32)) (hG : F_X9_when dv fu fp fr fa z1 = some o) : Met l yX9_when (.code yX9_when cX9_when 2 (some .int) :: wA) ({ frames := 7, cells := 0, slots := 0, locals := 160 }) (va_Pc [.ref (a 0), .int z1] (q_W (dC, dI) A [((a 0), .inr (9, [.ref (a 1), .ref (a 3), .ref (a 4), .ref (a 7), .ref (a 10), .ref (a 14), .ref (a 16), .ref (a 18), .ref (a 19), .ref (a 21), .ref (a 23), .ref (a 25), .ref (a 27), .ref (a 28), .int hi])), ((a 18), .inr (3, [.ref (a 14), .ref (a 16)])), ((a 14), .inr (0, [.ref (a 15), .ref (a 7)])), ((a 15), .inl ((k 15), 98, .inl fr)), ((a 7), .inr (5, [.ref (a 8), .ref (a 9), .int dv])), ((a 8), .inl ((k 8), 8, .inl fu)), ((a 9), .inl ((k 9), 48, .inl fp)), ((a 16), .inr (0, [.ref (a 17), .ref (a 7)])), ((a 17), .inl ((k 17), 98, .inl fa))] [((k 15), .int), ((k 8), .int), ((k 9), .int), ((k 17), .int)])) (va_Qi (fun (r : Int32) (_ : Unit) => r = o.1 ∧ True) (fun (_ : Unit) t => q_B (dC, dI) A [((a 0), .inr (9, [.ref (a 1), .ref (a 3), .ref (a 4), .ref (a 7), .ref (a 10), .ref (a 14), .ref (a 16), .ref (a 18), .ref (a 19), .ref (a 21), .ref (a 23), .ref (a 25), .ref (a 27), .ref (a 28), .int hi])), ((a 18), .inr (3, [.ref (a 14), .ref (a 16)])), ((a 14), .inr (0, [.ref (a 15), .ref (a 7)])), ((a 15), .inl ((k 15), 98, .inl fr)), ((a 7), .inr (5, [.ref (a 8), .ref (a 9), .int dv])), ((a 8), .inl ((k 8), 8, .inl fu)), ((a 9), .inl ((k 9), 48, .inl fp)), ((a 16), .inr (0, [.ref (a 17), .ref (a 7)])), ((a 17), .inl ((k 17), 98, .inl (o.2)))] [((k 15), .int), ((k 8), .int), ((k 9), .int), ((k 17), .int)] t) A) 0 0 A := by
  refine Met.ofW (cc := cX9_when) (maxL := 2) (ret := (some .int)) (by decide) rfl ?_
  intro p e s m args below meth c s₁ B hml hv
  obtain ⟨rfl, hP, hK, hD, hA⟩ := hv
  have hx := B.exec
  have hb := B.bytes
  have hr := B.returns
  have hts := atoms_spec (ws := .code yX9_when cX9_when 2 (some .int) :: wA) B.pre
  have hown : s.vm.findClass RX9 = some m.cls := findClass_of_methodNamed B.named
  have hlocks := B.notSynchronized
  have hS : va_S A s.heap s.heap [] := va_S.rf
  have hl := lv_entry ([.ref (a 0), .int z1]) (n := 2) (Nat.le_of_ble_eq_true rfl)
  rw [lg_entry_eq]
  generalize (lg_sl ([.ref (a 0), .int z1]) ++ List.replicate (2 - (lg_sl ([.ref (a 0), .int z1])).length) Slot.unset).toArray = ls at hl ⊢
  have hl : lv_has ls 2 [(0, .ref (a 0)), (1, .int z1)] := hl
  unfold F_X9_when at hG
  refine lv_aload_n hx hb dX9_when_0 rfl (lv_at hl 0 rfl) ?_
  refine va_get (D := (dC, dI)) (ci := 9) (v := .ref (a 7)) (C := RX9) (T := TX9) (N := 15) hx hb hts iA_9 hown hK hP 0 rfl rfl 3 (by decide) (hts (.fieldLink RX9 32 "HubTree" "plan" "LHubTree$Plan;") (List.mem_cons_of_mem _ m_26)) (fun _ h9 => h9) rfl dX9_when_1 ?_
  refine lv_iload_n hx hb dX9_when_4 rfl (lv_at hl 1 rfl) ?_
  obtain ⟨o_1, r_2, hG⟩ := q_bi hG
  refine q_goi (v := o_1) (va_runV (As := [.int z1]) (rest := []) ⟨hx, hb, hml, hown, hts⟩ (c_X5_has l dC dI (a 7) (a 8) (a 9) dv z1 o_1 r_2) (cwV 1 hts (q_gV m_464 m_465 m_466 m_24 m_467) rfl rfl rfl hdV_yX5_has_1 ⟨Nat.le_of_ble_eq_true rfl, Nat.le_of_ble_eq_true rfl⟩) (q_preV hK hP (q := (RX5, TX5, 3)) (ci := 5) (q0 := 4) rfl rfl [4] rfl [] rfl) rfl rfl hl.1 rfl (lv_room (Nat.le_of_ble_eq_true rfl)) dX9_when_5 ⟨Nat.le_of_ble_eq_true rfl, Nat.le_of_ble_eq_true rfl⟩) hP hS (fun H locs hP hS => ?_)
  refine lv_if_eq (tgt := 34) hx hb dX9_when_8 (by decide) (fun c_3 => ?_) (fun c_3 => ?_)
  · have hG := q_ifp c_3 hG
    refine lv_iconst (v := (-1)) hx hb dX9_when_34 (by decide) ?_
    obtain rfl := Option.some.inj hG
    have hP9 := hP.sub (ws' := [((a 0), .inr (9, [.ref (a 1), .ref (a 3), .ref (a 4), .ref (a 7), .ref (a 10), .ref (a 14), .ref (a 16), .ref (a 18), .ref (a 19), .ref (a 21), .ref (a 23), .ref (a 25), .ref (a 27), .ref (a 28), .int hi])), ((a 18), .inr (3, [.ref (a 14), .ref (a 16)])), ((a 14), .inr (0, [.ref (a 15), .ref (a 7)])), ((a 15), .inl ((k 15), 98, .inl fr)), ((a 7), .inr (5, [.ref (a 8), .ref (a 9), .int dv])), ((a 8), .inl ((k 8), 8, .inl fu)), ((a 9), .inl ((k 9), 48, .inl fp)), ((a 16), .inr (0, [.ref (a 17), .ref (a 7)])), ((a 17), .inl ((k 17), 98, .inl fa))]) [0, 1, 2, 3, 4, 5, 6, 7, 8] rfl
    have hD9 := hD.sub (ws' := [((a 0), .inr (9, [.ref (a 1), .ref (a 3), .ref (a 4), .ref (a 7), .ref (a 10), .ref (a 14), .ref (a 16), .ref (a 18), .ref (a 19), .ref (a 21), .ref (a 23), .ref (a 25), .ref (a 27), .ref (a 28), .int hi])), ((a 18), .inr (3, [.ref (a 14), .ref (a 16)])), ((a 14), .inr (0, [.ref (a 15), .ref (a 7)])), ((a 15), .inl ((k 15), 98, .inl fr)), ((a 7), .inr (5, [.ref (a 8), .ref (a 9), .int dv])), ((a 8), .inl ((k 8), 8, .inl fu)), ((a 9), .inl ((k 9), 48, .inl fp)), ((a 16), .inr (0, [.ref (a 17), .ref (a 7)])), ((a 17), .inl ((k 17), 98, .inl fa))]) [0, 1, 2, 3, 4, 5, 6, 7, 8] (by decide) rfl
    have hK9 := hK.sub (tys' := [((k 15), .int), ((k 8), .int), ((k 9), .int), ((k 17), .int)]) [0, 1, 2, 3] rfl
    exact W.iret (v := (-1)) hx hb hr (fun t ht hW => ⟨⟨(-1), (), rfl, ⟨rfl, trivial⟩, by rw [ht]; exact hP9, va_K.moved hW.alike hK9, hD9⟩, hS.F ht⟩) hS.2.2 dX9_when_35
  · have hG := q_ifn c_3 hG
    refine lv_aload_n hx hb dX9_when_11 rfl (lv_at hl 0 rfl) ?_
    refine va_get (D := (dC, dI)) (ci := 9) (v := .ref (a 14)) (C := RX9) (T := TX9) (N := 15) hx hb hts iA_9 hown hK hP 0 rfl rfl 5 (by decide) (hts (.fieldLink RX9 47 "HubTree" "now" "LHubTree$Bus;") (List.mem_cons_of_mem _ m_34)) (fun _ h9 => h9) rfl dX9_when_12 ?_
    refine lv_iload_n hx hb dX9_when_15 rfl (lv_at hl 1 rfl) ?_
    refine lv_iconst (v := 0) hx hb dX9_when_16 (by decide) ?_
    obtain ⟨o_4, r_5, hG⟩ := q_bi hG
    refine q_goi (v := o_4) (va_runV (As := [.int z1, .int 0]) (rest := []) ⟨hx, hb, hml, hown, hts⟩ (c_X0_is l dC dI (a 14) (a 15) (a 7) (a 8) (a 9) dv (k 15) fr (k 8) (k 9) fu fp z1 0 o_4 r_5) (cwV 2 hts (q_gV m_582 m_583 m_584 m_33 m_585) rfl rfl rfl hdV_yX0_is_2 ⟨Nat.le_of_ble_eq_true rfl, Nat.le_of_ble_eq_true rfl⟩) (q_preV hK hP (q := (RX0, TX0, 2)) (ci := 0) (q0 := 2) rfl rfl [2, 3, 4, 5, 6] rfl [0, 1, 2] rfl) rfl rfl hl.1 rfl (lv_room (Nat.le_of_ble_eq_true rfl)) dX9_when_17 ⟨Nat.le_of_ble_eq_true rfl, Nat.le_of_ble_eq_true rfl⟩) hP hS (fun H locs hP hS => ?_)
    refine lv_if_ne (tgt := 34) hx hb dX9_when_20 (by decide) (fun c_6 => ?_) (fun c_6 => ?_)
    · have hG := q_ifn c_6 hG
      refine lv_iconst (v := (-1)) hx hb dX9_when_34 (by decide) ?_
      obtain rfl := Option.some.inj hG
      have hP9 := hP.sub (ws' := [((a 0), .inr (9, [.ref (a 1), .ref (a 3), .ref (a 4), .ref (a 7), .ref (a 10), .ref (a 14), .ref (a 16), .ref (a 18), .ref (a 19), .ref (a 21), .ref (a 23), .ref (a 25), .ref (a 27), .ref (a 28), .int hi])), ((a 18), .inr (3, [.ref (a 14), .ref (a 16)])), ((a 14), .inr (0, [.ref (a 15), .ref (a 7)])), ((a 15), .inl ((k 15), 98, .inl fr)), ((a 7), .inr (5, [.ref (a 8), .ref (a 9), .int dv])), ((a 8), .inl ((k 8), 8, .inl fu)), ((a 9), .inl ((k 9), 48, .inl fp)), ((a 16), .inr (0, [.ref (a 17), .ref (a 7)])), ((a 17), .inl ((k 17), 98, .inl fa))]) [0, 1, 2, 3, 4, 5, 6, 7, 8] rfl
      have hD9 := hD.sub (ws' := [((a 0), .inr (9, [.ref (a 1), .ref (a 3), .ref (a 4), .ref (a 7), .ref (a 10), .ref (a 14), .ref (a 16), .ref (a 18), .ref (a 19), .ref (a 21), .ref (a 23), .ref (a 25), .ref (a 27), .ref (a 28), .int hi])), ((a 18), .inr (3, [.ref (a 14), .ref (a 16)])), ((a 14), .inr (0, [.ref (a 15), .ref (a 7)])), ((a 15), .inl ((k 15), 98, .inl fr)), ((a 7), .inr (5, [.ref (a 8), .ref (a 9), .int dv])), ((a 8), .inl ((k 8), 8, .inl fu)), ((a 9), .inl ((k 9), 48, .inl fp)), ((a 16), .inr (0, [.ref (a 17), .ref (a 7)])), ((a 17), .inl ((k 17), 98, .inl fa))]) [0, 1, 2, 3, 4, 5, 6, 7, 8] (by decide) rfl
      have hK9 := hK.sub (tys' := [((k 15), .int), ((k 8), .int), ((k 9), .int), ((k 17), .int)]) [0, 1, 2, 3] rfl
      exact W.iret (v := (-1)) hx hb hr (fun t ht hW => ⟨⟨(-1), (), rfl, ⟨rfl, trivial⟩, by rw [ht]; exact hP9, va_K.moved hW.alike hK9, hD9⟩, hS.F ht⟩) hS.2.2 dX9_when_35
    · have hG := q_ifp c_6 hG
      refine lv_aload_n hx hb dX9_when_23 rfl (lv_at hl 0 rfl) ?_
      refine va_get (D := (dC, dI)) (ci := 9) (v := .ref (a 18)) (C := RX9) (T := TX9) (N := 15) hx hb hts iA_9 hown hK hP 0 rfl rfl 7 (by decide) (hts (.fieldLink RX9 59 "HubTree" "foresight" "LHubTree$Foresight;") (List.mem_cons_of_mem _ m_39)) (fun _ h9 => h9) rfl dX9_when_24 ?_
      refine lv_iload_n hx hb dX9_when_27 rfl (lv_at hl 1 rfl) ?_
      obtain ⟨o_7, r_8, hG⟩ := q_bi hG
      refine q_goi2 (v := o_7.1) (wr := [((a 0), .inr (9, [.ref (a 1), .ref (a 3), .ref (a 4), .ref (a 7), .ref (a 10), .ref (a 14), .ref (a 16), .ref (a 18), .ref (a 19), .ref (a 21), .ref (a 23), .ref (a 25), .ref (a 27), .ref (a 28), .int hi]))]) (va_runV (As := [.int z1]) (rest := []) ⟨hx, hb, hml, hown, hts⟩ (c_X3_ticksTillRunning l dC dI (a 18) (a 16) (a 17) (k 17) fa (a 14) (a 15) (a 7) (a 8) (a 9) dv (k 15) fr (k 8) (k 9) fu fp z1 (va_A [((a 18), .inr (3, [.ref (a 14), .ref (a 16)])), ((a 16), .inr (0, [.ref (a 17), .ref (a 7)])), ((a 17), .inl ((k 17), 98, .inl fa)), ((a 14), .inr (0, [.ref (a 15), .ref (a 7)])), ((a 15), .inl ((k 15), 98, .inl fr)), ((a 7), .inr (5, [.ref (a 8), .ref (a 9), .int dv])), ((a 8), .inl ((k 8), 8, .inl fu)), ((a 9), .inl ((k 9), 48, .inl fp))] H.size) o_7 r_8) (cwV 1 hts (q_gV m_1164 m_1165 m_1166 m_38 m_1167) rfl rfl rfl hdV_yX3_ticksTillRunning_1 ⟨Nat.le_of_ble_eq_true rfl, Nat.le_of_ble_eq_true rfl⟩) (q_preWV hK hP hD (q := (RX3, TX3, 2)) (ci := 3) (q0 := 1) rfl rfl [1, 7, 8, 2, 3, 4, 5, 6] (by decide) rfl rfl [3, 0, 1, 2] rfl) rfl rfl hl.1 rfl (lv_room (Nat.le_of_ble_eq_true rfl)) dX9_when_28 ⟨Nat.le_of_ble_eq_true rfl, Nat.le_of_ble_eq_true rfl⟩) hK hP hD hS hA [1, 7, 8, 2, 3, 4, 5, 6] [0] rfl rfl (by decide) (by decide) (fun _ H locs _ hP hD hK9 hS => ?_)
      have hP : va_P (dC, dI) vwCl [((a 0), .inr (9, [.ref (a 1), .ref (a 3), .ref (a 4), .ref (a 7), .ref (a 10), .ref (a 14), .ref (a 16), .ref (a 18), .ref (a 19), .ref (a 21), .ref (a 23), .ref (a 25), .ref (a 27), .ref (a 28), .int hi])), ((a 18), .inr (3, [.ref (a 14), .ref (a 16)])), ((a 14), .inr (0, [.ref (a 15), .ref (a 7)])), ((a 15), .inl ((k 15), 98, .inl fr)), ((a 7), .inr (5, [.ref (a 8), .ref (a 9), .int dv])), ((a 8), .inl ((k 8), 8, .inl fu)), ((a 9), .inl ((k 9), 48, .inl fp)), ((a 16), .inr (0, [.ref (a 17), .ref (a 7)])), ((a 17), .inl ((k 17), 98, .inl (o_7.2)))] H := hP.sub [0, 1, 4, 5, 6, 7, 8, 2, 3] rfl
      have hD : va_D A [((a 0), .inr (9, [.ref (a 1), .ref (a 3), .ref (a 4), .ref (a 7), .ref (a 10), .ref (a 14), .ref (a 16), .ref (a 18), .ref (a 19), .ref (a 21), .ref (a 23), .ref (a 25), .ref (a 27), .ref (a 28), .int hi])), ((a 18), .inr (3, [.ref (a 14), .ref (a 16)])), ((a 14), .inr (0, [.ref (a 15), .ref (a 7)])), ((a 15), .inl ((k 15), 98, .inl fr)), ((a 7), .inr (5, [.ref (a 8), .ref (a 9), .int dv])), ((a 8), .inl ((k 8), 8, .inl fu)), ((a 9), .inl ((k 9), 48, .inl fp)), ((a 16), .inr (0, [.ref (a 17), .ref (a 7)])), ((a 17), .inl ((k 17), 98, .inl (o_7.2)))] := hD.sub [0, 1, 4, 5, 6, 7, 8, 2, 3] (by decide) rfl
      refine lv_goto (tgt := 35) hx hb dX9_when_31 (by decide) ?_
      obtain rfl := Option.some.inj hG
      have hP9 := hP.sub (ws' := [((a 0), .inr (9, [.ref (a 1), .ref (a 3), .ref (a 4), .ref (a 7), .ref (a 10), .ref (a 14), .ref (a 16), .ref (a 18), .ref (a 19), .ref (a 21), .ref (a 23), .ref (a 25), .ref (a 27), .ref (a 28), .int hi])), ((a 18), .inr (3, [.ref (a 14), .ref (a 16)])), ((a 14), .inr (0, [.ref (a 15), .ref (a 7)])), ((a 15), .inl ((k 15), 98, .inl fr)), ((a 7), .inr (5, [.ref (a 8), .ref (a 9), .int dv])), ((a 8), .inl ((k 8), 8, .inl fu)), ((a 9), .inl ((k 9), 48, .inl fp)), ((a 16), .inr (0, [.ref (a 17), .ref (a 7)])), ((a 17), .inl ((k 17), 98, .inl (o_7.2)))]) [0, 1, 2, 3, 4, 5, 6, 7, 8] rfl
      have hD9 := hD.sub (ws' := [((a 0), .inr (9, [.ref (a 1), .ref (a 3), .ref (a 4), .ref (a 7), .ref (a 10), .ref (a 14), .ref (a 16), .ref (a 18), .ref (a 19), .ref (a 21), .ref (a 23), .ref (a 25), .ref (a 27), .ref (a 28), .int hi])), ((a 18), .inr (3, [.ref (a 14), .ref (a 16)])), ((a 14), .inr (0, [.ref (a 15), .ref (a 7)])), ((a 15), .inl ((k 15), 98, .inl fr)), ((a 7), .inr (5, [.ref (a 8), .ref (a 9), .int dv])), ((a 8), .inl ((k 8), 8, .inl fu)), ((a 9), .inl ((k 9), 48, .inl fp)), ((a 16), .inr (0, [.ref (a 17), .ref (a 7)])), ((a 17), .inl ((k 17), 98, .inl (o_7.2)))]) [0, 1, 2, 3, 4, 5, 6, 7, 8] (by decide) rfl
      have hK9 := hK.sub (tys' := [((k 15), .int), ((k 8), .int), ((k 9), .int), ((k 17), .int)]) [0, 1, 2, 3] rfl
      exact W.iret (v := o_7.1) hx hb hr (fun t ht hW => ⟨⟨o_7.1, (), rfl, ⟨rfl, trivial⟩, by rw [ht]; exact hP9, va_K.moved hW.alike hK9, hD9⟩, hS.F ht⟩) hS.2.2 dX9_when_35

def F_X9_ahead (dv : Int32) (fu : Nat → Int32) (fp : Nat → Int32) (fr : Nat → Int32) (fa : Nat → Int32) (z1 : Int32) (z2 : Int32) : Option (Int32 × (Nat → Int32)) := ((F_X5_isTold dv).bind fun o_1 => (if o_1 = 0 then some ((-1), fa) else (if z1 < 0 then some ((-1), fa) else (if 200 < z1 then some ((-1), fa) else (if z2 = 0 then (if ((fr 96) + z1) ≤ 9999 then (if z2 = 0 then ((F_X3_allBehind fa fr dv fu fp z1 6).bind fun o_15 => some (o_15.1, (o_15.2))) else ((F_X3_allBehind fa fr dv fu fp z1 7).bind fun o_13 => some (o_13.1, (o_13.2)))) else some ((-1), fa)) else (if z2 = 1 then (if ((fr 96) + z1) ≤ 9999 then (if z2 = 0 then ((F_X3_allBehind fa fr dv fu fp z1 6).bind fun o_24 => some (o_24.1, (o_24.2))) else ((F_X3_allBehind fa fr dv fu fp z1 7).bind fun o_22 => some (o_22.1, (o_22.2)))) else some ((-1), fa)) else some ((-1), fa)))))))
set_option maxHeartbeats 4000000 in
set_option maxRecDepth 100000 in
theorem c_X9_ahead (l : Launch) (dC : Nat → ClassId) (dI : Nat → Nat → Nat) (a : Nat → Nat) (k : Nat → ClassId) (dv : Int32) (hi : Int32) (fu : Nat → Int32) (fp : Nat → Int32) (fr : Nat → Int32) (fa : Nat → Int32) (z1 : Int32) (z2 : Int32) (A : Nat → Prop) (o : Int32 × (Nat → Int32)) (hG : F_X9_ahead dv fu fp fr fa z1 z2 = some o) : Met l yX9_ahead (.code yX9_ahead cX9_ahead 4 (some .int) :: wA) ({ frames := 6, cells := 0, slots := 0, locals := 139 }) (va_Pc [.ref (a 0), .int z1, .int z2] (q_W (dC, dI) A [((a 0), .inr (9, [.ref (a 1), .ref (a 3), .ref (a 4), .ref (a 7), .ref (a 10), .ref (a 14), .ref (a 16), .ref (a 18), .ref (a 19), .ref (a 21), .ref (a 23), .ref (a 25), .ref (a 27), .ref (a 28), .int hi])), ((a 18), .inr (3, [.ref (a 14), .ref (a 16)])), ((a 14), .inr (0, [.ref (a 15), .ref (a 7)])), ((a 15), .inl ((k 15), 98, .inl fr)), ((a 7), .inr (5, [.ref (a 8), .ref (a 9), .int dv])), ((a 8), .inl ((k 8), 8, .inl fu)), ((a 9), .inl ((k 9), 48, .inl fp)), ((a 16), .inr (0, [.ref (a 17), .ref (a 7)])), ((a 17), .inl ((k 17), 98, .inl fa))] [((k 15), .int), ((k 8), .int), ((k 9), .int), ((k 17), .int)])) (va_Qi (fun (r : Int32) (_ : Unit) => r = o.1 ∧ True) (fun (_ : Unit) t => q_B (dC, dI) A [((a 0), .inr (9, [.ref (a 1), .ref (a 3), .ref (a 4), .ref (a 7), .ref (a 10), .ref (a 14), .ref (a 16), .ref (a 18), .ref (a 19), .ref (a 21), .ref (a 23), .ref (a 25), .ref (a 27), .ref (a 28), .int hi])), ((a 18), .inr (3, [.ref (a 14), .ref (a 16)])), ((a 14), .inr (0, [.ref (a 15), .ref (a 7)])), ((a 15), .inl ((k 15), 98, .inl fr)), ((a 7), .inr (5, [.ref (a 8), .ref (a 9), .int dv])), ((a 8), .inl ((k 8), 8, .inl fu)), ((a 9), .inl ((k 9), 48, .inl fp)), ((a 16), .inr (0, [.ref (a 17), .ref (a 7)])), ((a 17), .inl ((k 17), 98, .inl (o.2)))] [((k 15), .int), ((k 8), .int), ((k 9), .int), ((k 17), .int)] t) A) 0 0 A := by
  refine Met.ofW (cc := cX9_ahead) (maxL := 4) (ret := (some .int)) (by decide) rfl ?_
  intro p e s m args below meth c s₁ B hml hv
  obtain ⟨rfl, hP, hK, hD, hA⟩ := hv
  have hx := B.exec
  have hb := B.bytes
  have hr := B.returns
  have hts := atoms_spec (ws := .code yX9_ahead cX9_ahead 4 (some .int) :: wA) B.pre
  have hown : s.vm.findClass RX9 = some m.cls := findClass_of_methodNamed B.named
  have hlocks := B.notSynchronized
  have hS : va_S A s.heap s.heap [] := va_S.rf
  have hl := lv_entry ([.ref (a 0), .int z1, .int z2]) (n := 4) (Nat.le_of_ble_eq_true rfl)
  rw [lg_entry_eq]
  generalize (lg_sl ([.ref (a 0), .int z1, .int z2]) ++ List.replicate (4 - (lg_sl ([.ref (a 0), .int z1, .int z2])).length) Slot.unset).toArray = ls at hl ⊢
  have hl : lv_has ls 4 [(0, .ref (a 0)), (1, .int z1), (2, .int z2)] := hl
  unfold F_X9_ahead at hG
  refine lv_aload_n hx hb dX9_ahead_0 rfl (lv_at hl 0 rfl) ?_
  refine va_get (D := (dC, dI)) (ci := 9) (v := .ref (a 7)) (C := RX9) (T := TX9) (N := 15) hx hb hts iA_9 hown hK hP 0 rfl rfl 3 (by decide) (hts (.fieldLink RX9 32 "HubTree" "plan" "LHubTree$Plan;") (List.mem_cons_of_mem _ m_26)) (fun _ h9 => h9) rfl dX9_ahead_1 ?_
  obtain ⟨o_1, r_2, hG⟩ := q_bi hG
  refine q_goi (v := o_1) (va_runV (As := []) (rest := []) ⟨hx, hb, hml, hown, hts⟩ (c_X5_isTold l dC dI (a 7) (a 8) (a 9) dv o_1 r_2) (cwV 0 hts (q_gV m_449 m_300 m_301 m_24 m_302) rfl rfl rfl hdV_yX5_isTold_0 ⟨Nat.le_of_ble_eq_true rfl, Nat.le_of_ble_eq_true rfl⟩) (q_preV hK hP (q := (RX5, TX5, 3)) (ci := 5) (q0 := 4) rfl rfl [4] rfl [] rfl) rfl rfl hl.1 rfl (lv_room (Nat.le_of_ble_eq_true rfl)) dX9_ahead_4 ⟨Nat.le_of_ble_eq_true rfl, Nat.le_of_ble_eq_true rfl⟩) hP hS (fun H locs hP hS => ?_)
  refine lv_if_eq (tgt := 34) hx hb dX9_ahead_7 (by decide) (fun c_3 => ?_) (fun c_3 => ?_)
  · have hG := q_ifp c_3 hG
    refine lv_iconst (v := 0) hx hb dX9_ahead_34 (by decide) ?_
    refine lv_istore_n (lv' := [(3, .int 0), (0, .ref (a 0)), (1, .int z1), (2, .int z2)]) hx hb dX9_ahead_35 rfl hl (by decide) rfl (fun ls hl => ?_)
    refine lv_iload_n hx hb dX9_ahead_36 rfl (lv_at hl 0 rfl) ?_
    refine lv_if_eq (tgt := 58) hx hb dX9_ahead_37 (by decide) (fun c_4 => ?_) (fun c_4 => ?_)
    rotate_left
    · exact absurd (by decide) c_4
    refine lv_iconst (v := (-1)) hx hb dX9_ahead_58 (by decide) ?_
    obtain rfl := Option.some.inj hG
    have hP9 := hP.sub (ws' := [((a 0), .inr (9, [.ref (a 1), .ref (a 3), .ref (a 4), .ref (a 7), .ref (a 10), .ref (a 14), .ref (a 16), .ref (a 18), .ref (a 19), .ref (a 21), .ref (a 23), .ref (a 25), .ref (a 27), .ref (a 28), .int hi])), ((a 18), .inr (3, [.ref (a 14), .ref (a 16)])), ((a 14), .inr (0, [.ref (a 15), .ref (a 7)])), ((a 15), .inl ((k 15), 98, .inl fr)), ((a 7), .inr (5, [.ref (a 8), .ref (a 9), .int dv])), ((a 8), .inl ((k 8), 8, .inl fu)), ((a 9), .inl ((k 9), 48, .inl fp)), ((a 16), .inr (0, [.ref (a 17), .ref (a 7)])), ((a 17), .inl ((k 17), 98, .inl fa))]) [0, 1, 2, 3, 4, 5, 6, 7, 8] rfl
    have hD9 := hD.sub (ws' := [((a 0), .inr (9, [.ref (a 1), .ref (a 3), .ref (a 4), .ref (a 7), .ref (a 10), .ref (a 14), .ref (a 16), .ref (a 18), .ref (a 19), .ref (a 21), .ref (a 23), .ref (a 25), .ref (a 27), .ref (a 28), .int hi])), ((a 18), .inr (3, [.ref (a 14), .ref (a 16)])), ((a 14), .inr (0, [.ref (a 15), .ref (a 7)])), ((a 15), .inl ((k 15), 98, .inl fr)), ((a 7), .inr (5, [.ref (a 8), .ref (a 9), .int dv])), ((a 8), .inl ((k 8), 8, .inl fu)), ((a 9), .inl ((k 9), 48, .inl fp)), ((a 16), .inr (0, [.ref (a 17), .ref (a 7)])), ((a 17), .inl ((k 17), 98, .inl fa))]) [0, 1, 2, 3, 4, 5, 6, 7, 8] (by decide) rfl
    have hK9 := hK.sub (tys' := [((k 15), .int), ((k 8), .int), ((k 9), .int), ((k 17), .int)]) [0, 1, 2, 3] rfl
    exact W.iret (v := (-1)) hx hb hr (fun t ht hW => ⟨⟨(-1), (), rfl, ⟨rfl, trivial⟩, by rw [ht]; exact hP9, va_K.moved hW.alike hK9, hD9⟩, hS.F ht⟩) hS.2.2 dX9_ahead_59
  · have hG := q_ifn c_3 hG
    refine lv_iload_n hx hb dX9_ahead_10 rfl (lv_at hl 1 rfl) ?_
    refine lv_if_lt (tgt := 34) hx hb dX9_ahead_11 (by decide) (fun c_5 => ?_) (fun c_5 => ?_)
    · have hG := q_ifp c_5 hG
      refine lv_iconst (v := 0) hx hb dX9_ahead_34 (by decide) ?_
      refine lv_istore_n (lv' := [(3, .int 0), (0, .ref (a 0)), (1, .int z1), (2, .int z2)]) hx hb dX9_ahead_35 rfl hl (by decide) rfl (fun ls hl => ?_)
      refine lv_iload_n hx hb dX9_ahead_36 rfl (lv_at hl 0 rfl) ?_
      refine lv_if_eq (tgt := 58) hx hb dX9_ahead_37 (by decide) (fun c_6 => ?_) (fun c_6 => ?_)
      rotate_left
      · exact absurd (by decide) c_6
      refine lv_iconst (v := (-1)) hx hb dX9_ahead_58 (by decide) ?_
      obtain rfl := Option.some.inj hG
      have hP9 := hP.sub (ws' := [((a 0), .inr (9, [.ref (a 1), .ref (a 3), .ref (a 4), .ref (a 7), .ref (a 10), .ref (a 14), .ref (a 16), .ref (a 18), .ref (a 19), .ref (a 21), .ref (a 23), .ref (a 25), .ref (a 27), .ref (a 28), .int hi])), ((a 18), .inr (3, [.ref (a 14), .ref (a 16)])), ((a 14), .inr (0, [.ref (a 15), .ref (a 7)])), ((a 15), .inl ((k 15), 98, .inl fr)), ((a 7), .inr (5, [.ref (a 8), .ref (a 9), .int dv])), ((a 8), .inl ((k 8), 8, .inl fu)), ((a 9), .inl ((k 9), 48, .inl fp)), ((a 16), .inr (0, [.ref (a 17), .ref (a 7)])), ((a 17), .inl ((k 17), 98, .inl fa))]) [0, 1, 2, 3, 4, 5, 6, 7, 8] rfl
      have hD9 := hD.sub (ws' := [((a 0), .inr (9, [.ref (a 1), .ref (a 3), .ref (a 4), .ref (a 7), .ref (a 10), .ref (a 14), .ref (a 16), .ref (a 18), .ref (a 19), .ref (a 21), .ref (a 23), .ref (a 25), .ref (a 27), .ref (a 28), .int hi])), ((a 18), .inr (3, [.ref (a 14), .ref (a 16)])), ((a 14), .inr (0, [.ref (a 15), .ref (a 7)])), ((a 15), .inl ((k 15), 98, .inl fr)), ((a 7), .inr (5, [.ref (a 8), .ref (a 9), .int dv])), ((a 8), .inl ((k 8), 8, .inl fu)), ((a 9), .inl ((k 9), 48, .inl fp)), ((a 16), .inr (0, [.ref (a 17), .ref (a 7)])), ((a 17), .inl ((k 17), 98, .inl fa))]) [0, 1, 2, 3, 4, 5, 6, 7, 8] (by decide) rfl
      have hK9 := hK.sub (tys' := [((k 15), .int), ((k 8), .int), ((k 9), .int), ((k 17), .int)]) [0, 1, 2, 3] rfl
      exact W.iret (v := (-1)) hx hb hr (fun t ht hW => ⟨⟨(-1), (), rfl, ⟨rfl, trivial⟩, by rw [ht]; exact hP9, va_K.moved hW.alike hK9, hD9⟩, hS.F ht⟩) hS.2.2 dX9_ahead_59
    · have hG := q_ifn c_5 hG
      refine lv_iload_n hx hb dX9_ahead_14 rfl (lv_at hl 1 rfl) ?_
      refine lv_sipush (v := 200) hx hb dX9_ahead_15 (by decide) ?_
      refine lv_icmp_gt (tgt := 34) hx hb dX9_ahead_18 (by decide) (fun c_7 => ?_) (fun c_7 => ?_)
      · have hG := q_ifp c_7 hG
        refine lv_iconst (v := 0) hx hb dX9_ahead_34 (by decide) ?_
        refine lv_istore_n (lv' := [(3, .int 0), (0, .ref (a 0)), (1, .int z1), (2, .int z2)]) hx hb dX9_ahead_35 rfl hl (by decide) rfl (fun ls hl => ?_)
        refine lv_iload_n hx hb dX9_ahead_36 rfl (lv_at hl 0 rfl) ?_
        refine lv_if_eq (tgt := 58) hx hb dX9_ahead_37 (by decide) (fun c_8 => ?_) (fun c_8 => ?_)
        rotate_left
        · exact absurd (by decide) c_8
        refine lv_iconst (v := (-1)) hx hb dX9_ahead_58 (by decide) ?_
        obtain rfl := Option.some.inj hG
        have hP9 := hP.sub (ws' := [((a 0), .inr (9, [.ref (a 1), .ref (a 3), .ref (a 4), .ref (a 7), .ref (a 10), .ref (a 14), .ref (a 16), .ref (a 18), .ref (a 19), .ref (a 21), .ref (a 23), .ref (a 25), .ref (a 27), .ref (a 28), .int hi])), ((a 18), .inr (3, [.ref (a 14), .ref (a 16)])), ((a 14), .inr (0, [.ref (a 15), .ref (a 7)])), ((a 15), .inl ((k 15), 98, .inl fr)), ((a 7), .inr (5, [.ref (a 8), .ref (a 9), .int dv])), ((a 8), .inl ((k 8), 8, .inl fu)), ((a 9), .inl ((k 9), 48, .inl fp)), ((a 16), .inr (0, [.ref (a 17), .ref (a 7)])), ((a 17), .inl ((k 17), 98, .inl fa))]) [0, 1, 2, 3, 4, 5, 6, 7, 8] rfl
        have hD9 := hD.sub (ws' := [((a 0), .inr (9, [.ref (a 1), .ref (a 3), .ref (a 4), .ref (a 7), .ref (a 10), .ref (a 14), .ref (a 16), .ref (a 18), .ref (a 19), .ref (a 21), .ref (a 23), .ref (a 25), .ref (a 27), .ref (a 28), .int hi])), ((a 18), .inr (3, [.ref (a 14), .ref (a 16)])), ((a 14), .inr (0, [.ref (a 15), .ref (a 7)])), ((a 15), .inl ((k 15), 98, .inl fr)), ((a 7), .inr (5, [.ref (a 8), .ref (a 9), .int dv])), ((a 8), .inl ((k 8), 8, .inl fu)), ((a 9), .inl ((k 9), 48, .inl fp)), ((a 16), .inr (0, [.ref (a 17), .ref (a 7)])), ((a 17), .inl ((k 17), 98, .inl fa))]) [0, 1, 2, 3, 4, 5, 6, 7, 8] (by decide) rfl
        have hK9 := hK.sub (tys' := [((k 15), .int), ((k 8), .int), ((k 9), .int), ((k 17), .int)]) [0, 1, 2, 3] rfl
        exact W.iret (v := (-1)) hx hb hr (fun t ht hW => ⟨⟨(-1), (), rfl, ⟨rfl, trivial⟩, by rw [ht]; exact hP9, va_K.moved hW.alike hK9, hD9⟩, hS.F ht⟩) hS.2.2 dX9_ahead_59
      · have hG := q_ifn c_7 hG
        refine lv_iload_n hx hb dX9_ahead_21 rfl (lv_at hl 2 rfl) ?_
        refine lv_if_eq (tgt := 30) hx hb dX9_ahead_22 (by decide) (fun c_9 => ?_) (fun c_9 => ?_)
        · have hG := q_ifp c_9 hG
          refine lv_iconst (v := 1) hx hb dX9_ahead_30 (by decide) ?_
          refine lv_goto (tgt := 35) hx hb dX9_ahead_31 (by decide) ?_
          refine lv_istore_n (lv' := [(3, .int 1), (0, .ref (a 0)), (1, .int z1), (2, .int z2)]) hx hb dX9_ahead_35 rfl hl (by decide) rfl (fun ls hl => ?_)
          refine lv_iload_n hx hb dX9_ahead_36 rfl (lv_at hl 0 rfl) ?_
          refine lv_if_eq (tgt := 58) hx hb dX9_ahead_37 (by decide) (fun c_10 => ?_) (fun c_10 => ?_)
          · exact absurd c_10 (by decide)
          refine lv_aload_n hx hb dX9_ahead_40 rfl (lv_at hl 1 rfl) ?_
          refine va_get (D := (dC, dI)) (ci := 9) (v := .ref (a 14)) (C := RX9) (T := TX9) (N := 15) hx hb hts iA_9 hown hK hP 0 rfl rfl 5 (by decide) (hts (.fieldLink RX9 47 "HubTree" "now" "LHubTree$Bus;") (List.mem_cons_of_mem _ m_34)) (fun _ h9 => h9) rfl dX9_ahead_41 ?_
          refine va_get (D := (dC, dI)) (ci := 0) (v := .ref (a 15)) (C := RX0) (T := TX0) (N := 2) hx hb hts iA_0 hown hK hP 2 rfl rfl 0 (by decide) (hts (.fieldLink RX9 157 "HubTree$Bus" "row" "[I") (List.mem_cons_of_mem _ m_462)) (fun _ h9 => h9) rfl dX9_ahead_44 ?_
          refine lv_bipush (v := 96) hx hb dX9_ahead_47 (by decide) ?_
          refine va_iald hx hb hK hP 3 0 rfl rfl (i := 96) (vp_in_iff.mpr (by decide)) dX9_ahead_49 ?_
          refine q_top (y := (fr 96)) rfl ?_
          refine lv_iload_n hx hb dX9_ahead_50 rfl (lv_at hl 2 rfl) ?_
          refine lv_iadd hx hb dX9_ahead_51 ?_
          refine lv_sipush (v := 9999) hx hb dX9_ahead_52 (by decide) ?_
          refine lv_icmp_le (tgt := 60) hx hb dX9_ahead_55 (by decide) (fun c_11 => ?_) (fun c_11 => ?_)
          · have hG := q_ifp c_11 hG
            refine lv_aload_n hx hb dX9_ahead_60 rfl (lv_at hl 1 rfl) ?_
            refine va_get (D := (dC, dI)) (ci := 9) (v := .ref (a 18)) (C := RX9) (T := TX9) (N := 15) hx hb hts iA_9 hown hK hP 0 rfl rfl 7 (by decide) (hts (.fieldLink RX9 59 "HubTree" "foresight" "LHubTree$Foresight;") (List.mem_cons_of_mem _ m_39)) (fun _ h9 => h9) rfl dX9_ahead_61 ?_
            refine lv_iload_n hx hb dX9_ahead_64 rfl (lv_at hl 2 rfl) ?_
            refine lv_iload_n hx hb dX9_ahead_65 rfl (lv_at hl 3 rfl) ?_
            refine lv_if_ne (tgt := 74) hx hb dX9_ahead_66 (by decide) (fun c_12 => ?_) (fun c_12 => ?_)
            · have hG := q_ifn c_12 hG
              refine lv_bipush (v := 7) hx hb dX9_ahead_74 (by decide) ?_
              obtain ⟨o_13, r_14, hG⟩ := q_bi hG
              refine q_goi2 (v := o_13.1) (wr := [((a 0), .inr (9, [.ref (a 1), .ref (a 3), .ref (a 4), .ref (a 7), .ref (a 10), .ref (a 14), .ref (a 16), .ref (a 18), .ref (a 19), .ref (a 21), .ref (a 23), .ref (a 25), .ref (a 27), .ref (a 28), .int hi]))]) (va_runV (As := [.int z1, .int 7]) (rest := []) ⟨hx, hb, hml, hown, hts⟩ (c_X3_allBehind l dC dI (a 18) (a 16) (a 17) (k 17) fa (a 14) (a 15) (a 7) (a 8) (a 9) dv (k 15) fr (k 8) (k 9) fu fp z1 7 (va_A [((a 18), .inr (3, [.ref (a 14), .ref (a 16)])), ((a 16), .inr (0, [.ref (a 17), .ref (a 7)])), ((a 17), .inl ((k 17), 98, .inl fa)), ((a 14), .inr (0, [.ref (a 15), .ref (a 7)])), ((a 15), .inl ((k 15), 98, .inl fr)), ((a 7), .inr (5, [.ref (a 8), .ref (a 9), .int dv])), ((a 8), .inl ((k 8), 8, .inl fu)), ((a 9), .inl ((k 9), 48, .inl fp))] H.size) o_13 r_14) (cwV 2 hts (q_gV m_1207 m_1208 m_1209 m_38 m_1210) rfl rfl rfl hdV_yX3_allBehind_2 ⟨Nat.le_of_ble_eq_true rfl, Nat.le_of_ble_eq_true rfl⟩) (q_preWV hK hP hD (q := (RX3, TX3, 2)) (ci := 3) (q0 := 1) rfl rfl [1, 7, 8, 2, 3, 4, 5, 6] (by decide) rfl rfl [3, 0, 1, 2] rfl) rfl rfl hl.1 rfl (lv_room (Nat.le_of_ble_eq_true rfl)) dX9_ahead_76 ⟨Nat.le_of_ble_eq_true rfl, Nat.le_of_ble_eq_true rfl⟩) hK hP hD hS hA [1, 7, 8, 2, 3, 4, 5, 6] [0] rfl rfl (by decide) (by decide) (fun _ H locs _ hP hD hK9 hS => ?_)
              have hP : va_P (dC, dI) vwCl [((a 0), .inr (9, [.ref (a 1), .ref (a 3), .ref (a 4), .ref (a 7), .ref (a 10), .ref (a 14), .ref (a 16), .ref (a 18), .ref (a 19), .ref (a 21), .ref (a 23), .ref (a 25), .ref (a 27), .ref (a 28), .int hi])), ((a 18), .inr (3, [.ref (a 14), .ref (a 16)])), ((a 14), .inr (0, [.ref (a 15), .ref (a 7)])), ((a 15), .inl ((k 15), 98, .inl fr)), ((a 7), .inr (5, [.ref (a 8), .ref (a 9), .int dv])), ((a 8), .inl ((k 8), 8, .inl fu)), ((a 9), .inl ((k 9), 48, .inl fp)), ((a 16), .inr (0, [.ref (a 17), .ref (a 7)])), ((a 17), .inl ((k 17), 98, .inl (o_13.2)))] H := hP.sub [0, 1, 4, 5, 6, 7, 8, 2, 3] rfl
              have hD : va_D A [((a 0), .inr (9, [.ref (a 1), .ref (a 3), .ref (a 4), .ref (a 7), .ref (a 10), .ref (a 14), .ref (a 16), .ref (a 18), .ref (a 19), .ref (a 21), .ref (a 23), .ref (a 25), .ref (a 27), .ref (a 28), .int hi])), ((a 18), .inr (3, [.ref (a 14), .ref (a 16)])), ((a 14), .inr (0, [.ref (a 15), .ref (a 7)])), ((a 15), .inl ((k 15), 98, .inl fr)), ((a 7), .inr (5, [.ref (a 8), .ref (a 9), .int dv])), ((a 8), .inl ((k 8), 8, .inl fu)), ((a 9), .inl ((k 9), 48, .inl fp)), ((a 16), .inr (0, [.ref (a 17), .ref (a 7)])), ((a 17), .inl ((k 17), 98, .inl (o_13.2)))] := hD.sub [0, 1, 4, 5, 6, 7, 8, 2, 3] (by decide) rfl
              obtain rfl := Option.some.inj hG
              have hP9 := hP.sub (ws' := [((a 0), .inr (9, [.ref (a 1), .ref (a 3), .ref (a 4), .ref (a 7), .ref (a 10), .ref (a 14), .ref (a 16), .ref (a 18), .ref (a 19), .ref (a 21), .ref (a 23), .ref (a 25), .ref (a 27), .ref (a 28), .int hi])), ((a 18), .inr (3, [.ref (a 14), .ref (a 16)])), ((a 14), .inr (0, [.ref (a 15), .ref (a 7)])), ((a 15), .inl ((k 15), 98, .inl fr)), ((a 7), .inr (5, [.ref (a 8), .ref (a 9), .int dv])), ((a 8), .inl ((k 8), 8, .inl fu)), ((a 9), .inl ((k 9), 48, .inl fp)), ((a 16), .inr (0, [.ref (a 17), .ref (a 7)])), ((a 17), .inl ((k 17), 98, .inl (o_13.2)))]) [0, 1, 2, 3, 4, 5, 6, 7, 8] rfl
              have hD9 := hD.sub (ws' := [((a 0), .inr (9, [.ref (a 1), .ref (a 3), .ref (a 4), .ref (a 7), .ref (a 10), .ref (a 14), .ref (a 16), .ref (a 18), .ref (a 19), .ref (a 21), .ref (a 23), .ref (a 25), .ref (a 27), .ref (a 28), .int hi])), ((a 18), .inr (3, [.ref (a 14), .ref (a 16)])), ((a 14), .inr (0, [.ref (a 15), .ref (a 7)])), ((a 15), .inl ((k 15), 98, .inl fr)), ((a 7), .inr (5, [.ref (a 8), .ref (a 9), .int dv])), ((a 8), .inl ((k 8), 8, .inl fu)), ((a 9), .inl ((k 9), 48, .inl fp)), ((a 16), .inr (0, [.ref (a 17), .ref (a 7)])), ((a 17), .inl ((k 17), 98, .inl (o_13.2)))]) [0, 1, 2, 3, 4, 5, 6, 7, 8] (by decide) rfl
              have hK9 := hK.sub (tys' := [((k 15), .int), ((k 8), .int), ((k 9), .int), ((k 17), .int)]) [0, 1, 2, 3] rfl
              exact W.iret (v := o_13.1) hx hb hr (fun t ht hW => ⟨⟨o_13.1, (), rfl, ⟨rfl, trivial⟩, by rw [ht]; exact hP9, va_K.moved hW.alike hK9, hD9⟩, hS.F ht⟩) hS.2.2 dX9_ahead_79
            · have hG := q_ifp c_12 hG
              refine lv_bipush (v := 6) hx hb dX9_ahead_69 (by decide) ?_
              refine lv_goto (tgt := 76) hx hb dX9_ahead_71 (by decide) ?_
              obtain ⟨o_15, r_16, hG⟩ := q_bi hG
              refine q_goi2 (v := o_15.1) (wr := [((a 0), .inr (9, [.ref (a 1), .ref (a 3), .ref (a 4), .ref (a 7), .ref (a 10), .ref (a 14), .ref (a 16), .ref (a 18), .ref (a 19), .ref (a 21), .ref (a 23), .ref (a 25), .ref (a 27), .ref (a 28), .int hi]))]) (va_runV (As := [.int z1, .int 6]) (rest := []) ⟨hx, hb, hml, hown, hts⟩ (c_X3_allBehind l dC dI (a 18) (a 16) (a 17) (k 17) fa (a 14) (a 15) (a 7) (a 8) (a 9) dv (k 15) fr (k 8) (k 9) fu fp z1 6 (va_A [((a 18), .inr (3, [.ref (a 14), .ref (a 16)])), ((a 16), .inr (0, [.ref (a 17), .ref (a 7)])), ((a 17), .inl ((k 17), 98, .inl fa)), ((a 14), .inr (0, [.ref (a 15), .ref (a 7)])), ((a 15), .inl ((k 15), 98, .inl fr)), ((a 7), .inr (5, [.ref (a 8), .ref (a 9), .int dv])), ((a 8), .inl ((k 8), 8, .inl fu)), ((a 9), .inl ((k 9), 48, .inl fp))] H.size) o_15 r_16) (cwV 2 hts (q_gV m_1207 m_1208 m_1209 m_38 m_1210) rfl rfl rfl hdV_yX3_allBehind_2 ⟨Nat.le_of_ble_eq_true rfl, Nat.le_of_ble_eq_true rfl⟩) (q_preWV hK hP hD (q := (RX3, TX3, 2)) (ci := 3) (q0 := 1) rfl rfl [1, 7, 8, 2, 3, 4, 5, 6] (by decide) rfl rfl [3, 0, 1, 2] rfl) rfl rfl hl.1 rfl (lv_room (Nat.le_of_ble_eq_true rfl)) dX9_ahead_76 ⟨Nat.le_of_ble_eq_true rfl, Nat.le_of_ble_eq_true rfl⟩) hK hP hD hS hA [1, 7, 8, 2, 3, 4, 5, 6] [0] rfl rfl (by decide) (by decide) (fun _ H locs _ hP hD hK9 hS => ?_)
              have hP : va_P (dC, dI) vwCl [((a 0), .inr (9, [.ref (a 1), .ref (a 3), .ref (a 4), .ref (a 7), .ref (a 10), .ref (a 14), .ref (a 16), .ref (a 18), .ref (a 19), .ref (a 21), .ref (a 23), .ref (a 25), .ref (a 27), .ref (a 28), .int hi])), ((a 18), .inr (3, [.ref (a 14), .ref (a 16)])), ((a 14), .inr (0, [.ref (a 15), .ref (a 7)])), ((a 15), .inl ((k 15), 98, .inl fr)), ((a 7), .inr (5, [.ref (a 8), .ref (a 9), .int dv])), ((a 8), .inl ((k 8), 8, .inl fu)), ((a 9), .inl ((k 9), 48, .inl fp)), ((a 16), .inr (0, [.ref (a 17), .ref (a 7)])), ((a 17), .inl ((k 17), 98, .inl (o_15.2)))] H := hP.sub [0, 1, 4, 5, 6, 7, 8, 2, 3] rfl
              have hD : va_D A [((a 0), .inr (9, [.ref (a 1), .ref (a 3), .ref (a 4), .ref (a 7), .ref (a 10), .ref (a 14), .ref (a 16), .ref (a 18), .ref (a 19), .ref (a 21), .ref (a 23), .ref (a 25), .ref (a 27), .ref (a 28), .int hi])), ((a 18), .inr (3, [.ref (a 14), .ref (a 16)])), ((a 14), .inr (0, [.ref (a 15), .ref (a 7)])), ((a 15), .inl ((k 15), 98, .inl fr)), ((a 7), .inr (5, [.ref (a 8), .ref (a 9), .int dv])), ((a 8), .inl ((k 8), 8, .inl fu)), ((a 9), .inl ((k 9), 48, .inl fp)), ((a 16), .inr (0, [.ref (a 17), .ref (a 7)])), ((a 17), .inl ((k 17), 98, .inl (o_15.2)))] := hD.sub [0, 1, 4, 5, 6, 7, 8, 2, 3] (by decide) rfl
              obtain rfl := Option.some.inj hG
              have hP9 := hP.sub (ws' := [((a 0), .inr (9, [.ref (a 1), .ref (a 3), .ref (a 4), .ref (a 7), .ref (a 10), .ref (a 14), .ref (a 16), .ref (a 18), .ref (a 19), .ref (a 21), .ref (a 23), .ref (a 25), .ref (a 27), .ref (a 28), .int hi])), ((a 18), .inr (3, [.ref (a 14), .ref (a 16)])), ((a 14), .inr (0, [.ref (a 15), .ref (a 7)])), ((a 15), .inl ((k 15), 98, .inl fr)), ((a 7), .inr (5, [.ref (a 8), .ref (a 9), .int dv])), ((a 8), .inl ((k 8), 8, .inl fu)), ((a 9), .inl ((k 9), 48, .inl fp)), ((a 16), .inr (0, [.ref (a 17), .ref (a 7)])), ((a 17), .inl ((k 17), 98, .inl (o_15.2)))]) [0, 1, 2, 3, 4, 5, 6, 7, 8] rfl
              have hD9 := hD.sub (ws' := [((a 0), .inr (9, [.ref (a 1), .ref (a 3), .ref (a 4), .ref (a 7), .ref (a 10), .ref (a 14), .ref (a 16), .ref (a 18), .ref (a 19), .ref (a 21), .ref (a 23), .ref (a 25), .ref (a 27), .ref (a 28), .int hi])), ((a 18), .inr (3, [.ref (a 14), .ref (a 16)])), ((a 14), .inr (0, [.ref (a 15), .ref (a 7)])), ((a 15), .inl ((k 15), 98, .inl fr)), ((a 7), .inr (5, [.ref (a 8), .ref (a 9), .int dv])), ((a 8), .inl ((k 8), 8, .inl fu)), ((a 9), .inl ((k 9), 48, .inl fp)), ((a 16), .inr (0, [.ref (a 17), .ref (a 7)])), ((a 17), .inl ((k 17), 98, .inl (o_15.2)))]) [0, 1, 2, 3, 4, 5, 6, 7, 8] (by decide) rfl
              have hK9 := hK.sub (tys' := [((k 15), .int), ((k 8), .int), ((k 9), .int), ((k 17), .int)]) [0, 1, 2, 3] rfl
              exact W.iret (v := o_15.1) hx hb hr (fun t ht hW => ⟨⟨o_15.1, (), rfl, ⟨rfl, trivial⟩, by rw [ht]; exact hP9, va_K.moved hW.alike hK9, hD9⟩, hS.F ht⟩) hS.2.2 dX9_ahead_79
          · have hG := q_ifn c_11 hG
            refine lv_iconst (v := (-1)) hx hb dX9_ahead_58 (by decide) ?_
            obtain rfl := Option.some.inj hG
            have hP9 := hP.sub (ws' := [((a 0), .inr (9, [.ref (a 1), .ref (a 3), .ref (a 4), .ref (a 7), .ref (a 10), .ref (a 14), .ref (a 16), .ref (a 18), .ref (a 19), .ref (a 21), .ref (a 23), .ref (a 25), .ref (a 27), .ref (a 28), .int hi])), ((a 18), .inr (3, [.ref (a 14), .ref (a 16)])), ((a 14), .inr (0, [.ref (a 15), .ref (a 7)])), ((a 15), .inl ((k 15), 98, .inl fr)), ((a 7), .inr (5, [.ref (a 8), .ref (a 9), .int dv])), ((a 8), .inl ((k 8), 8, .inl fu)), ((a 9), .inl ((k 9), 48, .inl fp)), ((a 16), .inr (0, [.ref (a 17), .ref (a 7)])), ((a 17), .inl ((k 17), 98, .inl fa))]) [0, 1, 2, 3, 4, 5, 6, 7, 8] rfl
            have hD9 := hD.sub (ws' := [((a 0), .inr (9, [.ref (a 1), .ref (a 3), .ref (a 4), .ref (a 7), .ref (a 10), .ref (a 14), .ref (a 16), .ref (a 18), .ref (a 19), .ref (a 21), .ref (a 23), .ref (a 25), .ref (a 27), .ref (a 28), .int hi])), ((a 18), .inr (3, [.ref (a 14), .ref (a 16)])), ((a 14), .inr (0, [.ref (a 15), .ref (a 7)])), ((a 15), .inl ((k 15), 98, .inl fr)), ((a 7), .inr (5, [.ref (a 8), .ref (a 9), .int dv])), ((a 8), .inl ((k 8), 8, .inl fu)), ((a 9), .inl ((k 9), 48, .inl fp)), ((a 16), .inr (0, [.ref (a 17), .ref (a 7)])), ((a 17), .inl ((k 17), 98, .inl fa))]) [0, 1, 2, 3, 4, 5, 6, 7, 8] (by decide) rfl
            have hK9 := hK.sub (tys' := [((k 15), .int), ((k 8), .int), ((k 9), .int), ((k 17), .int)]) [0, 1, 2, 3] rfl
            exact W.iret (v := (-1)) hx hb hr (fun t ht hW => ⟨⟨(-1), (), rfl, ⟨rfl, trivial⟩, by rw [ht]; exact hP9, va_K.moved hW.alike hK9, hD9⟩, hS.F ht⟩) hS.2.2 dX9_ahead_59
        · have hG := q_ifn c_9 hG
          refine lv_iload_n hx hb dX9_ahead_25 rfl (lv_at hl 2 rfl) ?_
          refine lv_iconst (v := 1) hx hb dX9_ahead_26 (by decide) ?_
          refine lv_icmp_ne (tgt := 34) hx hb dX9_ahead_27 (by decide) (fun c_17 => ?_) (fun c_17 => ?_)
          · have hG := q_ifn c_17 hG
            refine lv_iconst (v := 0) hx hb dX9_ahead_34 (by decide) ?_
            refine lv_istore_n (lv' := [(3, .int 0), (0, .ref (a 0)), (1, .int z1), (2, .int z2)]) hx hb dX9_ahead_35 rfl hl (by decide) rfl (fun ls hl => ?_)
            refine lv_iload_n hx hb dX9_ahead_36 rfl (lv_at hl 0 rfl) ?_
            refine lv_if_eq (tgt := 58) hx hb dX9_ahead_37 (by decide) (fun c_18 => ?_) (fun c_18 => ?_)
            rotate_left
            · exact absurd (by decide) c_18
            refine lv_iconst (v := (-1)) hx hb dX9_ahead_58 (by decide) ?_
            obtain rfl := Option.some.inj hG
            have hP9 := hP.sub (ws' := [((a 0), .inr (9, [.ref (a 1), .ref (a 3), .ref (a 4), .ref (a 7), .ref (a 10), .ref (a 14), .ref (a 16), .ref (a 18), .ref (a 19), .ref (a 21), .ref (a 23), .ref (a 25), .ref (a 27), .ref (a 28), .int hi])), ((a 18), .inr (3, [.ref (a 14), .ref (a 16)])), ((a 14), .inr (0, [.ref (a 15), .ref (a 7)])), ((a 15), .inl ((k 15), 98, .inl fr)), ((a 7), .inr (5, [.ref (a 8), .ref (a 9), .int dv])), ((a 8), .inl ((k 8), 8, .inl fu)), ((a 9), .inl ((k 9), 48, .inl fp)), ((a 16), .inr (0, [.ref (a 17), .ref (a 7)])), ((a 17), .inl ((k 17), 98, .inl fa))]) [0, 1, 2, 3, 4, 5, 6, 7, 8] rfl
            have hD9 := hD.sub (ws' := [((a 0), .inr (9, [.ref (a 1), .ref (a 3), .ref (a 4), .ref (a 7), .ref (a 10), .ref (a 14), .ref (a 16), .ref (a 18), .ref (a 19), .ref (a 21), .ref (a 23), .ref (a 25), .ref (a 27), .ref (a 28), .int hi])), ((a 18), .inr (3, [.ref (a 14), .ref (a 16)])), ((a 14), .inr (0, [.ref (a 15), .ref (a 7)])), ((a 15), .inl ((k 15), 98, .inl fr)), ((a 7), .inr (5, [.ref (a 8), .ref (a 9), .int dv])), ((a 8), .inl ((k 8), 8, .inl fu)), ((a 9), .inl ((k 9), 48, .inl fp)), ((a 16), .inr (0, [.ref (a 17), .ref (a 7)])), ((a 17), .inl ((k 17), 98, .inl fa))]) [0, 1, 2, 3, 4, 5, 6, 7, 8] (by decide) rfl
            have hK9 := hK.sub (tys' := [((k 15), .int), ((k 8), .int), ((k 9), .int), ((k 17), .int)]) [0, 1, 2, 3] rfl
            exact W.iret (v := (-1)) hx hb hr (fun t ht hW => ⟨⟨(-1), (), rfl, ⟨rfl, trivial⟩, by rw [ht]; exact hP9, va_K.moved hW.alike hK9, hD9⟩, hS.F ht⟩) hS.2.2 dX9_ahead_59
          · have hG := q_ifp c_17 hG
            refine lv_iconst (v := 1) hx hb dX9_ahead_30 (by decide) ?_
            refine lv_goto (tgt := 35) hx hb dX9_ahead_31 (by decide) ?_
            refine lv_istore_n (lv' := [(3, .int 1), (0, .ref (a 0)), (1, .int z1), (2, .int z2)]) hx hb dX9_ahead_35 rfl hl (by decide) rfl (fun ls hl => ?_)
            refine lv_iload_n hx hb dX9_ahead_36 rfl (lv_at hl 0 rfl) ?_
            refine lv_if_eq (tgt := 58) hx hb dX9_ahead_37 (by decide) (fun c_19 => ?_) (fun c_19 => ?_)
            · exact absurd c_19 (by decide)
            refine lv_aload_n hx hb dX9_ahead_40 rfl (lv_at hl 1 rfl) ?_
            refine va_get (D := (dC, dI)) (ci := 9) (v := .ref (a 14)) (C := RX9) (T := TX9) (N := 15) hx hb hts iA_9 hown hK hP 0 rfl rfl 5 (by decide) (hts (.fieldLink RX9 47 "HubTree" "now" "LHubTree$Bus;") (List.mem_cons_of_mem _ m_34)) (fun _ h9 => h9) rfl dX9_ahead_41 ?_
            refine va_get (D := (dC, dI)) (ci := 0) (v := .ref (a 15)) (C := RX0) (T := TX0) (N := 2) hx hb hts iA_0 hown hK hP 2 rfl rfl 0 (by decide) (hts (.fieldLink RX9 157 "HubTree$Bus" "row" "[I") (List.mem_cons_of_mem _ m_462)) (fun _ h9 => h9) rfl dX9_ahead_44 ?_
            refine lv_bipush (v := 96) hx hb dX9_ahead_47 (by decide) ?_
            refine va_iald hx hb hK hP 3 0 rfl rfl (i := 96) (vp_in_iff.mpr (by decide)) dX9_ahead_49 ?_
            refine q_top (y := (fr 96)) rfl ?_
            refine lv_iload_n hx hb dX9_ahead_50 rfl (lv_at hl 2 rfl) ?_
            refine lv_iadd hx hb dX9_ahead_51 ?_
            refine lv_sipush (v := 9999) hx hb dX9_ahead_52 (by decide) ?_
            refine lv_icmp_le (tgt := 60) hx hb dX9_ahead_55 (by decide) (fun c_20 => ?_) (fun c_20 => ?_)
            · have hG := q_ifp c_20 hG
              refine lv_aload_n hx hb dX9_ahead_60 rfl (lv_at hl 1 rfl) ?_
              refine va_get (D := (dC, dI)) (ci := 9) (v := .ref (a 18)) (C := RX9) (T := TX9) (N := 15) hx hb hts iA_9 hown hK hP 0 rfl rfl 7 (by decide) (hts (.fieldLink RX9 59 "HubTree" "foresight" "LHubTree$Foresight;") (List.mem_cons_of_mem _ m_39)) (fun _ h9 => h9) rfl dX9_ahead_61 ?_
              refine lv_iload_n hx hb dX9_ahead_64 rfl (lv_at hl 2 rfl) ?_
              refine lv_iload_n hx hb dX9_ahead_65 rfl (lv_at hl 3 rfl) ?_
              refine lv_if_ne (tgt := 74) hx hb dX9_ahead_66 (by decide) (fun c_21 => ?_) (fun c_21 => ?_)
              · have hG := q_ifn c_21 hG
                refine lv_bipush (v := 7) hx hb dX9_ahead_74 (by decide) ?_
                obtain ⟨o_22, r_23, hG⟩ := q_bi hG
                refine q_goi2 (v := o_22.1) (wr := [((a 0), .inr (9, [.ref (a 1), .ref (a 3), .ref (a 4), .ref (a 7), .ref (a 10), .ref (a 14), .ref (a 16), .ref (a 18), .ref (a 19), .ref (a 21), .ref (a 23), .ref (a 25), .ref (a 27), .ref (a 28), .int hi]))]) (va_runV (As := [.int z1, .int 7]) (rest := []) ⟨hx, hb, hml, hown, hts⟩ (c_X3_allBehind l dC dI (a 18) (a 16) (a 17) (k 17) fa (a 14) (a 15) (a 7) (a 8) (a 9) dv (k 15) fr (k 8) (k 9) fu fp z1 7 (va_A [((a 18), .inr (3, [.ref (a 14), .ref (a 16)])), ((a 16), .inr (0, [.ref (a 17), .ref (a 7)])), ((a 17), .inl ((k 17), 98, .inl fa)), ((a 14), .inr (0, [.ref (a 15), .ref (a 7)])), ((a 15), .inl ((k 15), 98, .inl fr)), ((a 7), .inr (5, [.ref (a 8), .ref (a 9), .int dv])), ((a 8), .inl ((k 8), 8, .inl fu)), ((a 9), .inl ((k 9), 48, .inl fp))] H.size) o_22 r_23) (cwV 2 hts (q_gV m_1207 m_1208 m_1209 m_38 m_1210) rfl rfl rfl hdV_yX3_allBehind_2 ⟨Nat.le_of_ble_eq_true rfl, Nat.le_of_ble_eq_true rfl⟩) (q_preWV hK hP hD (q := (RX3, TX3, 2)) (ci := 3) (q0 := 1) rfl rfl [1, 7, 8, 2, 3, 4, 5, 6] (by decide) rfl rfl [3, 0, 1, 2] rfl) rfl rfl hl.1 rfl (lv_room (Nat.le_of_ble_eq_true rfl)) dX9_ahead_76 ⟨Nat.le_of_ble_eq_true rfl, Nat.le_of_ble_eq_true rfl⟩) hK hP hD hS hA [1, 7, 8, 2, 3, 4, 5, 6] [0] rfl rfl (by decide) (by decide) (fun _ H locs _ hP hD hK9 hS => ?_)
                have hP : va_P (dC, dI) vwCl [((a 0), .inr (9, [.ref (a 1), .ref (a 3), .ref (a 4), .ref (a 7), .ref (a 10), .ref (a 14), .ref (a 16), .ref (a 18), .ref (a 19), .ref (a 21), .ref (a 23), .ref (a 25), .ref (a 27), .ref (a 28), .int hi])), ((a 18), .inr (3, [.ref (a 14), .ref (a 16)])), ((a 14), .inr (0, [.ref (a 15), .ref (a 7)])), ((a 15), .inl ((k 15), 98, .inl fr)), ((a 7), .inr (5, [.ref (a 8), .ref (a 9), .int dv])), ((a 8), .inl ((k 8), 8, .inl fu)), ((a 9), .inl ((k 9), 48, .inl fp)), ((a 16), .inr (0, [.ref (a 17), .ref (a 7)])), ((a 17), .inl ((k 17), 98, .inl (o_22.2)))] H := hP.sub [0, 1, 4, 5, 6, 7, 8, 2, 3] rfl
                have hD : va_D A [((a 0), .inr (9, [.ref (a 1), .ref (a 3), .ref (a 4), .ref (a 7), .ref (a 10), .ref (a 14), .ref (a 16), .ref (a 18), .ref (a 19), .ref (a 21), .ref (a 23), .ref (a 25), .ref (a 27), .ref (a 28), .int hi])), ((a 18), .inr (3, [.ref (a 14), .ref (a 16)])), ((a 14), .inr (0, [.ref (a 15), .ref (a 7)])), ((a 15), .inl ((k 15), 98, .inl fr)), ((a 7), .inr (5, [.ref (a 8), .ref (a 9), .int dv])), ((a 8), .inl ((k 8), 8, .inl fu)), ((a 9), .inl ((k 9), 48, .inl fp)), ((a 16), .inr (0, [.ref (a 17), .ref (a 7)])), ((a 17), .inl ((k 17), 98, .inl (o_22.2)))] := hD.sub [0, 1, 4, 5, 6, 7, 8, 2, 3] (by decide) rfl
                obtain rfl := Option.some.inj hG
                have hP9 := hP.sub (ws' := [((a 0), .inr (9, [.ref (a 1), .ref (a 3), .ref (a 4), .ref (a 7), .ref (a 10), .ref (a 14), .ref (a 16), .ref (a 18), .ref (a 19), .ref (a 21), .ref (a 23), .ref (a 25), .ref (a 27), .ref (a 28), .int hi])), ((a 18), .inr (3, [.ref (a 14), .ref (a 16)])), ((a 14), .inr (0, [.ref (a 15), .ref (a 7)])), ((a 15), .inl ((k 15), 98, .inl fr)), ((a 7), .inr (5, [.ref (a 8), .ref (a 9), .int dv])), ((a 8), .inl ((k 8), 8, .inl fu)), ((a 9), .inl ((k 9), 48, .inl fp)), ((a 16), .inr (0, [.ref (a 17), .ref (a 7)])), ((a 17), .inl ((k 17), 98, .inl (o_22.2)))]) [0, 1, 2, 3, 4, 5, 6, 7, 8] rfl
                have hD9 := hD.sub (ws' := [((a 0), .inr (9, [.ref (a 1), .ref (a 3), .ref (a 4), .ref (a 7), .ref (a 10), .ref (a 14), .ref (a 16), .ref (a 18), .ref (a 19), .ref (a 21), .ref (a 23), .ref (a 25), .ref (a 27), .ref (a 28), .int hi])), ((a 18), .inr (3, [.ref (a 14), .ref (a 16)])), ((a 14), .inr (0, [.ref (a 15), .ref (a 7)])), ((a 15), .inl ((k 15), 98, .inl fr)), ((a 7), .inr (5, [.ref (a 8), .ref (a 9), .int dv])), ((a 8), .inl ((k 8), 8, .inl fu)), ((a 9), .inl ((k 9), 48, .inl fp)), ((a 16), .inr (0, [.ref (a 17), .ref (a 7)])), ((a 17), .inl ((k 17), 98, .inl (o_22.2)))]) [0, 1, 2, 3, 4, 5, 6, 7, 8] (by decide) rfl
                have hK9 := hK.sub (tys' := [((k 15), .int), ((k 8), .int), ((k 9), .int), ((k 17), .int)]) [0, 1, 2, 3] rfl
                exact W.iret (v := o_22.1) hx hb hr (fun t ht hW => ⟨⟨o_22.1, (), rfl, ⟨rfl, trivial⟩, by rw [ht]; exact hP9, va_K.moved hW.alike hK9, hD9⟩, hS.F ht⟩) hS.2.2 dX9_ahead_79
              · have hG := q_ifp c_21 hG
                refine lv_bipush (v := 6) hx hb dX9_ahead_69 (by decide) ?_
                refine lv_goto (tgt := 76) hx hb dX9_ahead_71 (by decide) ?_
                obtain ⟨o_24, r_25, hG⟩ := q_bi hG
                refine q_goi2 (v := o_24.1) (wr := [((a 0), .inr (9, [.ref (a 1), .ref (a 3), .ref (a 4), .ref (a 7), .ref (a 10), .ref (a 14), .ref (a 16), .ref (a 18), .ref (a 19), .ref (a 21), .ref (a 23), .ref (a 25), .ref (a 27), .ref (a 28), .int hi]))]) (va_runV (As := [.int z1, .int 6]) (rest := []) ⟨hx, hb, hml, hown, hts⟩ (c_X3_allBehind l dC dI (a 18) (a 16) (a 17) (k 17) fa (a 14) (a 15) (a 7) (a 8) (a 9) dv (k 15) fr (k 8) (k 9) fu fp z1 6 (va_A [((a 18), .inr (3, [.ref (a 14), .ref (a 16)])), ((a 16), .inr (0, [.ref (a 17), .ref (a 7)])), ((a 17), .inl ((k 17), 98, .inl fa)), ((a 14), .inr (0, [.ref (a 15), .ref (a 7)])), ((a 15), .inl ((k 15), 98, .inl fr)), ((a 7), .inr (5, [.ref (a 8), .ref (a 9), .int dv])), ((a 8), .inl ((k 8), 8, .inl fu)), ((a 9), .inl ((k 9), 48, .inl fp))] H.size) o_24 r_25) (cwV 2 hts (q_gV m_1207 m_1208 m_1209 m_38 m_1210) rfl rfl rfl hdV_yX3_allBehind_2 ⟨Nat.le_of_ble_eq_true rfl, Nat.le_of_ble_eq_true rfl⟩) (q_preWV hK hP hD (q := (RX3, TX3, 2)) (ci := 3) (q0 := 1) rfl rfl [1, 7, 8, 2, 3, 4, 5, 6] (by decide) rfl rfl [3, 0, 1, 2] rfl) rfl rfl hl.1 rfl (lv_room (Nat.le_of_ble_eq_true rfl)) dX9_ahead_76 ⟨Nat.le_of_ble_eq_true rfl, Nat.le_of_ble_eq_true rfl⟩) hK hP hD hS hA [1, 7, 8, 2, 3, 4, 5, 6] [0] rfl rfl (by decide) (by decide) (fun _ H locs _ hP hD hK9 hS => ?_)
                have hP : va_P (dC, dI) vwCl [((a 0), .inr (9, [.ref (a 1), .ref (a 3), .ref (a 4), .ref (a 7), .ref (a 10), .ref (a 14), .ref (a 16), .ref (a 18), .ref (a 19), .ref (a 21), .ref (a 23), .ref (a 25), .ref (a 27), .ref (a 28), .int hi])), ((a 18), .inr (3, [.ref (a 14), .ref (a 16)])), ((a 14), .inr (0, [.ref (a 15), .ref (a 7)])), ((a 15), .inl ((k 15), 98, .inl fr)), ((a 7), .inr (5, [.ref (a 8), .ref (a 9), .int dv])), ((a 8), .inl ((k 8), 8, .inl fu)), ((a 9), .inl ((k 9), 48, .inl fp)), ((a 16), .inr (0, [.ref (a 17), .ref (a 7)])), ((a 17), .inl ((k 17), 98, .inl (o_24.2)))] H := hP.sub [0, 1, 4, 5, 6, 7, 8, 2, 3] rfl
                have hD : va_D A [((a 0), .inr (9, [.ref (a 1), .ref (a 3), .ref (a 4), .ref (a 7), .ref (a 10), .ref (a 14), .ref (a 16), .ref (a 18), .ref (a 19), .ref (a 21), .ref (a 23), .ref (a 25), .ref (a 27), .ref (a 28), .int hi])), ((a 18), .inr (3, [.ref (a 14), .ref (a 16)])), ((a 14), .inr (0, [.ref (a 15), .ref (a 7)])), ((a 15), .inl ((k 15), 98, .inl fr)), ((a 7), .inr (5, [.ref (a 8), .ref (a 9), .int dv])), ((a 8), .inl ((k 8), 8, .inl fu)), ((a 9), .inl ((k 9), 48, .inl fp)), ((a 16), .inr (0, [.ref (a 17), .ref (a 7)])), ((a 17), .inl ((k 17), 98, .inl (o_24.2)))] := hD.sub [0, 1, 4, 5, 6, 7, 8, 2, 3] (by decide) rfl
                obtain rfl := Option.some.inj hG
                have hP9 := hP.sub (ws' := [((a 0), .inr (9, [.ref (a 1), .ref (a 3), .ref (a 4), .ref (a 7), .ref (a 10), .ref (a 14), .ref (a 16), .ref (a 18), .ref (a 19), .ref (a 21), .ref (a 23), .ref (a 25), .ref (a 27), .ref (a 28), .int hi])), ((a 18), .inr (3, [.ref (a 14), .ref (a 16)])), ((a 14), .inr (0, [.ref (a 15), .ref (a 7)])), ((a 15), .inl ((k 15), 98, .inl fr)), ((a 7), .inr (5, [.ref (a 8), .ref (a 9), .int dv])), ((a 8), .inl ((k 8), 8, .inl fu)), ((a 9), .inl ((k 9), 48, .inl fp)), ((a 16), .inr (0, [.ref (a 17), .ref (a 7)])), ((a 17), .inl ((k 17), 98, .inl (o_24.2)))]) [0, 1, 2, 3, 4, 5, 6, 7, 8] rfl
                have hD9 := hD.sub (ws' := [((a 0), .inr (9, [.ref (a 1), .ref (a 3), .ref (a 4), .ref (a 7), .ref (a 10), .ref (a 14), .ref (a 16), .ref (a 18), .ref (a 19), .ref (a 21), .ref (a 23), .ref (a 25), .ref (a 27), .ref (a 28), .int hi])), ((a 18), .inr (3, [.ref (a 14), .ref (a 16)])), ((a 14), .inr (0, [.ref (a 15), .ref (a 7)])), ((a 15), .inl ((k 15), 98, .inl fr)), ((a 7), .inr (5, [.ref (a 8), .ref (a 9), .int dv])), ((a 8), .inl ((k 8), 8, .inl fu)), ((a 9), .inl ((k 9), 48, .inl fp)), ((a 16), .inr (0, [.ref (a 17), .ref (a 7)])), ((a 17), .inl ((k 17), 98, .inl (o_24.2)))]) [0, 1, 2, 3, 4, 5, 6, 7, 8] (by decide) rfl
                have hK9 := hK.sub (tys' := [((k 15), .int), ((k 8), .int), ((k 9), .int), ((k 17), .int)]) [0, 1, 2, 3] rfl
                exact W.iret (v := o_24.1) hx hb hr (fun t ht hW => ⟨⟨o_24.1, (), rfl, ⟨rfl, trivial⟩, by rw [ht]; exact hP9, va_K.moved hW.alike hK9, hD9⟩, hS.F ht⟩) hS.2.2 dX9_ahead_79
            · have hG := q_ifn c_20 hG
              refine lv_iconst (v := (-1)) hx hb dX9_ahead_58 (by decide) ?_
              obtain rfl := Option.some.inj hG
              have hP9 := hP.sub (ws' := [((a 0), .inr (9, [.ref (a 1), .ref (a 3), .ref (a 4), .ref (a 7), .ref (a 10), .ref (a 14), .ref (a 16), .ref (a 18), .ref (a 19), .ref (a 21), .ref (a 23), .ref (a 25), .ref (a 27), .ref (a 28), .int hi])), ((a 18), .inr (3, [.ref (a 14), .ref (a 16)])), ((a 14), .inr (0, [.ref (a 15), .ref (a 7)])), ((a 15), .inl ((k 15), 98, .inl fr)), ((a 7), .inr (5, [.ref (a 8), .ref (a 9), .int dv])), ((a 8), .inl ((k 8), 8, .inl fu)), ((a 9), .inl ((k 9), 48, .inl fp)), ((a 16), .inr (0, [.ref (a 17), .ref (a 7)])), ((a 17), .inl ((k 17), 98, .inl fa))]) [0, 1, 2, 3, 4, 5, 6, 7, 8] rfl
              have hD9 := hD.sub (ws' := [((a 0), .inr (9, [.ref (a 1), .ref (a 3), .ref (a 4), .ref (a 7), .ref (a 10), .ref (a 14), .ref (a 16), .ref (a 18), .ref (a 19), .ref (a 21), .ref (a 23), .ref (a 25), .ref (a 27), .ref (a 28), .int hi])), ((a 18), .inr (3, [.ref (a 14), .ref (a 16)])), ((a 14), .inr (0, [.ref (a 15), .ref (a 7)])), ((a 15), .inl ((k 15), 98, .inl fr)), ((a 7), .inr (5, [.ref (a 8), .ref (a 9), .int dv])), ((a 8), .inl ((k 8), 8, .inl fu)), ((a 9), .inl ((k 9), 48, .inl fp)), ((a 16), .inr (0, [.ref (a 17), .ref (a 7)])), ((a 17), .inl ((k 17), 98, .inl fa))]) [0, 1, 2, 3, 4, 5, 6, 7, 8] (by decide) rfl
              have hK9 := hK.sub (tys' := [((k 15), .int), ((k 8), .int), ((k 9), .int), ((k 17), .int)]) [0, 1, 2, 3] rfl
              exact W.iret (v := (-1)) hx hb hr (fun t ht hW => ⟨⟨(-1), (), rfl, ⟨rfl, trivial⟩, by rw [ht]; exact hP9, va_K.moved hW.alike hK9, hD9⟩, hS.F ht⟩) hS.2.2 dX9_ahead_59

def F_X9_last (dv : Int32) (fu : Nat → Int32) (fp : Nat → Int32) (fr : Nat → Int32) (fa : Nat → Int32) : Option (Int32 × (Nat → Int32)) := ((F_X5_isTold dv).bind fun o_1 => (if o_1 = 0 then some ((-1), fa) else ((F_X3_ticksTillStill fa fr dv fu fp).bind fun o_4 => some (o_4.1, (o_4.2)))))
set_option maxHeartbeats 4000000 in
set_option maxRecDepth 100000 in
theorem c_X9_last (l : Launch) (dC : Nat → ClassId) (dI : Nat → Nat → Nat) (a : Nat → Nat) (k : Nat → ClassId) (dv : Int32) (hi : Int32) (fu : Nat → Int32) (fp : Nat → Int32) (fr : Nat → Int32) (fa : Nat → Int32) (A : Nat → Prop) (o : Int32 × (Nat → Int32)) (hG : F_X9_last dv fu fp fr fa = some o) : Met l yX9_last (.code yX9_last cX9_last 1 (some .int) :: wA) ({ frames := 6, cells := 0, slots := 0, locals := 137 }) (va_Pc [.ref (a 0)] (q_W (dC, dI) A [((a 0), .inr (9, [.ref (a 1), .ref (a 3), .ref (a 4), .ref (a 7), .ref (a 10), .ref (a 14), .ref (a 16), .ref (a 18), .ref (a 19), .ref (a 21), .ref (a 23), .ref (a 25), .ref (a 27), .ref (a 28), .int hi])), ((a 18), .inr (3, [.ref (a 14), .ref (a 16)])), ((a 14), .inr (0, [.ref (a 15), .ref (a 7)])), ((a 15), .inl ((k 15), 98, .inl fr)), ((a 7), .inr (5, [.ref (a 8), .ref (a 9), .int dv])), ((a 8), .inl ((k 8), 8, .inl fu)), ((a 9), .inl ((k 9), 48, .inl fp)), ((a 16), .inr (0, [.ref (a 17), .ref (a 7)])), ((a 17), .inl ((k 17), 98, .inl fa))] [((k 15), .int), ((k 8), .int), ((k 9), .int), ((k 17), .int)])) (va_Qi (fun (r : Int32) (_ : Unit) => r = o.1 ∧ True) (fun (_ : Unit) t => q_B (dC, dI) A [((a 0), .inr (9, [.ref (a 1), .ref (a 3), .ref (a 4), .ref (a 7), .ref (a 10), .ref (a 14), .ref (a 16), .ref (a 18), .ref (a 19), .ref (a 21), .ref (a 23), .ref (a 25), .ref (a 27), .ref (a 28), .int hi])), ((a 18), .inr (3, [.ref (a 14), .ref (a 16)])), ((a 14), .inr (0, [.ref (a 15), .ref (a 7)])), ((a 15), .inl ((k 15), 98, .inl fr)), ((a 7), .inr (5, [.ref (a 8), .ref (a 9), .int dv])), ((a 8), .inl ((k 8), 8, .inl fu)), ((a 9), .inl ((k 9), 48, .inl fp)), ((a 16), .inr (0, [.ref (a 17), .ref (a 7)])), ((a 17), .inl ((k 17), 98, .inl (o.2)))] [((k 15), .int), ((k 8), .int), ((k 9), .int), ((k 17), .int)] t) A) 0 0 A := by
  refine Met.ofW (cc := cX9_last) (maxL := 1) (ret := (some .int)) (by decide) rfl ?_
  intro p e s m args below meth c s₁ B hml hv
  obtain ⟨rfl, hP, hK, hD, hA⟩ := hv
  have hx := B.exec
  have hb := B.bytes
  have hr := B.returns
  have hts := atoms_spec (ws := .code yX9_last cX9_last 1 (some .int) :: wA) B.pre
  have hown : s.vm.findClass RX9 = some m.cls := findClass_of_methodNamed B.named
  have hlocks := B.notSynchronized
  have hS : va_S A s.heap s.heap [] := va_S.rf
  have hl := lv_entry ([.ref (a 0)]) (n := 1) (Nat.le_of_ble_eq_true rfl)
  rw [lg_entry_eq]
  generalize (lg_sl ([.ref (a 0)]) ++ List.replicate (1 - (lg_sl ([.ref (a 0)])).length) Slot.unset).toArray = ls at hl ⊢
  have hl : lv_has ls 1 [(0, .ref (a 0))] := hl
  unfold F_X9_last at hG
  refine lv_aload_n hx hb dX9_last_0 rfl (lv_at hl 0 rfl) ?_
  refine va_get (D := (dC, dI)) (ci := 9) (v := .ref (a 7)) (C := RX9) (T := TX9) (N := 15) hx hb hts iA_9 hown hK hP 0 rfl rfl 3 (by decide) (hts (.fieldLink RX9 32 "HubTree" "plan" "LHubTree$Plan;") (List.mem_cons_of_mem _ m_26)) (fun _ h9 => h9) rfl dX9_last_1 ?_
  obtain ⟨o_1, r_2, hG⟩ := q_bi hG
  refine q_goi (v := o_1) (va_runV (As := []) (rest := []) ⟨hx, hb, hml, hown, hts⟩ (c_X5_isTold l dC dI (a 7) (a 8) (a 9) dv o_1 r_2) (cwV 0 hts (q_gV m_449 m_300 m_301 m_24 m_302) rfl rfl rfl hdV_yX5_isTold_0 ⟨Nat.le_of_ble_eq_true rfl, Nat.le_of_ble_eq_true rfl⟩) (q_preV hK hP (q := (RX5, TX5, 3)) (ci := 5) (q0 := 4) rfl rfl [4] rfl [] rfl) rfl rfl hl.1 rfl (lv_room (Nat.le_of_ble_eq_true rfl)) dX9_last_4 ⟨Nat.le_of_ble_eq_true rfl, Nat.le_of_ble_eq_true rfl⟩) hP hS (fun H locs hP hS => ?_)
  refine lv_if_eq (tgt := 20) hx hb dX9_last_7 (by decide) (fun c_3 => ?_) (fun c_3 => ?_)
  · have hG := q_ifp c_3 hG
    refine lv_iconst (v := (-1)) hx hb dX9_last_20 (by decide) ?_
    obtain rfl := Option.some.inj hG
    have hP9 := hP.sub (ws' := [((a 0), .inr (9, [.ref (a 1), .ref (a 3), .ref (a 4), .ref (a 7), .ref (a 10), .ref (a 14), .ref (a 16), .ref (a 18), .ref (a 19), .ref (a 21), .ref (a 23), .ref (a 25), .ref (a 27), .ref (a 28), .int hi])), ((a 18), .inr (3, [.ref (a 14), .ref (a 16)])), ((a 14), .inr (0, [.ref (a 15), .ref (a 7)])), ((a 15), .inl ((k 15), 98, .inl fr)), ((a 7), .inr (5, [.ref (a 8), .ref (a 9), .int dv])), ((a 8), .inl ((k 8), 8, .inl fu)), ((a 9), .inl ((k 9), 48, .inl fp)), ((a 16), .inr (0, [.ref (a 17), .ref (a 7)])), ((a 17), .inl ((k 17), 98, .inl fa))]) [0, 1, 2, 3, 4, 5, 6, 7, 8] rfl
    have hD9 := hD.sub (ws' := [((a 0), .inr (9, [.ref (a 1), .ref (a 3), .ref (a 4), .ref (a 7), .ref (a 10), .ref (a 14), .ref (a 16), .ref (a 18), .ref (a 19), .ref (a 21), .ref (a 23), .ref (a 25), .ref (a 27), .ref (a 28), .int hi])), ((a 18), .inr (3, [.ref (a 14), .ref (a 16)])), ((a 14), .inr (0, [.ref (a 15), .ref (a 7)])), ((a 15), .inl ((k 15), 98, .inl fr)), ((a 7), .inr (5, [.ref (a 8), .ref (a 9), .int dv])), ((a 8), .inl ((k 8), 8, .inl fu)), ((a 9), .inl ((k 9), 48, .inl fp)), ((a 16), .inr (0, [.ref (a 17), .ref (a 7)])), ((a 17), .inl ((k 17), 98, .inl fa))]) [0, 1, 2, 3, 4, 5, 6, 7, 8] (by decide) rfl
    have hK9 := hK.sub (tys' := [((k 15), .int), ((k 8), .int), ((k 9), .int), ((k 17), .int)]) [0, 1, 2, 3] rfl
    exact W.iret (v := (-1)) hx hb hr (fun t ht hW => ⟨⟨(-1), (), rfl, ⟨rfl, trivial⟩, by rw [ht]; exact hP9, va_K.moved hW.alike hK9, hD9⟩, hS.F ht⟩) hS.2.2 dX9_last_21
  · have hG := q_ifn c_3 hG
    refine lv_aload_n hx hb dX9_last_10 rfl (lv_at hl 0 rfl) ?_
    refine va_get (D := (dC, dI)) (ci := 9) (v := .ref (a 18)) (C := RX9) (T := TX9) (N := 15) hx hb hts iA_9 hown hK hP 0 rfl rfl 7 (by decide) (hts (.fieldLink RX9 59 "HubTree" "foresight" "LHubTree$Foresight;") (List.mem_cons_of_mem _ m_39)) (fun _ h9 => h9) rfl dX9_last_11 ?_
    obtain ⟨o_4, r_5, hG⟩ := q_bi hG
    refine q_goi2 (v := o_4.1) (wr := [((a 0), .inr (9, [.ref (a 1), .ref (a 3), .ref (a 4), .ref (a 7), .ref (a 10), .ref (a 14), .ref (a 16), .ref (a 18), .ref (a 19), .ref (a 21), .ref (a 23), .ref (a 25), .ref (a 27), .ref (a 28), .int hi]))]) (va_runV (As := []) (rest := []) ⟨hx, hb, hml, hown, hts⟩ (c_X3_ticksTillStill l dC dI (a 18) (a 16) (a 17) (k 17) fa (a 14) (a 15) (a 7) (a 8) (a 9) dv (k 15) fr (k 8) (k 9) fu fp (va_A [((a 18), .inr (3, [.ref (a 14), .ref (a 16)])), ((a 16), .inr (0, [.ref (a 17), .ref (a 7)])), ((a 17), .inl ((k 17), 98, .inl fa)), ((a 14), .inr (0, [.ref (a 15), .ref (a 7)])), ((a 15), .inl ((k 15), 98, .inl fr)), ((a 7), .inr (5, [.ref (a 8), .ref (a 9), .int dv])), ((a 8), .inl ((k 8), 8, .inl fu)), ((a 9), .inl ((k 9), 48, .inl fp))] H.size) o_4 r_5) (cwV 0 hts (q_gV m_1220 m_1221 m_1222 m_38 m_1223) rfl rfl rfl hdV_yX3_ticksTillStill_0 ⟨Nat.le_of_ble_eq_true rfl, Nat.le_of_ble_eq_true rfl⟩) (q_preWV hK hP hD (q := (RX3, TX3, 2)) (ci := 3) (q0 := 1) rfl rfl [1, 7, 8, 2, 3, 4, 5, 6] (by decide) rfl rfl [3, 0, 1, 2] rfl) rfl rfl hl.1 rfl (lv_room (Nat.le_of_ble_eq_true rfl)) dX9_last_14 ⟨Nat.le_of_ble_eq_true rfl, Nat.le_of_ble_eq_true rfl⟩) hK hP hD hS hA [1, 7, 8, 2, 3, 4, 5, 6] [0] rfl rfl (by decide) (by decide) (fun _ H locs _ hP hD hK9 hS => ?_)
    have hP : va_P (dC, dI) vwCl [((a 0), .inr (9, [.ref (a 1), .ref (a 3), .ref (a 4), .ref (a 7), .ref (a 10), .ref (a 14), .ref (a 16), .ref (a 18), .ref (a 19), .ref (a 21), .ref (a 23), .ref (a 25), .ref (a 27), .ref (a 28), .int hi])), ((a 18), .inr (3, [.ref (a 14), .ref (a 16)])), ((a 14), .inr (0, [.ref (a 15), .ref (a 7)])), ((a 15), .inl ((k 15), 98, .inl fr)), ((a 7), .inr (5, [.ref (a 8), .ref (a 9), .int dv])), ((a 8), .inl ((k 8), 8, .inl fu)), ((a 9), .inl ((k 9), 48, .inl fp)), ((a 16), .inr (0, [.ref (a 17), .ref (a 7)])), ((a 17), .inl ((k 17), 98, .inl (o_4.2)))] H := hP.sub [0, 1, 4, 5, 6, 7, 8, 2, 3] rfl
    have hD : va_D A [((a 0), .inr (9, [.ref (a 1), .ref (a 3), .ref (a 4), .ref (a 7), .ref (a 10), .ref (a 14), .ref (a 16), .ref (a 18), .ref (a 19), .ref (a 21), .ref (a 23), .ref (a 25), .ref (a 27), .ref (a 28), .int hi])), ((a 18), .inr (3, [.ref (a 14), .ref (a 16)])), ((a 14), .inr (0, [.ref (a 15), .ref (a 7)])), ((a 15), .inl ((k 15), 98, .inl fr)), ((a 7), .inr (5, [.ref (a 8), .ref (a 9), .int dv])), ((a 8), .inl ((k 8), 8, .inl fu)), ((a 9), .inl ((k 9), 48, .inl fp)), ((a 16), .inr (0, [.ref (a 17), .ref (a 7)])), ((a 17), .inl ((k 17), 98, .inl (o_4.2)))] := hD.sub [0, 1, 4, 5, 6, 7, 8, 2, 3] (by decide) rfl
    refine lv_goto (tgt := 21) hx hb dX9_last_17 (by decide) ?_
    obtain rfl := Option.some.inj hG
    have hP9 := hP.sub (ws' := [((a 0), .inr (9, [.ref (a 1), .ref (a 3), .ref (a 4), .ref (a 7), .ref (a 10), .ref (a 14), .ref (a 16), .ref (a 18), .ref (a 19), .ref (a 21), .ref (a 23), .ref (a 25), .ref (a 27), .ref (a 28), .int hi])), ((a 18), .inr (3, [.ref (a 14), .ref (a 16)])), ((a 14), .inr (0, [.ref (a 15), .ref (a 7)])), ((a 15), .inl ((k 15), 98, .inl fr)), ((a 7), .inr (5, [.ref (a 8), .ref (a 9), .int dv])), ((a 8), .inl ((k 8), 8, .inl fu)), ((a 9), .inl ((k 9), 48, .inl fp)), ((a 16), .inr (0, [.ref (a 17), .ref (a 7)])), ((a 17), .inl ((k 17), 98, .inl (o_4.2)))]) [0, 1, 2, 3, 4, 5, 6, 7, 8] rfl
    have hD9 := hD.sub (ws' := [((a 0), .inr (9, [.ref (a 1), .ref (a 3), .ref (a 4), .ref (a 7), .ref (a 10), .ref (a 14), .ref (a 16), .ref (a 18), .ref (a 19), .ref (a 21), .ref (a 23), .ref (a 25), .ref (a 27), .ref (a 28), .int hi])), ((a 18), .inr (3, [.ref (a 14), .ref (a 16)])), ((a 14), .inr (0, [.ref (a 15), .ref (a 7)])), ((a 15), .inl ((k 15), 98, .inl fr)), ((a 7), .inr (5, [.ref (a 8), .ref (a 9), .int dv])), ((a 8), .inl ((k 8), 8, .inl fu)), ((a 9), .inl ((k 9), 48, .inl fp)), ((a 16), .inr (0, [.ref (a 17), .ref (a 7)])), ((a 17), .inl ((k 17), 98, .inl (o_4.2)))]) [0, 1, 2, 3, 4, 5, 6, 7, 8] (by decide) rfl
    have hK9 := hK.sub (tys' := [((k 15), .int), ((k 8), .int), ((k 9), .int), ((k 17), .int)]) [0, 1, 2, 3] rfl
    exact W.iret (v := o_4.1) hx hb hr (fun t ht hW => ⟨⟨o_4.1, (), rfl, ⟨rfl, trivial⟩, by rw [ht]; exact hP9, va_K.moved hW.alike hK9, hD9⟩, hS.F ht⟩) hS.2.2 dX9_last_21

def F_X9_place (dv : Int32) (fu : Nat → Int32) (fp : Nat → Int32) (fr : Nat → Int32) (fa : Nat → Int32) (z1 : Int32) : Option (Int32 × (Nat → Int32)) := ((F_X5_has dv z1).bind fun o_1 => (if o_1 = 0 then some ((-1), fa) else ((F_X0_is fr dv fu fp z1 0).bind fun o_4 => (if o_4 = 0 then some ((-1), fa) else ((F_X3_bestPort fa fr dv fu fp z1).bind fun o_7 => some (o_7.1, (o_7.2)))))))
set_option maxHeartbeats 4000000 in
set_option maxRecDepth 100000 in
theorem c_X9_place (l : Launch) (dC : Nat → ClassId) (dI : Nat → Nat → Nat) (a : Nat → Nat) (k : Nat → ClassId) (dv : Int32) (hi : Int32) (fu : Nat → Int32) (fp : Nat → Int32) (fr : Nat → Int32) (fa : Nat → Int32) (z1 : Int32) (A : Nat → Prop) (o : Int32 × (Nat → Int32)) (hG : F_X9_place dv fu fp fr fa z1 = some o) : Met l yX9_place (.code yX9_place cX9_place 2 (some .int) :: wA) ({ frames := 7, cells := 0, slots := 0, locals := 165 }) (va_Pc [.ref (a 0), .int z1] (q_W (dC, dI) A [((a 0), .inr (9, [.ref (a 1), .ref (a 3), .ref (a 4), .ref (a 7), .ref (a 10), .ref (a 14), .ref (a 16), .ref (a 18), .ref (a 19), .ref (a 21), .ref (a 23), .ref (a 25), .ref (a 27), .ref (a 28), .int hi])), ((a 18), .inr (3, [.ref (a 14), .ref (a 16)])), ((a 14), .inr (0, [.ref (a 15), .ref (a 7)])), ((a 15), .inl ((k 15), 98, .inl fr)), ((a 7), .inr (5, [.ref (a 8), .ref (a 9), .int dv])), ((a 8), .inl ((k 8), 8, .inl fu)), ((a 9), .inl ((k 9), 48, .inl fp)), ((a 16), .inr (0, [.ref (a 17), .ref (a 7)])), ((a 17), .inl ((k 17), 98, .inl fa))] [((k 15), .int), ((k 8), .int), ((k 9), .int), ((k 17), .int)])) (va_Qi (fun (r : Int32) (_ : Unit) => r = o.1 ∧ True) (fun (_ : Unit) t => q_B (dC, dI) A [((a 0), .inr (9, [.ref (a 1), .ref (a 3), .ref (a 4), .ref (a 7), .ref (a 10), .ref (a 14), .ref (a 16), .ref (a 18), .ref (a 19), .ref (a 21), .ref (a 23), .ref (a 25), .ref (a 27), .ref (a 28), .int hi])), ((a 18), .inr (3, [.ref (a 14), .ref (a 16)])), ((a 14), .inr (0, [.ref (a 15), .ref (a 7)])), ((a 15), .inl ((k 15), 98, .inl fr)), ((a 7), .inr (5, [.ref (a 8), .ref (a 9), .int dv])), ((a 8), .inl ((k 8), 8, .inl fu)), ((a 9), .inl ((k 9), 48, .inl fp)), ((a 16), .inr (0, [.ref (a 17), .ref (a 7)])), ((a 17), .inl ((k 17), 98, .inl (o.2)))] [((k 15), .int), ((k 8), .int), ((k 9), .int), ((k 17), .int)] t) A) 0 0 A := by
  refine Met.ofW (cc := cX9_place) (maxL := 2) (ret := (some .int)) (by decide) rfl ?_
  intro p e s m args below meth c s₁ B hml hv
  obtain ⟨rfl, hP, hK, hD, hA⟩ := hv
  have hx := B.exec
  have hb := B.bytes
  have hr := B.returns
  have hts := atoms_spec (ws := .code yX9_place cX9_place 2 (some .int) :: wA) B.pre
  have hown : s.vm.findClass RX9 = some m.cls := findClass_of_methodNamed B.named
  have hlocks := B.notSynchronized
  have hS : va_S A s.heap s.heap [] := va_S.rf
  have hl := lv_entry ([.ref (a 0), .int z1]) (n := 2) (Nat.le_of_ble_eq_true rfl)
  rw [lg_entry_eq]
  generalize (lg_sl ([.ref (a 0), .int z1]) ++ List.replicate (2 - (lg_sl ([.ref (a 0), .int z1])).length) Slot.unset).toArray = ls at hl ⊢
  have hl : lv_has ls 2 [(0, .ref (a 0)), (1, .int z1)] := hl
  unfold F_X9_place at hG
  refine lv_aload_n hx hb dX9_place_0 rfl (lv_at hl 0 rfl) ?_
  refine va_get (D := (dC, dI)) (ci := 9) (v := .ref (a 7)) (C := RX9) (T := TX9) (N := 15) hx hb hts iA_9 hown hK hP 0 rfl rfl 3 (by decide) (hts (.fieldLink RX9 32 "HubTree" "plan" "LHubTree$Plan;") (List.mem_cons_of_mem _ m_26)) (fun _ h9 => h9) rfl dX9_place_1 ?_
  refine lv_iload_n hx hb dX9_place_4 rfl (lv_at hl 1 rfl) ?_
  obtain ⟨o_1, r_2, hG⟩ := q_bi hG
  refine q_goi (v := o_1) (va_runV (As := [.int z1]) (rest := []) ⟨hx, hb, hml, hown, hts⟩ (c_X5_has l dC dI (a 7) (a 8) (a 9) dv z1 o_1 r_2) (cwV 1 hts (q_gV m_464 m_465 m_466 m_24 m_467) rfl rfl rfl hdV_yX5_has_1 ⟨Nat.le_of_ble_eq_true rfl, Nat.le_of_ble_eq_true rfl⟩) (q_preV hK hP (q := (RX5, TX5, 3)) (ci := 5) (q0 := 4) rfl rfl [4] rfl [] rfl) rfl rfl hl.1 rfl (lv_room (Nat.le_of_ble_eq_true rfl)) dX9_place_5 ⟨Nat.le_of_ble_eq_true rfl, Nat.le_of_ble_eq_true rfl⟩) hP hS (fun H locs hP hS => ?_)
  refine lv_if_eq (tgt := 34) hx hb dX9_place_8 (by decide) (fun c_3 => ?_) (fun c_3 => ?_)
  · have hG := q_ifp c_3 hG
    refine lv_iconst (v := (-1)) hx hb dX9_place_34 (by decide) ?_
    obtain rfl := Option.some.inj hG
    have hP9 := hP.sub (ws' := [((a 0), .inr (9, [.ref (a 1), .ref (a 3), .ref (a 4), .ref (a 7), .ref (a 10), .ref (a 14), .ref (a 16), .ref (a 18), .ref (a 19), .ref (a 21), .ref (a 23), .ref (a 25), .ref (a 27), .ref (a 28), .int hi])), ((a 18), .inr (3, [.ref (a 14), .ref (a 16)])), ((a 14), .inr (0, [.ref (a 15), .ref (a 7)])), ((a 15), .inl ((k 15), 98, .inl fr)), ((a 7), .inr (5, [.ref (a 8), .ref (a 9), .int dv])), ((a 8), .inl ((k 8), 8, .inl fu)), ((a 9), .inl ((k 9), 48, .inl fp)), ((a 16), .inr (0, [.ref (a 17), .ref (a 7)])), ((a 17), .inl ((k 17), 98, .inl fa))]) [0, 1, 2, 3, 4, 5, 6, 7, 8] rfl
    have hD9 := hD.sub (ws' := [((a 0), .inr (9, [.ref (a 1), .ref (a 3), .ref (a 4), .ref (a 7), .ref (a 10), .ref (a 14), .ref (a 16), .ref (a 18), .ref (a 19), .ref (a 21), .ref (a 23), .ref (a 25), .ref (a 27), .ref (a 28), .int hi])), ((a 18), .inr (3, [.ref (a 14), .ref (a 16)])), ((a 14), .inr (0, [.ref (a 15), .ref (a 7)])), ((a 15), .inl ((k 15), 98, .inl fr)), ((a 7), .inr (5, [.ref (a 8), .ref (a 9), .int dv])), ((a 8), .inl ((k 8), 8, .inl fu)), ((a 9), .inl ((k 9), 48, .inl fp)), ((a 16), .inr (0, [.ref (a 17), .ref (a 7)])), ((a 17), .inl ((k 17), 98, .inl fa))]) [0, 1, 2, 3, 4, 5, 6, 7, 8] (by decide) rfl
    have hK9 := hK.sub (tys' := [((k 15), .int), ((k 8), .int), ((k 9), .int), ((k 17), .int)]) [0, 1, 2, 3] rfl
    exact W.iret (v := (-1)) hx hb hr (fun t ht hW => ⟨⟨(-1), (), rfl, ⟨rfl, trivial⟩, by rw [ht]; exact hP9, va_K.moved hW.alike hK9, hD9⟩, hS.F ht⟩) hS.2.2 dX9_place_35
  · have hG := q_ifn c_3 hG
    refine lv_aload_n hx hb dX9_place_11 rfl (lv_at hl 0 rfl) ?_
    refine va_get (D := (dC, dI)) (ci := 9) (v := .ref (a 14)) (C := RX9) (T := TX9) (N := 15) hx hb hts iA_9 hown hK hP 0 rfl rfl 5 (by decide) (hts (.fieldLink RX9 47 "HubTree" "now" "LHubTree$Bus;") (List.mem_cons_of_mem _ m_34)) (fun _ h9 => h9) rfl dX9_place_12 ?_
    refine lv_iload_n hx hb dX9_place_15 rfl (lv_at hl 1 rfl) ?_
    refine lv_iconst (v := 0) hx hb dX9_place_16 (by decide) ?_
    obtain ⟨o_4, r_5, hG⟩ := q_bi hG
    refine q_goi (v := o_4) (va_runV (As := [.int z1, .int 0]) (rest := []) ⟨hx, hb, hml, hown, hts⟩ (c_X0_is l dC dI (a 14) (a 15) (a 7) (a 8) (a 9) dv (k 15) fr (k 8) (k 9) fu fp z1 0 o_4 r_5) (cwV 2 hts (q_gV m_582 m_583 m_584 m_33 m_585) rfl rfl rfl hdV_yX0_is_2 ⟨Nat.le_of_ble_eq_true rfl, Nat.le_of_ble_eq_true rfl⟩) (q_preV hK hP (q := (RX0, TX0, 2)) (ci := 0) (q0 := 2) rfl rfl [2, 3, 4, 5, 6] rfl [0, 1, 2] rfl) rfl rfl hl.1 rfl (lv_room (Nat.le_of_ble_eq_true rfl)) dX9_place_17 ⟨Nat.le_of_ble_eq_true rfl, Nat.le_of_ble_eq_true rfl⟩) hP hS (fun H locs hP hS => ?_)
    refine lv_if_eq (tgt := 34) hx hb dX9_place_20 (by decide) (fun c_6 => ?_) (fun c_6 => ?_)
    · have hG := q_ifp c_6 hG
      refine lv_iconst (v := (-1)) hx hb dX9_place_34 (by decide) ?_
      obtain rfl := Option.some.inj hG
      have hP9 := hP.sub (ws' := [((a 0), .inr (9, [.ref (a 1), .ref (a 3), .ref (a 4), .ref (a 7), .ref (a 10), .ref (a 14), .ref (a 16), .ref (a 18), .ref (a 19), .ref (a 21), .ref (a 23), .ref (a 25), .ref (a 27), .ref (a 28), .int hi])), ((a 18), .inr (3, [.ref (a 14), .ref (a 16)])), ((a 14), .inr (0, [.ref (a 15), .ref (a 7)])), ((a 15), .inl ((k 15), 98, .inl fr)), ((a 7), .inr (5, [.ref (a 8), .ref (a 9), .int dv])), ((a 8), .inl ((k 8), 8, .inl fu)), ((a 9), .inl ((k 9), 48, .inl fp)), ((a 16), .inr (0, [.ref (a 17), .ref (a 7)])), ((a 17), .inl ((k 17), 98, .inl fa))]) [0, 1, 2, 3, 4, 5, 6, 7, 8] rfl
      have hD9 := hD.sub (ws' := [((a 0), .inr (9, [.ref (a 1), .ref (a 3), .ref (a 4), .ref (a 7), .ref (a 10), .ref (a 14), .ref (a 16), .ref (a 18), .ref (a 19), .ref (a 21), .ref (a 23), .ref (a 25), .ref (a 27), .ref (a 28), .int hi])), ((a 18), .inr (3, [.ref (a 14), .ref (a 16)])), ((a 14), .inr (0, [.ref (a 15), .ref (a 7)])), ((a 15), .inl ((k 15), 98, .inl fr)), ((a 7), .inr (5, [.ref (a 8), .ref (a 9), .int dv])), ((a 8), .inl ((k 8), 8, .inl fu)), ((a 9), .inl ((k 9), 48, .inl fp)), ((a 16), .inr (0, [.ref (a 17), .ref (a 7)])), ((a 17), .inl ((k 17), 98, .inl fa))]) [0, 1, 2, 3, 4, 5, 6, 7, 8] (by decide) rfl
      have hK9 := hK.sub (tys' := [((k 15), .int), ((k 8), .int), ((k 9), .int), ((k 17), .int)]) [0, 1, 2, 3] rfl
      exact W.iret (v := (-1)) hx hb hr (fun t ht hW => ⟨⟨(-1), (), rfl, ⟨rfl, trivial⟩, by rw [ht]; exact hP9, va_K.moved hW.alike hK9, hD9⟩, hS.F ht⟩) hS.2.2 dX9_place_35
    · have hG := q_ifn c_6 hG
      refine lv_aload_n hx hb dX9_place_23 rfl (lv_at hl 0 rfl) ?_
      refine va_get (D := (dC, dI)) (ci := 9) (v := .ref (a 18)) (C := RX9) (T := TX9) (N := 15) hx hb hts iA_9 hown hK hP 0 rfl rfl 7 (by decide) (hts (.fieldLink RX9 59 "HubTree" "foresight" "LHubTree$Foresight;") (List.mem_cons_of_mem _ m_39)) (fun _ h9 => h9) rfl dX9_place_24 ?_
      refine lv_iload_n hx hb dX9_place_27 rfl (lv_at hl 1 rfl) ?_
      obtain ⟨o_7, r_8, hG⟩ := q_bi hG
      refine q_goi2 (v := o_7.1) (wr := [((a 0), .inr (9, [.ref (a 1), .ref (a 3), .ref (a 4), .ref (a 7), .ref (a 10), .ref (a 14), .ref (a 16), .ref (a 18), .ref (a 19), .ref (a 21), .ref (a 23), .ref (a 25), .ref (a 27), .ref (a 28), .int hi]))]) (va_runV (As := [.int z1]) (rest := []) ⟨hx, hb, hml, hown, hts⟩ (c_X3_bestPort l dC dI (a 18) (a 16) (a 17) (k 17) fa (a 14) (a 15) (a 7) (a 8) (a 9) dv (k 15) fr (k 8) (k 9) fu fp z1 (va_A [((a 18), .inr (3, [.ref (a 14), .ref (a 16)])), ((a 16), .inr (0, [.ref (a 17), .ref (a 7)])), ((a 17), .inl ((k 17), 98, .inl fa)), ((a 14), .inr (0, [.ref (a 15), .ref (a 7)])), ((a 15), .inl ((k 15), 98, .inl fr)), ((a 7), .inr (5, [.ref (a 8), .ref (a 9), .int dv])), ((a 8), .inl ((k 8), 8, .inl fu)), ((a 9), .inl ((k 9), 48, .inl fp))] H.size) o_7 r_8) (cwV 1 hts (q_gV m_1236 m_1237 m_1238 m_38 m_1239) rfl rfl rfl hdV_yX3_bestPort_1 ⟨Nat.le_of_ble_eq_true rfl, Nat.le_of_ble_eq_true rfl⟩) (q_preWV hK hP hD (q := (RX3, TX3, 2)) (ci := 3) (q0 := 1) rfl rfl [1, 7, 8, 2, 3, 4, 5, 6] (by decide) rfl rfl [3, 0, 1, 2] rfl) rfl rfl hl.1 rfl (lv_room (Nat.le_of_ble_eq_true rfl)) dX9_place_28 ⟨Nat.le_of_ble_eq_true rfl, Nat.le_of_ble_eq_true rfl⟩) hK hP hD hS hA [1, 7, 8, 2, 3, 4, 5, 6] [0] rfl rfl (by decide) (by decide) (fun _ H locs _ hP hD hK9 hS => ?_)
      have hP : va_P (dC, dI) vwCl [((a 0), .inr (9, [.ref (a 1), .ref (a 3), .ref (a 4), .ref (a 7), .ref (a 10), .ref (a 14), .ref (a 16), .ref (a 18), .ref (a 19), .ref (a 21), .ref (a 23), .ref (a 25), .ref (a 27), .ref (a 28), .int hi])), ((a 18), .inr (3, [.ref (a 14), .ref (a 16)])), ((a 14), .inr (0, [.ref (a 15), .ref (a 7)])), ((a 15), .inl ((k 15), 98, .inl fr)), ((a 7), .inr (5, [.ref (a 8), .ref (a 9), .int dv])), ((a 8), .inl ((k 8), 8, .inl fu)), ((a 9), .inl ((k 9), 48, .inl fp)), ((a 16), .inr (0, [.ref (a 17), .ref (a 7)])), ((a 17), .inl ((k 17), 98, .inl (o_7.2)))] H := hP.sub [0, 1, 4, 5, 6, 7, 8, 2, 3] rfl
      have hD : va_D A [((a 0), .inr (9, [.ref (a 1), .ref (a 3), .ref (a 4), .ref (a 7), .ref (a 10), .ref (a 14), .ref (a 16), .ref (a 18), .ref (a 19), .ref (a 21), .ref (a 23), .ref (a 25), .ref (a 27), .ref (a 28), .int hi])), ((a 18), .inr (3, [.ref (a 14), .ref (a 16)])), ((a 14), .inr (0, [.ref (a 15), .ref (a 7)])), ((a 15), .inl ((k 15), 98, .inl fr)), ((a 7), .inr (5, [.ref (a 8), .ref (a 9), .int dv])), ((a 8), .inl ((k 8), 8, .inl fu)), ((a 9), .inl ((k 9), 48, .inl fp)), ((a 16), .inr (0, [.ref (a 17), .ref (a 7)])), ((a 17), .inl ((k 17), 98, .inl (o_7.2)))] := hD.sub [0, 1, 4, 5, 6, 7, 8, 2, 3] (by decide) rfl
      refine lv_goto (tgt := 35) hx hb dX9_place_31 (by decide) ?_
      obtain rfl := Option.some.inj hG
      have hP9 := hP.sub (ws' := [((a 0), .inr (9, [.ref (a 1), .ref (a 3), .ref (a 4), .ref (a 7), .ref (a 10), .ref (a 14), .ref (a 16), .ref (a 18), .ref (a 19), .ref (a 21), .ref (a 23), .ref (a 25), .ref (a 27), .ref (a 28), .int hi])), ((a 18), .inr (3, [.ref (a 14), .ref (a 16)])), ((a 14), .inr (0, [.ref (a 15), .ref (a 7)])), ((a 15), .inl ((k 15), 98, .inl fr)), ((a 7), .inr (5, [.ref (a 8), .ref (a 9), .int dv])), ((a 8), .inl ((k 8), 8, .inl fu)), ((a 9), .inl ((k 9), 48, .inl fp)), ((a 16), .inr (0, [.ref (a 17), .ref (a 7)])), ((a 17), .inl ((k 17), 98, .inl (o_7.2)))]) [0, 1, 2, 3, 4, 5, 6, 7, 8] rfl
      have hD9 := hD.sub (ws' := [((a 0), .inr (9, [.ref (a 1), .ref (a 3), .ref (a 4), .ref (a 7), .ref (a 10), .ref (a 14), .ref (a 16), .ref (a 18), .ref (a 19), .ref (a 21), .ref (a 23), .ref (a 25), .ref (a 27), .ref (a 28), .int hi])), ((a 18), .inr (3, [.ref (a 14), .ref (a 16)])), ((a 14), .inr (0, [.ref (a 15), .ref (a 7)])), ((a 15), .inl ((k 15), 98, .inl fr)), ((a 7), .inr (5, [.ref (a 8), .ref (a 9), .int dv])), ((a 8), .inl ((k 8), 8, .inl fu)), ((a 9), .inl ((k 9), 48, .inl fp)), ((a 16), .inr (0, [.ref (a 17), .ref (a 7)])), ((a 17), .inl ((k 17), 98, .inl (o_7.2)))]) [0, 1, 2, 3, 4, 5, 6, 7, 8] (by decide) rfl
      have hK9 := hK.sub (tys' := [((k 15), .int), ((k 8), .int), ((k 9), .int), ((k 17), .int)]) [0, 1, 2, 3] rfl
      exact W.iret (v := o_7.1) hx hb hr (fun t ht hW => ⟨⟨o_7.1, (), rfl, ⟨rfl, trivial⟩, by rw [ht]; exact hP9, va_K.moved hW.alike hK9, hD9⟩, hS.F ht⟩) hS.2.2 dX9_place_35

def F_X9_order (dv : Int32) (fu : Nat → Int32) (fp : Nat → Int32) (fr : Nat → Int32) (fa : Nat → Int32) (z1 : Int32) : Option (Int32 × (Nat → Int32)) := ((F_X5_isTold dv).bind fun o_1 => (if o_1 = 0 then some ((-1), fa) else (if z1 < 0 then some ((-1), fa) else (if 8 ≤ z1 then some ((-1), fa) else ((F_X3_nextToRun fa fr dv fu fp z1).bind fun o_6 => some (o_6.1, (o_6.2)))))))
set_option maxHeartbeats 4000000 in
set_option maxRecDepth 100000 in
theorem c_X9_order (l : Launch) (dC : Nat → ClassId) (dI : Nat → Nat → Nat) (a : Nat → Nat) (k : Nat → ClassId) (dv : Int32) (hi : Int32) (fu : Nat → Int32) (fp : Nat → Int32) (fr : Nat → Int32) (fa : Nat → Int32) (z1 : Int32) (A : Nat → Prop) (o : Int32 × (Nat → Int32)) (hG : F_X9_order dv fu fp fr fa z1 = some o) : Met l yX9_order (.code yX9_order cX9_order 2 (some .int) :: wA) ({ frames := 6, cells := 0, slots := 0, locals := 141 }) (va_Pc [.ref (a 0), .int z1] (q_W (dC, dI) A [((a 0), .inr (9, [.ref (a 1), .ref (a 3), .ref (a 4), .ref (a 7), .ref (a 10), .ref (a 14), .ref (a 16), .ref (a 18), .ref (a 19), .ref (a 21), .ref (a 23), .ref (a 25), .ref (a 27), .ref (a 28), .int hi])), ((a 18), .inr (3, [.ref (a 14), .ref (a 16)])), ((a 14), .inr (0, [.ref (a 15), .ref (a 7)])), ((a 15), .inl ((k 15), 98, .inl fr)), ((a 7), .inr (5, [.ref (a 8), .ref (a 9), .int dv])), ((a 8), .inl ((k 8), 8, .inl fu)), ((a 9), .inl ((k 9), 48, .inl fp)), ((a 16), .inr (0, [.ref (a 17), .ref (a 7)])), ((a 17), .inl ((k 17), 98, .inl fa))] [((k 15), .int), ((k 8), .int), ((k 9), .int), ((k 17), .int)])) (va_Qi (fun (r : Int32) (_ : Unit) => r = o.1 ∧ True) (fun (_ : Unit) t => q_B (dC, dI) A [((a 0), .inr (9, [.ref (a 1), .ref (a 3), .ref (a 4), .ref (a 7), .ref (a 10), .ref (a 14), .ref (a 16), .ref (a 18), .ref (a 19), .ref (a 21), .ref (a 23), .ref (a 25), .ref (a 27), .ref (a 28), .int hi])), ((a 18), .inr (3, [.ref (a 14), .ref (a 16)])), ((a 14), .inr (0, [.ref (a 15), .ref (a 7)])), ((a 15), .inl ((k 15), 98, .inl fr)), ((a 7), .inr (5, [.ref (a 8), .ref (a 9), .int dv])), ((a 8), .inl ((k 8), 8, .inl fu)), ((a 9), .inl ((k 9), 48, .inl fp)), ((a 16), .inr (0, [.ref (a 17), .ref (a 7)])), ((a 17), .inl ((k 17), 98, .inl (o.2)))] [((k 15), .int), ((k 8), .int), ((k 9), .int), ((k 17), .int)] t) A) 0 0 A := by
  refine Met.ofW (cc := cX9_order) (maxL := 2) (ret := (some .int)) (by decide) rfl ?_
  intro p e s m args below meth c s₁ B hml hv
  obtain ⟨rfl, hP, hK, hD, hA⟩ := hv
  have hx := B.exec
  have hb := B.bytes
  have hr := B.returns
  have hts := atoms_spec (ws := .code yX9_order cX9_order 2 (some .int) :: wA) B.pre
  have hown : s.vm.findClass RX9 = some m.cls := findClass_of_methodNamed B.named
  have hlocks := B.notSynchronized
  have hS : va_S A s.heap s.heap [] := va_S.rf
  have hl := lv_entry ([.ref (a 0), .int z1]) (n := 2) (Nat.le_of_ble_eq_true rfl)
  rw [lg_entry_eq]
  generalize (lg_sl ([.ref (a 0), .int z1]) ++ List.replicate (2 - (lg_sl ([.ref (a 0), .int z1])).length) Slot.unset).toArray = ls at hl ⊢
  have hl : lv_has ls 2 [(0, .ref (a 0)), (1, .int z1)] := hl
  unfold F_X9_order at hG
  refine lv_aload_n hx hb dX9_order_0 rfl (lv_at hl 0 rfl) ?_
  refine va_get (D := (dC, dI)) (ci := 9) (v := .ref (a 7)) (C := RX9) (T := TX9) (N := 15) hx hb hts iA_9 hown hK hP 0 rfl rfl 3 (by decide) (hts (.fieldLink RX9 32 "HubTree" "plan" "LHubTree$Plan;") (List.mem_cons_of_mem _ m_26)) (fun _ h9 => h9) rfl dX9_order_1 ?_
  obtain ⟨o_1, r_2, hG⟩ := q_bi hG
  refine q_goi (v := o_1) (va_runV (As := []) (rest := []) ⟨hx, hb, hml, hown, hts⟩ (c_X5_isTold l dC dI (a 7) (a 8) (a 9) dv o_1 r_2) (cwV 0 hts (q_gV m_449 m_300 m_301 m_24 m_302) rfl rfl rfl hdV_yX5_isTold_0 ⟨Nat.le_of_ble_eq_true rfl, Nat.le_of_ble_eq_true rfl⟩) (q_preV hK hP (q := (RX5, TX5, 3)) (ci := 5) (q0 := 4) rfl rfl [4] rfl [] rfl) rfl rfl hl.1 rfl (lv_room (Nat.le_of_ble_eq_true rfl)) dX9_order_4 ⟨Nat.le_of_ble_eq_true rfl, Nat.le_of_ble_eq_true rfl⟩) hP hS (fun H locs hP hS => ?_)
  refine lv_if_eq (tgt := 31) hx hb dX9_order_7 (by decide) (fun c_3 => ?_) (fun c_3 => ?_)
  · have hG := q_ifp c_3 hG
    refine lv_iconst (v := (-1)) hx hb dX9_order_31 (by decide) ?_
    obtain rfl := Option.some.inj hG
    have hP9 := hP.sub (ws' := [((a 0), .inr (9, [.ref (a 1), .ref (a 3), .ref (a 4), .ref (a 7), .ref (a 10), .ref (a 14), .ref (a 16), .ref (a 18), .ref (a 19), .ref (a 21), .ref (a 23), .ref (a 25), .ref (a 27), .ref (a 28), .int hi])), ((a 18), .inr (3, [.ref (a 14), .ref (a 16)])), ((a 14), .inr (0, [.ref (a 15), .ref (a 7)])), ((a 15), .inl ((k 15), 98, .inl fr)), ((a 7), .inr (5, [.ref (a 8), .ref (a 9), .int dv])), ((a 8), .inl ((k 8), 8, .inl fu)), ((a 9), .inl ((k 9), 48, .inl fp)), ((a 16), .inr (0, [.ref (a 17), .ref (a 7)])), ((a 17), .inl ((k 17), 98, .inl fa))]) [0, 1, 2, 3, 4, 5, 6, 7, 8] rfl
    have hD9 := hD.sub (ws' := [((a 0), .inr (9, [.ref (a 1), .ref (a 3), .ref (a 4), .ref (a 7), .ref (a 10), .ref (a 14), .ref (a 16), .ref (a 18), .ref (a 19), .ref (a 21), .ref (a 23), .ref (a 25), .ref (a 27), .ref (a 28), .int hi])), ((a 18), .inr (3, [.ref (a 14), .ref (a 16)])), ((a 14), .inr (0, [.ref (a 15), .ref (a 7)])), ((a 15), .inl ((k 15), 98, .inl fr)), ((a 7), .inr (5, [.ref (a 8), .ref (a 9), .int dv])), ((a 8), .inl ((k 8), 8, .inl fu)), ((a 9), .inl ((k 9), 48, .inl fp)), ((a 16), .inr (0, [.ref (a 17), .ref (a 7)])), ((a 17), .inl ((k 17), 98, .inl fa))]) [0, 1, 2, 3, 4, 5, 6, 7, 8] (by decide) rfl
    have hK9 := hK.sub (tys' := [((k 15), .int), ((k 8), .int), ((k 9), .int), ((k 17), .int)]) [0, 1, 2, 3] rfl
    exact W.iret (v := (-1)) hx hb hr (fun t ht hW => ⟨⟨(-1), (), rfl, ⟨rfl, trivial⟩, by rw [ht]; exact hP9, va_K.moved hW.alike hK9, hD9⟩, hS.F ht⟩) hS.2.2 dX9_order_32
  · have hG := q_ifn c_3 hG
    refine lv_iload_n hx hb dX9_order_10 rfl (lv_at hl 1 rfl) ?_
    refine lv_if_lt (tgt := 31) hx hb dX9_order_11 (by decide) (fun c_4 => ?_) (fun c_4 => ?_)
    · have hG := q_ifp c_4 hG
      refine lv_iconst (v := (-1)) hx hb dX9_order_31 (by decide) ?_
      obtain rfl := Option.some.inj hG
      have hP9 := hP.sub (ws' := [((a 0), .inr (9, [.ref (a 1), .ref (a 3), .ref (a 4), .ref (a 7), .ref (a 10), .ref (a 14), .ref (a 16), .ref (a 18), .ref (a 19), .ref (a 21), .ref (a 23), .ref (a 25), .ref (a 27), .ref (a 28), .int hi])), ((a 18), .inr (3, [.ref (a 14), .ref (a 16)])), ((a 14), .inr (0, [.ref (a 15), .ref (a 7)])), ((a 15), .inl ((k 15), 98, .inl fr)), ((a 7), .inr (5, [.ref (a 8), .ref (a 9), .int dv])), ((a 8), .inl ((k 8), 8, .inl fu)), ((a 9), .inl ((k 9), 48, .inl fp)), ((a 16), .inr (0, [.ref (a 17), .ref (a 7)])), ((a 17), .inl ((k 17), 98, .inl fa))]) [0, 1, 2, 3, 4, 5, 6, 7, 8] rfl
      have hD9 := hD.sub (ws' := [((a 0), .inr (9, [.ref (a 1), .ref (a 3), .ref (a 4), .ref (a 7), .ref (a 10), .ref (a 14), .ref (a 16), .ref (a 18), .ref (a 19), .ref (a 21), .ref (a 23), .ref (a 25), .ref (a 27), .ref (a 28), .int hi])), ((a 18), .inr (3, [.ref (a 14), .ref (a 16)])), ((a 14), .inr (0, [.ref (a 15), .ref (a 7)])), ((a 15), .inl ((k 15), 98, .inl fr)), ((a 7), .inr (5, [.ref (a 8), .ref (a 9), .int dv])), ((a 8), .inl ((k 8), 8, .inl fu)), ((a 9), .inl ((k 9), 48, .inl fp)), ((a 16), .inr (0, [.ref (a 17), .ref (a 7)])), ((a 17), .inl ((k 17), 98, .inl fa))]) [0, 1, 2, 3, 4, 5, 6, 7, 8] (by decide) rfl
      have hK9 := hK.sub (tys' := [((k 15), .int), ((k 8), .int), ((k 9), .int), ((k 17), .int)]) [0, 1, 2, 3] rfl
      exact W.iret (v := (-1)) hx hb hr (fun t ht hW => ⟨⟨(-1), (), rfl, ⟨rfl, trivial⟩, by rw [ht]; exact hP9, va_K.moved hW.alike hK9, hD9⟩, hS.F ht⟩) hS.2.2 dX9_order_32
    · have hG := q_ifn c_4 hG
      refine lv_iload_n hx hb dX9_order_14 rfl (lv_at hl 1 rfl) ?_
      refine lv_bipush (v := 8) hx hb dX9_order_15 (by decide) ?_
      refine lv_icmp_ge (tgt := 31) hx hb dX9_order_17 (by decide) (fun c_5 => ?_) (fun c_5 => ?_)
      · have hG := q_ifp c_5 hG
        refine lv_iconst (v := (-1)) hx hb dX9_order_31 (by decide) ?_
        obtain rfl := Option.some.inj hG
        have hP9 := hP.sub (ws' := [((a 0), .inr (9, [.ref (a 1), .ref (a 3), .ref (a 4), .ref (a 7), .ref (a 10), .ref (a 14), .ref (a 16), .ref (a 18), .ref (a 19), .ref (a 21), .ref (a 23), .ref (a 25), .ref (a 27), .ref (a 28), .int hi])), ((a 18), .inr (3, [.ref (a 14), .ref (a 16)])), ((a 14), .inr (0, [.ref (a 15), .ref (a 7)])), ((a 15), .inl ((k 15), 98, .inl fr)), ((a 7), .inr (5, [.ref (a 8), .ref (a 9), .int dv])), ((a 8), .inl ((k 8), 8, .inl fu)), ((a 9), .inl ((k 9), 48, .inl fp)), ((a 16), .inr (0, [.ref (a 17), .ref (a 7)])), ((a 17), .inl ((k 17), 98, .inl fa))]) [0, 1, 2, 3, 4, 5, 6, 7, 8] rfl
        have hD9 := hD.sub (ws' := [((a 0), .inr (9, [.ref (a 1), .ref (a 3), .ref (a 4), .ref (a 7), .ref (a 10), .ref (a 14), .ref (a 16), .ref (a 18), .ref (a 19), .ref (a 21), .ref (a 23), .ref (a 25), .ref (a 27), .ref (a 28), .int hi])), ((a 18), .inr (3, [.ref (a 14), .ref (a 16)])), ((a 14), .inr (0, [.ref (a 15), .ref (a 7)])), ((a 15), .inl ((k 15), 98, .inl fr)), ((a 7), .inr (5, [.ref (a 8), .ref (a 9), .int dv])), ((a 8), .inl ((k 8), 8, .inl fu)), ((a 9), .inl ((k 9), 48, .inl fp)), ((a 16), .inr (0, [.ref (a 17), .ref (a 7)])), ((a 17), .inl ((k 17), 98, .inl fa))]) [0, 1, 2, 3, 4, 5, 6, 7, 8] (by decide) rfl
        have hK9 := hK.sub (tys' := [((k 15), .int), ((k 8), .int), ((k 9), .int), ((k 17), .int)]) [0, 1, 2, 3] rfl
        exact W.iret (v := (-1)) hx hb hr (fun t ht hW => ⟨⟨(-1), (), rfl, ⟨rfl, trivial⟩, by rw [ht]; exact hP9, va_K.moved hW.alike hK9, hD9⟩, hS.F ht⟩) hS.2.2 dX9_order_32
      · have hG := q_ifn c_5 hG
        refine lv_aload_n hx hb dX9_order_20 rfl (lv_at hl 0 rfl) ?_
        refine va_get (D := (dC, dI)) (ci := 9) (v := .ref (a 18)) (C := RX9) (T := TX9) (N := 15) hx hb hts iA_9 hown hK hP 0 rfl rfl 7 (by decide) (hts (.fieldLink RX9 59 "HubTree" "foresight" "LHubTree$Foresight;") (List.mem_cons_of_mem _ m_39)) (fun _ h9 => h9) rfl dX9_order_21 ?_
        refine lv_iload_n hx hb dX9_order_24 rfl (lv_at hl 1 rfl) ?_
        obtain ⟨o_6, r_7, hG⟩ := q_bi hG
        refine q_goi2 (v := o_6.1) (wr := [((a 0), .inr (9, [.ref (a 1), .ref (a 3), .ref (a 4), .ref (a 7), .ref (a 10), .ref (a 14), .ref (a 16), .ref (a 18), .ref (a 19), .ref (a 21), .ref (a 23), .ref (a 25), .ref (a 27), .ref (a 28), .int hi]))]) (va_runV (As := [.int z1]) (rest := []) ⟨hx, hb, hml, hown, hts⟩ (c_X3_nextToRun l dC dI (a 18) (a 16) (a 17) (k 17) fa (a 14) (a 15) (a 7) (a 8) (a 9) dv (k 15) fr (k 8) (k 9) fu fp z1 (va_A [((a 18), .inr (3, [.ref (a 14), .ref (a 16)])), ((a 16), .inr (0, [.ref (a 17), .ref (a 7)])), ((a 17), .inl ((k 17), 98, .inl fa)), ((a 14), .inr (0, [.ref (a 15), .ref (a 7)])), ((a 15), .inl ((k 15), 98, .inl fr)), ((a 7), .inr (5, [.ref (a 8), .ref (a 9), .int dv])), ((a 8), .inl ((k 8), 8, .inl fu)), ((a 9), .inl ((k 9), 48, .inl fp))] H.size) o_6 r_7) (cwV 1 hts (q_gV m_1258 m_1259 m_1260 m_38 m_1261) rfl rfl rfl hdV_yX3_nextToRun_1 ⟨Nat.le_of_ble_eq_true rfl, Nat.le_of_ble_eq_true rfl⟩) (q_preWV hK hP hD (q := (RX3, TX3, 2)) (ci := 3) (q0 := 1) rfl rfl [1, 7, 8, 2, 3, 4, 5, 6] (by decide) rfl rfl [3, 0, 1, 2] rfl) rfl rfl hl.1 rfl (lv_room (Nat.le_of_ble_eq_true rfl)) dX9_order_25 ⟨Nat.le_of_ble_eq_true rfl, Nat.le_of_ble_eq_true rfl⟩) hK hP hD hS hA [1, 7, 8, 2, 3, 4, 5, 6] [0] rfl rfl (by decide) (by decide) (fun _ H locs _ hP hD hK9 hS => ?_)
        have hP : va_P (dC, dI) vwCl [((a 0), .inr (9, [.ref (a 1), .ref (a 3), .ref (a 4), .ref (a 7), .ref (a 10), .ref (a 14), .ref (a 16), .ref (a 18), .ref (a 19), .ref (a 21), .ref (a 23), .ref (a 25), .ref (a 27), .ref (a 28), .int hi])), ((a 18), .inr (3, [.ref (a 14), .ref (a 16)])), ((a 14), .inr (0, [.ref (a 15), .ref (a 7)])), ((a 15), .inl ((k 15), 98, .inl fr)), ((a 7), .inr (5, [.ref (a 8), .ref (a 9), .int dv])), ((a 8), .inl ((k 8), 8, .inl fu)), ((a 9), .inl ((k 9), 48, .inl fp)), ((a 16), .inr (0, [.ref (a 17), .ref (a 7)])), ((a 17), .inl ((k 17), 98, .inl (o_6.2)))] H := hP.sub [0, 1, 4, 5, 6, 7, 8, 2, 3] rfl
        have hD : va_D A [((a 0), .inr (9, [.ref (a 1), .ref (a 3), .ref (a 4), .ref (a 7), .ref (a 10), .ref (a 14), .ref (a 16), .ref (a 18), .ref (a 19), .ref (a 21), .ref (a 23), .ref (a 25), .ref (a 27), .ref (a 28), .int hi])), ((a 18), .inr (3, [.ref (a 14), .ref (a 16)])), ((a 14), .inr (0, [.ref (a 15), .ref (a 7)])), ((a 15), .inl ((k 15), 98, .inl fr)), ((a 7), .inr (5, [.ref (a 8), .ref (a 9), .int dv])), ((a 8), .inl ((k 8), 8, .inl fu)), ((a 9), .inl ((k 9), 48, .inl fp)), ((a 16), .inr (0, [.ref (a 17), .ref (a 7)])), ((a 17), .inl ((k 17), 98, .inl (o_6.2)))] := hD.sub [0, 1, 4, 5, 6, 7, 8, 2, 3] (by decide) rfl
        refine lv_goto (tgt := 32) hx hb dX9_order_28 (by decide) ?_
        obtain rfl := Option.some.inj hG
        have hP9 := hP.sub (ws' := [((a 0), .inr (9, [.ref (a 1), .ref (a 3), .ref (a 4), .ref (a 7), .ref (a 10), .ref (a 14), .ref (a 16), .ref (a 18), .ref (a 19), .ref (a 21), .ref (a 23), .ref (a 25), .ref (a 27), .ref (a 28), .int hi])), ((a 18), .inr (3, [.ref (a 14), .ref (a 16)])), ((a 14), .inr (0, [.ref (a 15), .ref (a 7)])), ((a 15), .inl ((k 15), 98, .inl fr)), ((a 7), .inr (5, [.ref (a 8), .ref (a 9), .int dv])), ((a 8), .inl ((k 8), 8, .inl fu)), ((a 9), .inl ((k 9), 48, .inl fp)), ((a 16), .inr (0, [.ref (a 17), .ref (a 7)])), ((a 17), .inl ((k 17), 98, .inl (o_6.2)))]) [0, 1, 2, 3, 4, 5, 6, 7, 8] rfl
        have hD9 := hD.sub (ws' := [((a 0), .inr (9, [.ref (a 1), .ref (a 3), .ref (a 4), .ref (a 7), .ref (a 10), .ref (a 14), .ref (a 16), .ref (a 18), .ref (a 19), .ref (a 21), .ref (a 23), .ref (a 25), .ref (a 27), .ref (a 28), .int hi])), ((a 18), .inr (3, [.ref (a 14), .ref (a 16)])), ((a 14), .inr (0, [.ref (a 15), .ref (a 7)])), ((a 15), .inl ((k 15), 98, .inl fr)), ((a 7), .inr (5, [.ref (a 8), .ref (a 9), .int dv])), ((a 8), .inl ((k 8), 8, .inl fu)), ((a 9), .inl ((k 9), 48, .inl fp)), ((a 16), .inr (0, [.ref (a 17), .ref (a 7)])), ((a 17), .inl ((k 17), 98, .inl (o_6.2)))]) [0, 1, 2, 3, 4, 5, 6, 7, 8] (by decide) rfl
        have hK9 := hK.sub (tys' := [((k 15), .int), ((k 8), .int), ((k 9), .int), ((k 17), .int)]) [0, 1, 2, 3] rfl
        exact W.iret (v := o_6.1) hx hb hr (fun t ht hW => ⟨⟨o_6.1, (), rfl, ⟨rfl, trivial⟩, by rw [ht]; exact hP9, va_K.moved hW.alike hK9, hD9⟩, hS.F ht⟩) hS.2.2 dX9_order_32

def F_X9_lost (dv : Int32) (fu : Nat → Int32) (fp : Nat → Int32) (fr : Nat → Int32) (fa : Nat → Int32) (z1 : Int32) : Option (Int32 × (Nat → Int32)) := ((F_X5_has dv z1).bind fun o_1 => (if o_1 = 0 then some ((-1), fa) else (if (72 + z1) < 0 ∨ 98 ≤ ((72 + z1)).toNatClampNeg then none else (if (fr (72 + z1).toNatClampNeg) = 1 then ((F_X3_lostWithout fa fr dv fu fp z1).bind fun o_9 => some (o_9.1, (o_9.2))) else some ((-1), fa)))))
set_option maxHeartbeats 4000000 in
set_option maxRecDepth 100000 in
theorem c_X9_lost (l : Launch) (dC : Nat → ClassId) (dI : Nat → Nat → Nat) (a : Nat → Nat) (k : Nat → ClassId) (dv : Int32) (hi : Int32) (fu : Nat → Int32) (fp : Nat → Int32) (fr : Nat → Int32) (fa : Nat → Int32) (z1 : Int32) (A : Nat → Prop) (o : Int32 × (Nat → Int32)) (hG : F_X9_lost dv fu fp fr fa z1 = some o) : Met l yX9_lost (.code yX9_lost cX9_lost 3 (some .int) :: wA) ({ frames := 6, cells := 0, slots := 0, locals := 131 }) (va_Pc [.ref (a 0), .int z1] (q_W (dC, dI) A [((a 0), .inr (9, [.ref (a 1), .ref (a 3), .ref (a 4), .ref (a 7), .ref (a 10), .ref (a 14), .ref (a 16), .ref (a 18), .ref (a 19), .ref (a 21), .ref (a 23), .ref (a 25), .ref (a 27), .ref (a 28), .int hi])), ((a 18), .inr (3, [.ref (a 14), .ref (a 16)])), ((a 14), .inr (0, [.ref (a 15), .ref (a 7)])), ((a 15), .inl ((k 15), 98, .inl fr)), ((a 7), .inr (5, [.ref (a 8), .ref (a 9), .int dv])), ((a 8), .inl ((k 8), 8, .inl fu)), ((a 9), .inl ((k 9), 48, .inl fp)), ((a 16), .inr (0, [.ref (a 17), .ref (a 7)])), ((a 17), .inl ((k 17), 98, .inl fa))] [((k 15), .int), ((k 8), .int), ((k 9), .int), ((k 17), .int)])) (va_Qi (fun (r : Int32) (_ : Unit) => r = o.1 ∧ True) (fun (_ : Unit) t => q_B (dC, dI) A [((a 0), .inr (9, [.ref (a 1), .ref (a 3), .ref (a 4), .ref (a 7), .ref (a 10), .ref (a 14), .ref (a 16), .ref (a 18), .ref (a 19), .ref (a 21), .ref (a 23), .ref (a 25), .ref (a 27), .ref (a 28), .int hi])), ((a 18), .inr (3, [.ref (a 14), .ref (a 16)])), ((a 14), .inr (0, [.ref (a 15), .ref (a 7)])), ((a 15), .inl ((k 15), 98, .inl fr)), ((a 7), .inr (5, [.ref (a 8), .ref (a 9), .int dv])), ((a 8), .inl ((k 8), 8, .inl fu)), ((a 9), .inl ((k 9), 48, .inl fp)), ((a 16), .inr (0, [.ref (a 17), .ref (a 7)])), ((a 17), .inl ((k 17), 98, .inl (o.2)))] [((k 15), .int), ((k 8), .int), ((k 9), .int), ((k 17), .int)] t) A) 0 0 A := by
  refine Met.ofW (cc := cX9_lost) (maxL := 3) (ret := (some .int)) (by decide) rfl ?_
  intro p e s m args below meth c s₁ B hml hv
  obtain ⟨rfl, hP, hK, hD, hA⟩ := hv
  have hx := B.exec
  have hb := B.bytes
  have hr := B.returns
  have hts := atoms_spec (ws := .code yX9_lost cX9_lost 3 (some .int) :: wA) B.pre
  have hown : s.vm.findClass RX9 = some m.cls := findClass_of_methodNamed B.named
  have hlocks := B.notSynchronized
  have hS : va_S A s.heap s.heap [] := va_S.rf
  have hl := lv_entry ([.ref (a 0), .int z1]) (n := 3) (Nat.le_of_ble_eq_true rfl)
  rw [lg_entry_eq]
  generalize (lg_sl ([.ref (a 0), .int z1]) ++ List.replicate (3 - (lg_sl ([.ref (a 0), .int z1])).length) Slot.unset).toArray = ls at hl ⊢
  have hl : lv_has ls 3 [(0, .ref (a 0)), (1, .int z1)] := hl
  unfold F_X9_lost at hG
  refine lv_aload_n hx hb dX9_lost_0 rfl (lv_at hl 0 rfl) ?_
  refine va_get (D := (dC, dI)) (ci := 9) (v := .ref (a 7)) (C := RX9) (T := TX9) (N := 15) hx hb hts iA_9 hown hK hP 0 rfl rfl 3 (by decide) (hts (.fieldLink RX9 32 "HubTree" "plan" "LHubTree$Plan;") (List.mem_cons_of_mem _ m_26)) (fun _ h9 => h9) rfl dX9_lost_1 ?_
  refine lv_iload_n hx hb dX9_lost_4 rfl (lv_at hl 1 rfl) ?_
  obtain ⟨o_1, r_2, hG⟩ := q_bi hG
  refine q_goi (v := o_1) (va_runV (As := [.int z1]) (rest := []) ⟨hx, hb, hml, hown, hts⟩ (c_X5_has l dC dI (a 7) (a 8) (a 9) dv z1 o_1 r_2) (cwV 1 hts (q_gV m_464 m_465 m_466 m_24 m_467) rfl rfl rfl hdV_yX5_has_1 ⟨Nat.le_of_ble_eq_true rfl, Nat.le_of_ble_eq_true rfl⟩) (q_preV hK hP (q := (RX5, TX5, 3)) (ci := 5) (q0 := 4) rfl rfl [4] rfl [] rfl) rfl rfl hl.1 rfl (lv_room (Nat.le_of_ble_eq_true rfl)) dX9_lost_5 ⟨Nat.le_of_ble_eq_true rfl, Nat.le_of_ble_eq_true rfl⟩) hP hS (fun H locs hP hS => ?_)
  refine lv_if_eq (tgt := 31) hx hb dX9_lost_8 (by decide) (fun c_3 => ?_) (fun c_3 => ?_)
  · have hG := q_ifp c_3 hG
    refine lv_iconst (v := 0) hx hb dX9_lost_31 (by decide) ?_
    refine lv_istore_n (lv' := [(2, .int 0), (0, .ref (a 0)), (1, .int z1)]) hx hb dX9_lost_32 rfl hl (by decide) rfl (fun ls hl => ?_)
    refine lv_iload_n hx hb dX9_lost_33 rfl (lv_at hl 0 rfl) ?_
    refine lv_if_eq (tgt := 48) hx hb dX9_lost_34 (by decide) (fun c_4 => ?_) (fun c_4 => ?_)
    rotate_left
    · exact absurd (by decide) c_4
    refine lv_iconst (v := (-1)) hx hb dX9_lost_48 (by decide) ?_
    obtain rfl := Option.some.inj hG
    have hP9 := hP.sub (ws' := [((a 0), .inr (9, [.ref (a 1), .ref (a 3), .ref (a 4), .ref (a 7), .ref (a 10), .ref (a 14), .ref (a 16), .ref (a 18), .ref (a 19), .ref (a 21), .ref (a 23), .ref (a 25), .ref (a 27), .ref (a 28), .int hi])), ((a 18), .inr (3, [.ref (a 14), .ref (a 16)])), ((a 14), .inr (0, [.ref (a 15), .ref (a 7)])), ((a 15), .inl ((k 15), 98, .inl fr)), ((a 7), .inr (5, [.ref (a 8), .ref (a 9), .int dv])), ((a 8), .inl ((k 8), 8, .inl fu)), ((a 9), .inl ((k 9), 48, .inl fp)), ((a 16), .inr (0, [.ref (a 17), .ref (a 7)])), ((a 17), .inl ((k 17), 98, .inl fa))]) [0, 1, 2, 3, 4, 5, 6, 7, 8] rfl
    have hD9 := hD.sub (ws' := [((a 0), .inr (9, [.ref (a 1), .ref (a 3), .ref (a 4), .ref (a 7), .ref (a 10), .ref (a 14), .ref (a 16), .ref (a 18), .ref (a 19), .ref (a 21), .ref (a 23), .ref (a 25), .ref (a 27), .ref (a 28), .int hi])), ((a 18), .inr (3, [.ref (a 14), .ref (a 16)])), ((a 14), .inr (0, [.ref (a 15), .ref (a 7)])), ((a 15), .inl ((k 15), 98, .inl fr)), ((a 7), .inr (5, [.ref (a 8), .ref (a 9), .int dv])), ((a 8), .inl ((k 8), 8, .inl fu)), ((a 9), .inl ((k 9), 48, .inl fp)), ((a 16), .inr (0, [.ref (a 17), .ref (a 7)])), ((a 17), .inl ((k 17), 98, .inl fa))]) [0, 1, 2, 3, 4, 5, 6, 7, 8] (by decide) rfl
    have hK9 := hK.sub (tys' := [((k 15), .int), ((k 8), .int), ((k 9), .int), ((k 17), .int)]) [0, 1, 2, 3] rfl
    exact W.iret (v := (-1)) hx hb hr (fun t ht hW => ⟨⟨(-1), (), rfl, ⟨rfl, trivial⟩, by rw [ht]; exact hP9, va_K.moved hW.alike hK9, hD9⟩, hS.F ht⟩) hS.2.2 dX9_lost_49
  · have hG := q_ifn c_3 hG
    refine lv_aload_n hx hb dX9_lost_11 rfl (lv_at hl 0 rfl) ?_
    refine va_get (D := (dC, dI)) (ci := 9) (v := .ref (a 14)) (C := RX9) (T := TX9) (N := 15) hx hb hts iA_9 hown hK hP 0 rfl rfl 5 (by decide) (hts (.fieldLink RX9 47 "HubTree" "now" "LHubTree$Bus;") (List.mem_cons_of_mem _ m_34)) (fun _ h9 => h9) rfl dX9_lost_12 ?_
    refine va_get (D := (dC, dI)) (ci := 0) (v := .ref (a 15)) (C := RX0) (T := TX0) (N := 2) hx hb hts iA_0 hown hK hP 2 rfl rfl 0 (by decide) (hts (.fieldLink RX9 157 "HubTree$Bus" "row" "[I") (List.mem_cons_of_mem _ m_462)) (fun _ h9 => h9) rfl dX9_lost_15 ?_
    refine lv_bipush (v := 72) hx hb dX9_lost_18 (by decide) ?_
    refine lv_iload_n hx hb dX9_lost_20 rfl (lv_at hl 1 rfl) ?_
    refine lv_iadd hx hb dX9_lost_21 ?_
    obtain ⟨h_5, hG⟩ := q_ix hG
    refine va_iald hx hb hK hP 3 0 rfl rfl (i := (72 + z1)) h_5 dX9_lost_22 ?_
    refine q_top (y := (fr (72 + z1).toNatClampNeg)) rfl ?_
    refine lv_iconst (v := 1) hx hb dX9_lost_23 (by decide) ?_
    refine lv_icmp_ne (tgt := 31) hx hb dX9_lost_24 (by decide) (fun c_6 => ?_) (fun c_6 => ?_)
    · have hG := q_ifn c_6 hG
      refine lv_iconst (v := 0) hx hb dX9_lost_31 (by decide) ?_
      refine lv_istore_n (lv' := [(2, .int 0), (0, .ref (a 0)), (1, .int z1)]) hx hb dX9_lost_32 rfl hl (by decide) rfl (fun ls hl => ?_)
      refine lv_iload_n hx hb dX9_lost_33 rfl (lv_at hl 0 rfl) ?_
      refine lv_if_eq (tgt := 48) hx hb dX9_lost_34 (by decide) (fun c_7 => ?_) (fun c_7 => ?_)
      rotate_left
      · exact absurd (by decide) c_7
      refine lv_iconst (v := (-1)) hx hb dX9_lost_48 (by decide) ?_
      obtain rfl := Option.some.inj hG
      have hP9 := hP.sub (ws' := [((a 0), .inr (9, [.ref (a 1), .ref (a 3), .ref (a 4), .ref (a 7), .ref (a 10), .ref (a 14), .ref (a 16), .ref (a 18), .ref (a 19), .ref (a 21), .ref (a 23), .ref (a 25), .ref (a 27), .ref (a 28), .int hi])), ((a 18), .inr (3, [.ref (a 14), .ref (a 16)])), ((a 14), .inr (0, [.ref (a 15), .ref (a 7)])), ((a 15), .inl ((k 15), 98, .inl fr)), ((a 7), .inr (5, [.ref (a 8), .ref (a 9), .int dv])), ((a 8), .inl ((k 8), 8, .inl fu)), ((a 9), .inl ((k 9), 48, .inl fp)), ((a 16), .inr (0, [.ref (a 17), .ref (a 7)])), ((a 17), .inl ((k 17), 98, .inl fa))]) [0, 1, 2, 3, 4, 5, 6, 7, 8] rfl
      have hD9 := hD.sub (ws' := [((a 0), .inr (9, [.ref (a 1), .ref (a 3), .ref (a 4), .ref (a 7), .ref (a 10), .ref (a 14), .ref (a 16), .ref (a 18), .ref (a 19), .ref (a 21), .ref (a 23), .ref (a 25), .ref (a 27), .ref (a 28), .int hi])), ((a 18), .inr (3, [.ref (a 14), .ref (a 16)])), ((a 14), .inr (0, [.ref (a 15), .ref (a 7)])), ((a 15), .inl ((k 15), 98, .inl fr)), ((a 7), .inr (5, [.ref (a 8), .ref (a 9), .int dv])), ((a 8), .inl ((k 8), 8, .inl fu)), ((a 9), .inl ((k 9), 48, .inl fp)), ((a 16), .inr (0, [.ref (a 17), .ref (a 7)])), ((a 17), .inl ((k 17), 98, .inl fa))]) [0, 1, 2, 3, 4, 5, 6, 7, 8] (by decide) rfl
      have hK9 := hK.sub (tys' := [((k 15), .int), ((k 8), .int), ((k 9), .int), ((k 17), .int)]) [0, 1, 2, 3] rfl
      exact W.iret (v := (-1)) hx hb hr (fun t ht hW => ⟨⟨(-1), (), rfl, ⟨rfl, trivial⟩, by rw [ht]; exact hP9, va_K.moved hW.alike hK9, hD9⟩, hS.F ht⟩) hS.2.2 dX9_lost_49
    · have hG := q_ifp c_6 hG
      refine lv_iconst (v := 1) hx hb dX9_lost_27 (by decide) ?_
      refine lv_goto (tgt := 32) hx hb dX9_lost_28 (by decide) ?_
      refine lv_istore_n (lv' := [(2, .int 1), (0, .ref (a 0)), (1, .int z1)]) hx hb dX9_lost_32 rfl hl (by decide) rfl (fun ls hl => ?_)
      refine lv_iload_n hx hb dX9_lost_33 rfl (lv_at hl 0 rfl) ?_
      refine lv_if_eq (tgt := 48) hx hb dX9_lost_34 (by decide) (fun c_8 => ?_) (fun c_8 => ?_)
      · exact absurd c_8 (by decide)
      refine lv_aload_n hx hb dX9_lost_37 rfl (lv_at hl 1 rfl) ?_
      refine va_get (D := (dC, dI)) (ci := 9) (v := .ref (a 18)) (C := RX9) (T := TX9) (N := 15) hx hb hts iA_9 hown hK hP 0 rfl rfl 7 (by decide) (hts (.fieldLink RX9 59 "HubTree" "foresight" "LHubTree$Foresight;") (List.mem_cons_of_mem _ m_39)) (fun _ h9 => h9) rfl dX9_lost_38 ?_
      refine lv_iload_n hx hb dX9_lost_41 rfl (lv_at hl 2 rfl) ?_
      obtain ⟨o_9, r_10, hG⟩ := q_bi hG
      refine q_goi2 (v := o_9.1) (wr := [((a 0), .inr (9, [.ref (a 1), .ref (a 3), .ref (a 4), .ref (a 7), .ref (a 10), .ref (a 14), .ref (a 16), .ref (a 18), .ref (a 19), .ref (a 21), .ref (a 23), .ref (a 25), .ref (a 27), .ref (a 28), .int hi]))]) (va_runV (As := [.int z1]) (rest := []) ⟨hx, hb, hml, hown, hts⟩ (c_X3_lostWithout l dC dI (a 18) (a 16) (a 17) (k 17) fa (a 14) (a 15) (a 7) (a 8) (a 9) dv (k 15) fr (k 8) (k 9) fu fp z1 (va_A [((a 18), .inr (3, [.ref (a 14), .ref (a 16)])), ((a 16), .inr (0, [.ref (a 17), .ref (a 7)])), ((a 17), .inl ((k 17), 98, .inl fa)), ((a 14), .inr (0, [.ref (a 15), .ref (a 7)])), ((a 15), .inl ((k 15), 98, .inl fr)), ((a 7), .inr (5, [.ref (a 8), .ref (a 9), .int dv])), ((a 8), .inl ((k 8), 8, .inl fu)), ((a 9), .inl ((k 9), 48, .inl fp))] H.size) o_9 r_10) (cwV 1 hts (q_gV m_1274 m_1275 m_1276 m_38 m_1277) rfl rfl rfl hdV_yX3_lostWithout_1 ⟨Nat.le_of_ble_eq_true rfl, Nat.le_of_ble_eq_true rfl⟩) (q_preWV hK hP hD (q := (RX3, TX3, 2)) (ci := 3) (q0 := 1) rfl rfl [1, 7, 8, 2, 3, 4, 5, 6] (by decide) rfl rfl [3, 0, 1, 2] rfl) rfl rfl hl.1 rfl (lv_room (Nat.le_of_ble_eq_true rfl)) dX9_lost_42 ⟨Nat.le_of_ble_eq_true rfl, Nat.le_of_ble_eq_true rfl⟩) hK hP hD hS hA [1, 7, 8, 2, 3, 4, 5, 6] [0] rfl rfl (by decide) (by decide) (fun _ H locs _ hP hD hK9 hS => ?_)
      have hP : va_P (dC, dI) vwCl [((a 0), .inr (9, [.ref (a 1), .ref (a 3), .ref (a 4), .ref (a 7), .ref (a 10), .ref (a 14), .ref (a 16), .ref (a 18), .ref (a 19), .ref (a 21), .ref (a 23), .ref (a 25), .ref (a 27), .ref (a 28), .int hi])), ((a 18), .inr (3, [.ref (a 14), .ref (a 16)])), ((a 14), .inr (0, [.ref (a 15), .ref (a 7)])), ((a 15), .inl ((k 15), 98, .inl fr)), ((a 7), .inr (5, [.ref (a 8), .ref (a 9), .int dv])), ((a 8), .inl ((k 8), 8, .inl fu)), ((a 9), .inl ((k 9), 48, .inl fp)), ((a 16), .inr (0, [.ref (a 17), .ref (a 7)])), ((a 17), .inl ((k 17), 98, .inl (o_9.2)))] H := hP.sub [0, 1, 4, 5, 6, 7, 8, 2, 3] rfl
      have hD : va_D A [((a 0), .inr (9, [.ref (a 1), .ref (a 3), .ref (a 4), .ref (a 7), .ref (a 10), .ref (a 14), .ref (a 16), .ref (a 18), .ref (a 19), .ref (a 21), .ref (a 23), .ref (a 25), .ref (a 27), .ref (a 28), .int hi])), ((a 18), .inr (3, [.ref (a 14), .ref (a 16)])), ((a 14), .inr (0, [.ref (a 15), .ref (a 7)])), ((a 15), .inl ((k 15), 98, .inl fr)), ((a 7), .inr (5, [.ref (a 8), .ref (a 9), .int dv])), ((a 8), .inl ((k 8), 8, .inl fu)), ((a 9), .inl ((k 9), 48, .inl fp)), ((a 16), .inr (0, [.ref (a 17), .ref (a 7)])), ((a 17), .inl ((k 17), 98, .inl (o_9.2)))] := hD.sub [0, 1, 4, 5, 6, 7, 8, 2, 3] (by decide) rfl
      refine lv_goto (tgt := 49) hx hb dX9_lost_45 (by decide) ?_
      obtain rfl := Option.some.inj hG
      have hP9 := hP.sub (ws' := [((a 0), .inr (9, [.ref (a 1), .ref (a 3), .ref (a 4), .ref (a 7), .ref (a 10), .ref (a 14), .ref (a 16), .ref (a 18), .ref (a 19), .ref (a 21), .ref (a 23), .ref (a 25), .ref (a 27), .ref (a 28), .int hi])), ((a 18), .inr (3, [.ref (a 14), .ref (a 16)])), ((a 14), .inr (0, [.ref (a 15), .ref (a 7)])), ((a 15), .inl ((k 15), 98, .inl fr)), ((a 7), .inr (5, [.ref (a 8), .ref (a 9), .int dv])), ((a 8), .inl ((k 8), 8, .inl fu)), ((a 9), .inl ((k 9), 48, .inl fp)), ((a 16), .inr (0, [.ref (a 17), .ref (a 7)])), ((a 17), .inl ((k 17), 98, .inl (o_9.2)))]) [0, 1, 2, 3, 4, 5, 6, 7, 8] rfl
      have hD9 := hD.sub (ws' := [((a 0), .inr (9, [.ref (a 1), .ref (a 3), .ref (a 4), .ref (a 7), .ref (a 10), .ref (a 14), .ref (a 16), .ref (a 18), .ref (a 19), .ref (a 21), .ref (a 23), .ref (a 25), .ref (a 27), .ref (a 28), .int hi])), ((a 18), .inr (3, [.ref (a 14), .ref (a 16)])), ((a 14), .inr (0, [.ref (a 15), .ref (a 7)])), ((a 15), .inl ((k 15), 98, .inl fr)), ((a 7), .inr (5, [.ref (a 8), .ref (a 9), .int dv])), ((a 8), .inl ((k 8), 8, .inl fu)), ((a 9), .inl ((k 9), 48, .inl fp)), ((a 16), .inr (0, [.ref (a 17), .ref (a 7)])), ((a 17), .inl ((k 17), 98, .inl (o_9.2)))]) [0, 1, 2, 3, 4, 5, 6, 7, 8] (by decide) rfl
      have hK9 := hK.sub (tys' := [((k 15), .int), ((k 8), .int), ((k 9), .int), ((k 17), .int)]) [0, 1, 2, 3] rfl
      exact W.iret (v := o_9.1) hx hb hr (fun t ht hW => ⟨⟨o_9.1, (), rfl, ⟨rfl, trivial⟩, by rw [ht]; exact hP9, va_K.moved hW.alike hK9, hD9⟩, hS.F ht⟩) hS.2.2 dX9_lost_49

def FL_X9_shares_42 (dv : Int32) (fu : Nat → Int32) (fp : Nat → Int32) (fr : Nat → Int32) (z1 : Int32) (z2 : Int32) : Nat → Int32 → Int32 → Option (Int32)
  | 0, _, _ => none
  | n + 1, x3_42, x4_42 => (if dv ≤ x4_42 then (if x3_42 = 0 then some (0) else (if (32 + z1) < 0 ∨ 48 ≤ ((32 + z1)).toNatClampNeg then none else (if ¬ x3_42 = 0 then some (((z2 * (fp (32 + z1).toNatClampNeg)) / x3_42)) else none))) else ((F_X0_is fr dv fu fp x4_42 6).bind fun o_13 => (if o_13 = 0 then (FL_X9_shares_42 dv fu fp fr z1 z2 n (x3_42 + 0) (x4_42 + 1)) else (if (32 + x4_42) < 0 ∨ 48 ≤ ((32 + x4_42)).toNatClampNeg then none else (FL_X9_shares_42 dv fu fp fr z1 z2 n (x3_42 + (fp (32 + x4_42).toNatClampNeg)) (x4_42 + 1))))))

def F_X9_shares (dv : Int32) (fu : Nat → Int32) (fp : Nat → Int32) (fr : Nat → Int32) (z1 : Int32) (z2 : Int32) : Option (Int32) := ((F_X5_has dv z1).bind fun o_1 => (if o_1 = 0 then some ((-1)) else ((F_X0_is fr dv fu fp z1 6).bind fun o_4 => (if o_4 = 0 then some ((-1)) else (if z2 < 0 then some ((-1)) else (if z2 ≤ 999 then (FL_X9_shares_42 dv fu fp fr z1 z2 1000 0 0) else some ((-1))))))))
set_option maxHeartbeats 4000000 in
set_option maxRecDepth 100000 in
theorem c_X9_shares (l : Launch) (dC : Nat → ClassId) (dI : Nat → Nat → Nat) (a : Nat → Nat) (k : Nat → ClassId) (dv : Int32) (hi : Int32) (fu : Nat → Int32) (fp : Nat → Int32) (fr : Nat → Int32) (z1 : Int32) (z2 : Int32) (o : Int32) (hG : F_X9_shares dv fu fp fr z1 z2 = some o) : Met l yX9_shares (.code yX9_shares cX9_shares 5 (some .int) :: wA) ({ frames := 1, cells := 0, slots := 0, locals := 22 }) (va_Pc [.ref (a 0), .int z1, .int z2] (q_R (dC, dI) [((a 0), .inr (9, [.ref (a 1), .ref (a 3), .ref (a 4), .ref (a 7), .ref (a 10), .ref (a 14), .ref (a 16), .ref (a 18), .ref (a 19), .ref (a 21), .ref (a 23), .ref (a 25), .ref (a 27), .ref (a 28), .int hi])), ((a 14), .inr (0, [.ref (a 15), .ref (a 7)])), ((a 15), .inl ((k 15), 98, .inl fr)), ((a 7), .inr (5, [.ref (a 8), .ref (a 9), .int dv])), ((a 8), .inl ((k 8), 8, .inl fu)), ((a 9), .inl ((k 9), 48, .inl fp))] [((k 15), .int), ((k 8), .int), ((k 9), .int)])) (q_i o) 0 0 (fun _ => False) := by
  refine Met.ofW (cc := cX9_shares) (maxL := 5) (ret := (some .int)) (by decide) rfl ?_
  intro p e s m args below meth c s₁ B hml hv
  obtain ⟨rfl, hP, hK⟩ := hv
  have hx := B.exec
  have hb := B.bytes
  have hr := B.returns
  have hts := atoms_spec (ws := .code yX9_shares cX9_shares 5 (some .int) :: wA) B.pre
  have hown : s.vm.findClass RX9 = some m.cls := findClass_of_methodNamed B.named
  have hlocks := B.notSynchronized
  have hS : va_S (fun _ => False) s.heap s.heap [] := va_S.rf
  have hl := lv_entry ([.ref (a 0), .int z1, .int z2]) (n := 5) (Nat.le_of_ble_eq_true rfl)
  rw [lg_entry_eq]
  generalize (lg_sl ([.ref (a 0), .int z1, .int z2]) ++ List.replicate (5 - (lg_sl ([.ref (a 0), .int z1, .int z2])).length) Slot.unset).toArray = ls at hl ⊢
  have hl : lv_has ls 5 [(0, .ref (a 0)), (1, .int z1), (2, .int z2)] := hl
  unfold F_X9_shares at hG
  refine lv_aload_n hx hb dX9_shares_0 rfl (lv_at hl 0 rfl) ?_
  refine va_get (D := (dC, dI)) (ci := 9) (v := .ref (a 7)) (C := RX9) (T := TX9) (N := 15) hx hb hts iA_9 hown hK hP 0 rfl rfl 3 (by decide) (hts (.fieldLink RX9 32 "HubTree" "plan" "LHubTree$Plan;") (List.mem_cons_of_mem _ m_26)) (fun _ h9 => h9) rfl dX9_shares_1 ?_
  refine lv_iload_n hx hb dX9_shares_4 rfl (lv_at hl 1 rfl) ?_
  obtain ⟨o_1, r_2, hG⟩ := q_bi hG
  refine q_goi (v := o_1) (va_runV (As := [.int z1]) (rest := []) ⟨hx, hb, hml, hown, hts⟩ (c_X5_has l dC dI (a 7) (a 8) (a 9) dv z1 o_1 r_2) (cwV 1 hts (q_gV m_464 m_465 m_466 m_24 m_467) rfl rfl rfl hdV_yX5_has_1 ⟨Nat.le_of_ble_eq_true rfl, Nat.le_of_ble_eq_true rfl⟩) (q_preV hK hP (q := (RX5, TX5, 3)) (ci := 5) (q0 := 3) rfl rfl [3] rfl [] rfl) rfl rfl hl.1 rfl (lv_room (Nat.le_of_ble_eq_true rfl)) dX9_shares_5 ⟨Nat.le_of_ble_eq_true rfl, Nat.le_of_ble_eq_true rfl⟩) hP hS (fun H locs hP hS => ?_)
  refine lv_if_eq (tgt := 35) hx hb dX9_shares_8 (by decide) (fun c_3 => ?_) (fun c_3 => ?_)
  · have hG := q_ifp c_3 hG
    refine lv_iconst (v := (-1)) hx hb dX9_shares_35 (by decide) ?_
    obtain rfl := Option.some.inj hG
    exact W.iret (v := (-1)) hx hb hr (fun t ht hW => ⟨⟨(-1), (), rfl, rfl, trivial⟩, hS.F ht⟩) hS.2.2 dX9_shares_36
  · have hG := q_ifn c_3 hG
    refine lv_aload_n hx hb dX9_shares_11 rfl (lv_at hl 0 rfl) ?_
    refine va_get (D := (dC, dI)) (ci := 9) (v := .ref (a 14)) (C := RX9) (T := TX9) (N := 15) hx hb hts iA_9 hown hK hP 0 rfl rfl 5 (by decide) (hts (.fieldLink RX9 47 "HubTree" "now" "LHubTree$Bus;") (List.mem_cons_of_mem _ m_34)) (fun _ h9 => h9) rfl dX9_shares_12 ?_
    refine lv_iload_n hx hb dX9_shares_15 rfl (lv_at hl 1 rfl) ?_
    refine lv_bipush (v := 6) hx hb dX9_shares_16 (by decide) ?_
    obtain ⟨o_4, r_5, hG⟩ := q_bi hG
    refine q_goi (v := o_4) (va_runV (As := [.int z1, .int 6]) (rest := []) ⟨hx, hb, hml, hown, hts⟩ (c_X0_is l dC dI (a 14) (a 15) (a 7) (a 8) (a 9) dv (k 15) fr (k 8) (k 9) fu fp z1 6 o_4 r_5) (cwV 2 hts (q_gV m_582 m_583 m_584 m_33 m_585) rfl rfl rfl hdV_yX0_is_2 ⟨Nat.le_of_ble_eq_true rfl, Nat.le_of_ble_eq_true rfl⟩) (q_preV hK hP (q := (RX0, TX0, 2)) (ci := 0) (q0 := 1) rfl rfl [1, 2, 3, 4, 5] rfl [0, 1, 2] rfl) rfl rfl hl.1 rfl (lv_room (Nat.le_of_ble_eq_true rfl)) dX9_shares_18 ⟨Nat.le_of_ble_eq_true rfl, Nat.le_of_ble_eq_true rfl⟩) hP hS (fun H locs hP hS => ?_)
    refine lv_if_eq (tgt := 35) hx hb dX9_shares_21 (by decide) (fun c_6 => ?_) (fun c_6 => ?_)
    · have hG := q_ifp c_6 hG
      refine lv_iconst (v := (-1)) hx hb dX9_shares_35 (by decide) ?_
      obtain rfl := Option.some.inj hG
      exact W.iret (v := (-1)) hx hb hr (fun t ht hW => ⟨⟨(-1), (), rfl, rfl, trivial⟩, hS.F ht⟩) hS.2.2 dX9_shares_36
    · have hG := q_ifn c_6 hG
      refine lv_iload_n hx hb dX9_shares_24 rfl (lv_at hl 2 rfl) ?_
      refine lv_if_lt (tgt := 35) hx hb dX9_shares_25 (by decide) (fun c_7 => ?_) (fun c_7 => ?_)
      · have hG := q_ifp c_7 hG
        refine lv_iconst (v := (-1)) hx hb dX9_shares_35 (by decide) ?_
        obtain rfl := Option.some.inj hG
        exact W.iret (v := (-1)) hx hb hr (fun t ht hW => ⟨⟨(-1), (), rfl, rfl, trivial⟩, hS.F ht⟩) hS.2.2 dX9_shares_36
      · have hG := q_ifn c_7 hG
        refine lv_iload_n hx hb dX9_shares_28 rfl (lv_at hl 2 rfl) ?_
        refine lv_sipush (v := 999) hx hb dX9_shares_29 (by decide) ?_
        refine lv_icmp_le (tgt := 37) hx hb dX9_shares_32 (by decide) (fun c_8 => ?_) (fun c_8 => ?_)
        · have hG := q_ifp c_8 hG
          refine lv_iconst (v := 0) hx hb dX9_shares_37 (by decide) ?_
          refine lv_istore_n (lv' := [(3, .int 0), (0, .ref (a 0)), (1, .int z1), (2, .int z2)]) hx hb dX9_shares_38 rfl hl (by decide) rfl (fun ls hl => ?_)
          refine lv_iconst (v := 0) hx hb dX9_shares_39 (by decide) ?_
          refine lv_istore (lv' := [(4, .int 0), (3, .int 0), (0, .ref (a 0)), (1, .int z1), (2, .int z2)]) hx hb dX9_shares_40 hl (by decide) rfl (fun ls hl => ?_)
          have L_42 : ∀ (n_42 : Nat) (x3_42 : Int32) (x4_42 : Int32) (H : Heap) (locs : List Loc) (ls : Array Slot), FL_X9_shares_42 dv fu fp fr z1 z2 n_42 x3_42 x4_42 = some o → va_P (dC, dI) vwCl [((a 0), .inr (9, [.ref (a 1), .ref (a 3), .ref (a 4), .ref (a 7), .ref (a 10), .ref (a 14), .ref (a 16), .ref (a 18), .ref (a 19), .ref (a 21), .ref (a 23), .ref (a 25), .ref (a 27), .ref (a 28), .int hi])), ((a 14), .inr (0, [.ref (a 15), .ref (a 7)])), ((a 15), .inl ((k 15), 98, .inl fr)), ((a 7), .inr (5, [.ref (a 8), .ref (a 9), .int dv])), ((a 8), .inl ((k 8), 8, .inl fu)), ((a 9), .inl ((k 9), 48, .inl fp))] H → va_S (fun _ => False) s.heap H locs → lv_has ls 5 [(4, .int x4_42), (3, .int x3_42), (0, .ref (a 0)), (1, .int z1), (2, .int z2)] → W p l e (headSpec (.code yX9_shares cX9_shares 5 (some .int) :: wA) ({ frames := 1, cells := 0, slots := 0, locals := 22 })).room s m #[.ref (a 0), .int z1, .int z2] below meth c H locs 0 0 (MQ below (q_i o) #[.ref (a 0), .int z1, .int z2] s 0 0 (fun _ => False)) (F0 m 42 ls []) := by
            intro n_42
            induction n_42 with
            | zero =>
              intro x3_42 x4_42 H locs ls hG
              exact q_no hG
            | succ n_42 ih_42 =>
              intro x3_42 x4_42 H locs ls hG hP hS hl
              unfold FL_X9_shares_42 at hG
              refine lv_iload hx hb dX9_shares_42 (lv_at hl 0 rfl) ?_
              refine lv_aload_n hx hb dX9_shares_44 rfl (lv_at hl 2 rfl) ?_
              refine va_get (D := (dC, dI)) (ci := 9) (v := .ref (a 7)) (C := RX9) (T := TX9) (N := 15) hx hb hts iA_9 hown hK hP 0 rfl rfl 3 (by decide) (hts (.fieldLink RX9 32 "HubTree" "plan" "LHubTree$Plan;") (List.mem_cons_of_mem _ m_26)) (fun _ h9 => h9) rfl dX9_shares_45 ?_
              refine va_get (D := (dC, dI)) (ci := 5) (v := .int dv) (C := RX5) (T := TX5) (N := 3) hx hb hts iA_5 hown hK hP 3 rfl rfl 2 (by decide) (hts (.fieldLink RX9 137 "HubTree$Plan" "devices" "I") (List.mem_cons_of_mem _ m_390)) (fun _ h9 => h9) rfl dX9_shares_48 ?_
              refine lv_icmp_ge (tgt := 94) hx hb dX9_shares_51 (by decide) (fun c_9 => ?_) (fun c_9 => ?_)
              · have hG := q_ifp c_9 hG
                refine lv_iload_n hx hb dX9_shares_94 rfl (lv_at hl 1 rfl) ?_
                refine lv_if_ne (tgt := 102) hx hb dX9_shares_95 (by decide) (fun c_10 => ?_) (fun c_10 => ?_)
                · have hG := q_ifn c_10 hG
                  refine lv_iload_n hx hb dX9_shares_102 rfl (lv_at hl 4 rfl) ?_
                  refine lv_aload_n hx hb dX9_shares_103 rfl (lv_at hl 2 rfl) ?_
                  refine va_get (D := (dC, dI)) (ci := 9) (v := .ref (a 7)) (C := RX9) (T := TX9) (N := 15) hx hb hts iA_9 hown hK hP 0 rfl rfl 3 (by decide) (hts (.fieldLink RX9 32 "HubTree" "plan" "LHubTree$Plan;") (List.mem_cons_of_mem _ m_26)) (fun _ h9 => h9) rfl dX9_shares_104 ?_
                  refine va_get (D := (dC, dI)) (ci := 5) (v := .ref (a 9)) (C := RX5) (T := TX5) (N := 3) hx hb hts iA_5 hown hK hP 3 rfl rfl 1 (by decide) (hts (.fieldLink RX9 160 "HubTree$Plan" "row" "[I") (List.mem_cons_of_mem _ m_463)) (fun _ h9 => h9) rfl dX9_shares_107 ?_
                  refine lv_bipush (v := 32) hx hb dX9_shares_110 (by decide) ?_
                  refine lv_iload_n hx hb dX9_shares_112 rfl (lv_at hl 3 rfl) ?_
                  refine lv_iadd hx hb dX9_shares_113 ?_
                  obtain ⟨h_11, hG⟩ := q_ix hG
                  refine va_iald hx hb hK hP 5 2 rfl rfl (i := (32 + z1)) h_11 dX9_shares_114 ?_
                  refine q_top (y := (fp (32 + z1).toNatClampNeg)) rfl ?_
                  refine lv_imul hx hb dX9_shares_115 ?_
                  refine lv_iload_n hx hb dX9_shares_116 rfl (lv_at hl 1 rfl) ?_
                  obtain ⟨g_12, hG⟩ := q_gu hG
                  refine lv_idiv hx hb dX9_shares_117 g_12 ?_
                  obtain rfl := Option.some.inj hG
                  exact W.iret (v := ((z2 * (fp (32 + z1).toNatClampNeg)) / x3_42)) hx hb hr (fun t ht hW => ⟨⟨((z2 * (fp (32 + z1).toNatClampNeg)) / x3_42), (), rfl, rfl, trivial⟩, hS.F ht⟩) hS.2.2 dX9_shares_118
                · have hG := q_ifp c_10 hG
                  refine lv_iconst (v := 0) hx hb dX9_shares_98 (by decide) ?_
                  refine lv_goto (tgt := 118) hx hb dX9_shares_99 (by decide) ?_
                  obtain rfl := Option.some.inj hG
                  exact W.iret (v := 0) hx hb hr (fun t ht hW => ⟨⟨0, (), rfl, rfl, trivial⟩, hS.F ht⟩) hS.2.2 dX9_shares_118
              · have hG := q_ifn c_9 hG
                refine lv_iload_n hx hb dX9_shares_54 rfl (lv_at hl 1 rfl) ?_
                refine lv_aload_n hx hb dX9_shares_55 rfl (lv_at hl 2 rfl) ?_
                refine va_get (D := (dC, dI)) (ci := 9) (v := .ref (a 14)) (C := RX9) (T := TX9) (N := 15) hx hb hts iA_9 hown hK hP 0 rfl rfl 5 (by decide) (hts (.fieldLink RX9 47 "HubTree" "now" "LHubTree$Bus;") (List.mem_cons_of_mem _ m_34)) (fun _ h9 => h9) rfl dX9_shares_56 ?_
                refine lv_iload hx hb dX9_shares_59 (lv_at hl 0 rfl) ?_
                refine lv_bipush (v := 6) hx hb dX9_shares_61 (by decide) ?_
                obtain ⟨o_13, r_14, hG⟩ := q_bi hG
                refine q_goi (v := o_13) (va_runV (As := [.int x4_42, .int 6]) (rest := [.int x3_42]) ⟨hx, hb, hml, hown, hts⟩ (c_X0_is l dC dI (a 14) (a 15) (a 7) (a 8) (a 9) dv (k 15) fr (k 8) (k 9) fu fp x4_42 6 o_13 r_14) (cwV 2 hts (q_gV m_582 m_583 m_584 m_33 m_585) rfl rfl rfl hdV_yX0_is_2 ⟨Nat.le_of_ble_eq_true rfl, Nat.le_of_ble_eq_true rfl⟩) (q_preV hK hP (q := (RX0, TX0, 2)) (ci := 0) (q0 := 1) rfl rfl [1, 2, 3, 4, 5] rfl [0, 1, 2] rfl) rfl rfl hl.1 rfl (lv_room (Nat.le_of_ble_eq_true rfl)) dX9_shares_63 ⟨Nat.le_of_ble_eq_true rfl, Nat.le_of_ble_eq_true rfl⟩) hP hS (fun H locs hP hS => ?_)
                refine lv_if_eq (tgt := 85) hx hb dX9_shares_66 (by decide) (fun c_15 => ?_) (fun c_15 => ?_)
                · have hG := q_ifp c_15 hG
                  refine lv_iconst (v := 0) hx hb dX9_shares_85 (by decide) ?_
                  refine lv_iadd hx hb dX9_shares_86 ?_
                  refine lv_istore_n (lv' := [(3, .int (x3_42 + 0)), (4, .int x4_42), (0, .ref (a 0)), (1, .int z1), (2, .int z2)]) hx hb dX9_shares_87 rfl hl (by decide) rfl (fun ls hl => ?_)
                  refine lv_iinc (v := (x4_42 + 1)) (lv' := [(4, .int (x4_42 + 1)), (3, .int (x3_42 + 0)), (0, .ref (a 0)), (1, .int z1), (2, .int z2)]) hx hb dX9_shares_88 hl (k := 1) rfl (rfl) (by decide) rfl (fun ls hl => ?_)
                  refine lv_goto (tgt := 42) hx hb dX9_shares_91 (by decide) ?_
                  exact ih_42 (x3_42 + 0) (x4_42 + 1) H locs ls hG hP hS (lv_sub hl [0, 1, 2, 3, 4] rfl)
                · have hG := q_ifn c_15 hG
                  refine lv_aload_n hx hb dX9_shares_69 rfl (lv_at hl 2 rfl) ?_
                  refine va_get (D := (dC, dI)) (ci := 9) (v := .ref (a 7)) (C := RX9) (T := TX9) (N := 15) hx hb hts iA_9 hown hK hP 0 rfl rfl 3 (by decide) (hts (.fieldLink RX9 32 "HubTree" "plan" "LHubTree$Plan;") (List.mem_cons_of_mem _ m_26)) (fun _ h9 => h9) rfl dX9_shares_70 ?_
                  refine va_get (D := (dC, dI)) (ci := 5) (v := .ref (a 9)) (C := RX5) (T := TX5) (N := 3) hx hb hts iA_5 hown hK hP 3 rfl rfl 1 (by decide) (hts (.fieldLink RX9 160 "HubTree$Plan" "row" "[I") (List.mem_cons_of_mem _ m_463)) (fun _ h9 => h9) rfl dX9_shares_73 ?_
                  refine lv_bipush (v := 32) hx hb dX9_shares_76 (by decide) ?_
                  refine lv_iload hx hb dX9_shares_78 (lv_at hl 0 rfl) ?_
                  refine lv_iadd hx hb dX9_shares_80 ?_
                  obtain ⟨h_16, hG⟩ := q_ix hG
                  refine va_iald hx hb hK hP 5 2 rfl rfl (i := (32 + x4_42)) h_16 dX9_shares_81 ?_
                  refine q_top (y := (fp (32 + x4_42).toNatClampNeg)) rfl ?_
                  refine lv_goto (tgt := 86) hx hb dX9_shares_82 (by decide) ?_
                  refine lv_iadd hx hb dX9_shares_86 ?_
                  refine lv_istore_n (lv' := [(3, .int (x3_42 + (fp (32 + x4_42).toNatClampNeg))), (4, .int x4_42), (0, .ref (a 0)), (1, .int z1), (2, .int z2)]) hx hb dX9_shares_87 rfl hl (by decide) rfl (fun ls hl => ?_)
                  refine lv_iinc (v := (x4_42 + 1)) (lv' := [(4, .int (x4_42 + 1)), (3, .int (x3_42 + (fp (32 + x4_42).toNatClampNeg))), (0, .ref (a 0)), (1, .int z1), (2, .int z2)]) hx hb dX9_shares_88 hl (k := 1) rfl (rfl) (by decide) rfl (fun ls hl => ?_)
                  refine lv_goto (tgt := 42) hx hb dX9_shares_91 (by decide) ?_
                  exact ih_42 (x3_42 + (fp (32 + x4_42).toNatClampNeg)) (x4_42 + 1) H locs ls hG hP hS (lv_sub hl [0, 1, 2, 3, 4] rfl)
          exact L_42 1000 0 0 H locs ls hG hP hS hl
        · have hG := q_ifn c_8 hG
          refine lv_iconst (v := (-1)) hx hb dX9_shares_35 (by decide) ?_
          obtain rfl := Option.some.inj hG
          exact W.iret (v := (-1)) hx hb hr (fun t ht hW => ⟨⟨(-1), (), rfl, rfl, trivial⟩, hS.F ht⟩) hS.2.2 dX9_shares_36

def F_X9_step (sh : Int32) (f1 : Nat → Int32) (f2 : Nat → Int32) (z1 : Int32) (z2 : Int32) (z3 : Int32) : Option (Int32) := ((F_X7_has sh z1).bind fun o_1 => (if o_1 = 0 then some ((-1000000)) else (if z2 < 0 then some ((-1000000)) else (if z1 < 0 ∨ 4 ≤ (z1).toNatClampNeg then none else (if (f2 (z1).toNatClampNeg) ≤ z2 then some ((-1000000)) else (if z3 < 0 then some ((-1000000)) else (if z3 < 4 then ((F_X7_read f1 z1 z2 z3).bind fun o_9 => some (o_9)) else some ((-1000000)))))))))
set_option maxHeartbeats 4000000 in
set_option maxRecDepth 100000 in
theorem c_X9_step (l : Launch) (dC : Nat → ClassId) (dI : Nat → Nat → Nat) (a : Nat → Nat) (k : Nat → ClassId) (ds : Int32) (sh : Int32) (hi : Int32) (f1 : Nat → Int32) (f2 : Nat → Int32) (f3 : Nat → Int32) (z1 : Int32) (z2 : Int32) (z3 : Int32) (o : Int32) (hG : F_X9_step sh f1 f2 z1 z2 z3 = some o) : Met l yX9_step (.code yX9_step cX9_step 4 (some .int) :: wA) ({ frames := 1, cells := 0, slots := 0, locals := 23 }) (va_Pc [.ref (a 0), .int z1, .int z2, .int z3] (q_R (dC, dI) [((a 0), .inr (9, [.ref (a 1), .ref (a 3), .ref (a 4), .ref (a 7), .ref (a 10), .ref (a 14), .ref (a 16), .ref (a 18), .ref (a 19), .ref (a 21), .ref (a 23), .ref (a 25), .ref (a 27), .ref (a 28), .int hi])), ((a 10), .inr (7, [.ref (a 11), .ref (a 12), .ref (a 13), .int ds, .int sh])), ((a 11), .inl ((k 11), 256, .inl f1)), ((a 12), .inl ((k 12), 4, .inl f2)), ((a 13), .inl ((k 13), 64, .inl f3))] [((k 11), .int), ((k 12), .int), ((k 13), .int)])) (q_i o) 0 0 (fun _ => False) := by
  refine Met.ofW (cc := cX9_step) (maxL := 4) (ret := (some .int)) (by decide) rfl ?_
  intro p e s m args below meth c s₁ B hml hv
  obtain ⟨rfl, hP, hK⟩ := hv
  have hx := B.exec
  have hb := B.bytes
  have hr := B.returns
  have hts := atoms_spec (ws := .code yX9_step cX9_step 4 (some .int) :: wA) B.pre
  have hown : s.vm.findClass RX9 = some m.cls := findClass_of_methodNamed B.named
  have hlocks := B.notSynchronized
  have hS : va_S (fun _ => False) s.heap s.heap [] := va_S.rf
  have hl := lv_entry ([.ref (a 0), .int z1, .int z2, .int z3]) (n := 4) (Nat.le_of_ble_eq_true rfl)
  rw [lg_entry_eq]
  generalize (lg_sl ([.ref (a 0), .int z1, .int z2, .int z3]) ++ List.replicate (4 - (lg_sl ([.ref (a 0), .int z1, .int z2, .int z3])).length) Slot.unset).toArray = ls at hl ⊢
  have hl : lv_has ls 4 [(0, .ref (a 0)), (1, .int z1), (2, .int z2), (3, .int z3)] := hl
  unfold F_X9_step at hG
  refine lv_aload_n hx hb dX9_step_0 rfl (lv_at hl 0 rfl) ?_
  refine va_get (D := (dC, dI)) (ci := 9) (v := .ref (a 10)) (C := RX9) (T := TX9) (N := 15) hx hb hts iA_9 hown hK hP 0 rfl rfl 4 (by decide) (hts (.fieldLink RX9 38 "HubTree" "scripts" "LHubTree$Scripts;") (List.mem_cons_of_mem _ m_30)) (fun _ h9 => h9) rfl dX9_step_1 ?_
  refine lv_iload_n hx hb dX9_step_4 rfl (lv_at hl 1 rfl) ?_
  obtain ⟨o_1, r_2, hG⟩ := q_bi hG
  refine q_goi (v := o_1) (va_runV (As := [.int z1]) (rest := []) ⟨hx, hb, hml, hown, hts⟩ (c_X7_has l dC dI (a 10) (a 11) (a 12) (a 13) ds sh z1 o_1 r_2) (cwV 1 hts (q_gV m_1296 m_1297 m_1298 m_29 m_1299) rfl rfl rfl hdV_yX7_has_1 ⟨Nat.le_of_ble_eq_true rfl, Nat.le_of_ble_eq_true rfl⟩) (q_preV hK hP (q := (RX7, TX7, 5)) (ci := 7) (q0 := 1) rfl rfl [1] rfl [] rfl) rfl rfl hl.1 rfl (lv_room (Nat.le_of_ble_eq_true rfl)) dX9_step_5 ⟨Nat.le_of_ble_eq_true rfl, Nat.le_of_ble_eq_true rfl⟩) hP hS (fun H locs hP hS => ?_)
  refine lv_if_eq (tgt := 37) hx hb dX9_step_8 (by decide) (fun c_3 => ?_) (fun c_3 => ?_)
  · have hG := q_ifp c_3 hG
    refine lv_ldc (v := (-1000000)) hx hb hown (hts (.constant RX9 185 (-1000000)) (List.mem_cons_of_mem _ m_556)) dX9_step_37 ?_
    obtain rfl := Option.some.inj hG
    exact W.iret (v := (-1000000)) hx hb hr (fun t ht hW => ⟨⟨(-1000000), (), rfl, rfl, trivial⟩, hS.F ht⟩) hS.2.2 dX9_step_39
  · have hG := q_ifn c_3 hG
    refine lv_iload_n hx hb dX9_step_11 rfl (lv_at hl 2 rfl) ?_
    refine lv_if_lt (tgt := 37) hx hb dX9_step_12 (by decide) (fun c_4 => ?_) (fun c_4 => ?_)
    · have hG := q_ifp c_4 hG
      refine lv_ldc (v := (-1000000)) hx hb hown (hts (.constant RX9 185 (-1000000)) (List.mem_cons_of_mem _ m_556)) dX9_step_37 ?_
      obtain rfl := Option.some.inj hG
      exact W.iret (v := (-1000000)) hx hb hr (fun t ht hW => ⟨⟨(-1000000), (), rfl, rfl, trivial⟩, hS.F ht⟩) hS.2.2 dX9_step_39
    · have hG := q_ifn c_4 hG
      refine lv_iload_n hx hb dX9_step_15 rfl (lv_at hl 2 rfl) ?_
      refine lv_aload_n hx hb dX9_step_16 rfl (lv_at hl 0 rfl) ?_
      refine va_get (D := (dC, dI)) (ci := 9) (v := .ref (a 10)) (C := RX9) (T := TX9) (N := 15) hx hb hts iA_9 hown hK hP 0 rfl rfl 4 (by decide) (hts (.fieldLink RX9 38 "HubTree" "scripts" "LHubTree$Scripts;") (List.mem_cons_of_mem _ m_30)) (fun _ h9 => h9) rfl dX9_step_17 ?_
      refine va_get (D := (dC, dI)) (ci := 7) (v := .ref (a 12)) (C := RX7) (T := TX7) (N := 5) hx hb hts iA_7 hown hK hP 1 rfl rfl 1 (by decide) (hts (.fieldLink RX9 280 "HubTree$Scripts" "steps" "[I") (List.mem_cons_of_mem _ m_1295)) (fun _ h9 => h9) rfl dX9_step_20 ?_
      refine lv_iload_n hx hb dX9_step_23 rfl (lv_at hl 1 rfl) ?_
      obtain ⟨h_5, hG⟩ := q_ix hG
      refine va_iald hx hb hK hP 3 1 rfl rfl (i := z1) h_5 dX9_step_24 ?_
      refine q_top (y := (f2 (z1).toNatClampNeg)) rfl ?_
      refine lv_icmp_ge (tgt := 37) hx hb dX9_step_25 (by decide) (fun c_6 => ?_) (fun c_6 => ?_)
      · have hG := q_ifp c_6 hG
        refine lv_ldc (v := (-1000000)) hx hb hown (hts (.constant RX9 185 (-1000000)) (List.mem_cons_of_mem _ m_556)) dX9_step_37 ?_
        obtain rfl := Option.some.inj hG
        exact W.iret (v := (-1000000)) hx hb hr (fun t ht hW => ⟨⟨(-1000000), (), rfl, rfl, trivial⟩, hS.F ht⟩) hS.2.2 dX9_step_39
      · have hG := q_ifn c_6 hG
        refine lv_iload_n hx hb dX9_step_28 rfl (lv_at hl 3 rfl) ?_
        refine lv_if_lt (tgt := 37) hx hb dX9_step_29 (by decide) (fun c_7 => ?_) (fun c_7 => ?_)
        · have hG := q_ifp c_7 hG
          refine lv_ldc (v := (-1000000)) hx hb hown (hts (.constant RX9 185 (-1000000)) (List.mem_cons_of_mem _ m_556)) dX9_step_37 ?_
          obtain rfl := Option.some.inj hG
          exact W.iret (v := (-1000000)) hx hb hr (fun t ht hW => ⟨⟨(-1000000), (), rfl, rfl, trivial⟩, hS.F ht⟩) hS.2.2 dX9_step_39
        · have hG := q_ifn c_7 hG
          refine lv_iload_n hx hb dX9_step_32 rfl (lv_at hl 3 rfl) ?_
          refine lv_iconst (v := 4) hx hb dX9_step_33 (by decide) ?_
          refine lv_icmp_lt (tgt := 40) hx hb dX9_step_34 (by decide) (fun c_8 => ?_) (fun c_8 => ?_)
          · have hG := q_ifp c_8 hG
            refine lv_aload_n hx hb dX9_step_40 rfl (lv_at hl 0 rfl) ?_
            refine va_get (D := (dC, dI)) (ci := 9) (v := .ref (a 10)) (C := RX9) (T := TX9) (N := 15) hx hb hts iA_9 hown hK hP 0 rfl rfl 4 (by decide) (hts (.fieldLink RX9 38 "HubTree" "scripts" "LHubTree$Scripts;") (List.mem_cons_of_mem _ m_30)) (fun _ h9 => h9) rfl dX9_step_41 ?_
            refine lv_iload_n hx hb dX9_step_44 rfl (lv_at hl 1 rfl) ?_
            refine lv_iload_n hx hb dX9_step_45 rfl (lv_at hl 2 rfl) ?_
            refine lv_iload_n hx hb dX9_step_46 rfl (lv_at hl 3 rfl) ?_
            obtain ⟨o_9, r_10, hG⟩ := q_bi hG
            refine q_goi (v := o_9) (va_runV (As := [.int z1, .int z2, .int z3]) (rest := []) ⟨hx, hb, hml, hown, hts⟩ (c_X7_read l dC dI (a 10) (a 11) (a 12) (a 13) (k 11) (k 12) (k 13) f1 f2 f3 ds sh z1 z2 z3 o_9 r_10) (cwV 3 hts (q_gV m_1300 m_1301 m_1302 m_29 m_1303) rfl rfl rfl hdV_yX7_read_3 ⟨Nat.le_of_ble_eq_true rfl, Nat.le_of_ble_eq_true rfl⟩) (q_preV hK hP (q := (RX7, TX7, 5)) (ci := 7) (q0 := 1) rfl rfl [1, 2, 3, 4] rfl [0, 1, 2] rfl) rfl rfl hl.1 rfl (lv_room (Nat.le_of_ble_eq_true rfl)) dX9_step_47 ⟨Nat.le_of_ble_eq_true rfl, Nat.le_of_ble_eq_true rfl⟩) hP hS (fun H locs hP hS => ?_)
            obtain rfl := Option.some.inj hG
            exact W.iret (v := o_9) hx hb hr (fun t ht hW => ⟨⟨o_9, (), rfl, rfl, trivial⟩, hS.F ht⟩) hS.2.2 dX9_step_50
          · have hG := q_ifn c_8 hG
            refine lv_ldc (v := (-1000000)) hx hb hown (hts (.constant RX9 185 (-1000000)) (List.mem_cons_of_mem _ m_556)) dX9_step_37 ?_
            obtain rfl := Option.some.inj hG
            exact W.iret (v := (-1000000)) hx hb hr (fun t ht hW => ⟨⟨(-1000000), (), rfl, rfl, trivial⟩, hS.F ht⟩) hS.2.2 dX9_step_39
