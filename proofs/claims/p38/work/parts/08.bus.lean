theorem dX0_conclude_0 : decode cX0_conclude 0 = .ok (.iload_n 2, 1) := q_o28 (by decide +kernel)
theorem dX0_conclude_1 : decode cX0_conclude 1 = .ok (.ifCond .eq 10, 3) := q_o153 (a := 0) (b := 10) (by decide +kernel) rfl
theorem dX0_conclude_4 : decode cX0_conclude 4 = .ok (.aload_n 0, 1) := q_o42 (by decide +kernel)
theorem dX0_conclude_5 : decode cX0_conclude 5 = .ok (.iload_n 1, 1) := q_o27 (by decide +kernel)
theorem dX0_conclude_6 : decode cX0_conclude 6 = .ok (.iload_n 2, 1) := q_o28 (by decide +kernel)
theorem dX0_conclude_7 : decode cX0_conclude 7 = .ok (.invokevirtual 186, 3) := q_o182 (a := 0) (b := 186) (by decide +kernel)
theorem dX0_conclude_10 : decode cX0_conclude 10 = .ok (.return_, 1) := q_o177 (by decide +kernel)
theorem dX0_conclude_11 : decode cX0_conclude 11 = .ok (.aload_n 0, 1) := q_o42 (by decide +kernel)
theorem dX0_conclude_12 : decode cX0_conclude 12 = .ok (.iload_n 1, 1) := q_o27 (by decide +kernel)
theorem dX0_conclude_13 : decode cX0_conclude 13 = .ok (.bipush 6, 2) := q_o16 (a := 6) (by decide +kernel) rfl
theorem dX0_conclude_15 : decode cX0_conclude 15 = .ok (.invokevirtual 179, 3) := q_o182 (a := 0) (b := 179) (by decide +kernel)
theorem dX0_conclude_18 : decode cX0_conclude 18 = .ok (.aload_n 0, 1) := q_o42 (by decide +kernel)
theorem dX0_conclude_19 : decode cX0_conclude 19 = .ok (.getfield 11, 3) := q_o180 (a := 0) (b := 11) (by decide +kernel)
theorem dX0_conclude_22 : decode cX0_conclude 22 = .ok (.bipush 56, 2) := q_o16 (a := 56) (by decide +kernel) rfl
theorem dX0_conclude_24 : decode cX0_conclude 24 = .ok (.iload_n 1, 1) := q_o27 (by decide +kernel)
theorem dX0_conclude_25 : decode cX0_conclude 25 = .ok (.iadd, 1) := q_o96 (by decide +kernel)
theorem dX0_conclude_26 : decode cX0_conclude 26 = .ok (.aload_n 0, 1) := q_o42 (by decide +kernel)
theorem dX0_conclude_27 : decode cX0_conclude 27 = .ok (.invokevirtual 213, 3) := q_o182 (a := 0) (b := 213) (by decide +kernel)
theorem dX0_conclude_30 : decode cX0_conclude 30 = .ok (.iastore, 1) := q_o79 (by decide +kernel)
theorem dX0_conclude_31 : decode cX0_conclude 31 = .ok (.aload_n 0, 1) := q_o42 (by decide +kernel)
theorem dX0_conclude_32 : decode cX0_conclude 32 = .ok (.getfield 11, 3) := q_o180 (a := 0) (b := 11) (by decide +kernel)
theorem dX0_conclude_35 : decode cX0_conclude 35 = .ok (.bipush 48, 2) := q_o16 (a := 48) (by decide +kernel) rfl
theorem dX0_conclude_37 : decode cX0_conclude 37 = .ok (.iload_n 1, 1) := q_o27 (by decide +kernel)
theorem dX0_conclude_38 : decode cX0_conclude 38 = .ok (.iadd, 1) := q_o96 (by decide +kernel)
theorem dX0_conclude_39 : decode cX0_conclude 39 = .ok (.aload_n 0, 1) := q_o42 (by decide +kernel)
theorem dX0_conclude_40 : decode cX0_conclude 40 = .ok (.iload_n 1, 1) := q_o27 (by decide +kernel)
theorem dX0_conclude_41 : decode cX0_conclude 41 = .ok (.invokevirtual 129, 3) := q_o182 (a := 0) (b := 129) (by decide +kernel)
theorem dX0_conclude_44 : decode cX0_conclude 44 = .ok (.iastore, 1) := q_o79 (by decide +kernel)
theorem dX0_conclude_45 : decode cX0_conclude 45 = .ok (.return_, 1) := q_o177 (by decide +kernel)
theorem dX0_fail_0 : decode cX0_fail 0 = .ok (.aload_n 0, 1) := q_o42 (by decide +kernel)
theorem dX0_fail_1 : decode cX0_fail 1 = .ok (.getfield 11, 3) := q_o180 (a := 0) (b := 11) (by decide +kernel)
theorem dX0_fail_4 : decode cX0_fail 4 = .ok (.bipush 24, 2) := q_o16 (a := 24) (by decide +kernel) rfl
theorem dX0_fail_6 : decode cX0_fail 6 = .ok (.iload_n 1, 1) := q_o27 (by decide +kernel)
theorem dX0_fail_7 : decode cX0_fail 7 = .ok (.iadd, 1) := q_o96 (by decide +kernel)
theorem dX0_fail_8 : decode cX0_fail 8 = .ok (.dup2, 1) := by decide +kernel
theorem dX0_fail_9 : decode cX0_fail 9 = .ok (.iaload, 1) := q_o46 (by decide +kernel)
theorem dX0_fail_10 : decode cX0_fail 10 = .ok (.iconst 1, 1) := q_o4 (by decide +kernel)
theorem dX0_fail_11 : decode cX0_fail 11 = .ok (.iadd, 1) := q_o96 (by decide +kernel)
theorem dX0_fail_12 : decode cX0_fail 12 = .ok (.iastore, 1) := q_o79 (by decide +kernel)
theorem dX0_fail_13 : decode cX0_fail 13 = .ok (.aload_n 0, 1) := q_o42 (by decide +kernel)
theorem dX0_fail_14 : decode cX0_fail 14 = .ok (.getfield 11, 3) := q_o180 (a := 0) (b := 11) (by decide +kernel)
theorem dX0_fail_17 : decode cX0_fail 17 = .ok (.bipush 24, 2) := q_o16 (a := 24) (by decide +kernel) rfl
theorem dX0_fail_19 : decode cX0_fail 19 = .ok (.iload_n 1, 1) := q_o27 (by decide +kernel)
theorem dX0_fail_20 : decode cX0_fail 20 = .ok (.iadd, 1) := q_o96 (by decide +kernel)
theorem dX0_fail_21 : decode cX0_fail 21 = .ok (.iaload, 1) := q_o46 (by decide +kernel)
theorem dX0_fail_22 : decode cX0_fail 22 = .ok (.aload_n 0, 1) := q_o42 (by decide +kernel)
theorem dX0_fail_23 : decode cX0_fail 23 = .ok (.getfield 15, 3) := q_o180 (a := 0) (b := 15) (by decide +kernel)
theorem dX0_fail_26 : decode cX0_fail 26 = .ok (.getfield 84, 3) := q_o180 (a := 0) (b := 84) (by decide +kernel)
theorem dX0_fail_29 : decode cX0_fail 29 = .ok (.iconst 3, 1) := q_o6 (by decide +kernel)
theorem dX0_fail_30 : decode cX0_fail 30 = .ok (.iaload, 1) := q_o46 (by decide +kernel)
theorem dX0_fail_31 : decode cX0_fail 31 = .ok (.if_icmp .lt 12, 3) := q_o161 (a := 0) (b := 12) (by decide +kernel) rfl
theorem dX0_fail_34 : decode cX0_fail 34 = .ok (.aload_n 0, 1) := q_o42 (by decide +kernel)
theorem dX0_fail_35 : decode cX0_fail 35 = .ok (.iload_n 1, 1) := q_o27 (by decide +kernel)
theorem dX0_fail_36 : decode cX0_fail 36 = .ok (.iconst 1, 1) := q_o4 (by decide +kernel)
theorem dX0_fail_37 : decode cX0_fail 37 = .ok (.invokevirtual 186, 3) := q_o182 (a := 0) (b := 186) (by decide +kernel)
theorem dX0_fail_40 : decode cX0_fail 40 = .ok (.goto 8, 3) := q_o167 (a := 0) (b := 8) (by decide +kernel) rfl
theorem dX0_fail_43 : decode cX0_fail 43 = .ok (.aload_n 0, 1) := q_o42 (by decide +kernel)
theorem dX0_fail_44 : decode cX0_fail 44 = .ok (.iload_n 1, 1) := q_o27 (by decide +kernel)
theorem dX0_fail_45 : decode cX0_fail 45 = .ok (.invokevirtual 192, 3) := q_o182 (a := 0) (b := 192) (by decide +kernel)
theorem dX0_fail_48 : decode cX0_fail 48 = .ok (.return_, 1) := q_o177 (by decide +kernel)
theorem dX0_leave_0 : decode cX0_leave 0 = .ok (.aload_n 0, 1) := q_o42 (by decide +kernel)
theorem dX0_leave_1 : decode cX0_leave 1 = .ok (.iload_n 1, 1) := q_o27 (by decide +kernel)
theorem dX0_leave_2 : decode cX0_leave 2 = .ok (.iconst 0, 1) := q_o3 (by decide +kernel)
theorem dX0_leave_3 : decode cX0_leave 3 = .ok (.invokevirtual 179, 3) := q_o182 (a := 0) (b := 179) (by decide +kernel)
theorem dX0_leave_6 : decode cX0_leave 6 = .ok (.aload_n 0, 1) := q_o42 (by decide +kernel)
theorem dX0_leave_7 : decode cX0_leave 7 = .ok (.getfield 11, 3) := q_o180 (a := 0) (b := 11) (by decide +kernel)
theorem dX0_leave_10 : decode cX0_leave 10 = .ok (.bipush 32, 2) := q_o16 (a := 32) (by decide +kernel) rfl
theorem dX0_leave_12 : decode cX0_leave 12 = .ok (.iload_n 1, 1) := q_o27 (by decide +kernel)
theorem dX0_leave_13 : decode cX0_leave 13 = .ok (.iadd, 1) := q_o96 (by decide +kernel)
theorem dX0_leave_14 : decode cX0_leave 14 = .ok (.iconst (-1), 1) := q_o2 (by decide +kernel)
theorem dX0_leave_15 : decode cX0_leave 15 = .ok (.iastore, 1) := q_o79 (by decide +kernel)
theorem dX0_leave_16 : decode cX0_leave 16 = .ok (.aload_n 0, 1) := q_o42 (by decide +kernel)
theorem dX0_leave_17 : decode cX0_leave 17 = .ok (.getfield 11, 3) := q_o180 (a := 0) (b := 11) (by decide +kernel)
theorem dX0_leave_20 : decode cX0_leave 20 = .ok (.bipush 40, 2) := q_o16 (a := 40) (by decide +kernel) rfl
theorem dX0_leave_22 : decode cX0_leave 22 = .ok (.iload_n 1, 1) := q_o27 (by decide +kernel)
theorem dX0_leave_23 : decode cX0_leave 23 = .ok (.iadd, 1) := q_o96 (by decide +kernel)
theorem dX0_leave_24 : decode cX0_leave 24 = .ok (.iconst (-1), 1) := q_o2 (by decide +kernel)
theorem dX0_leave_25 : decode cX0_leave 25 = .ok (.iastore, 1) := q_o79 (by decide +kernel)
theorem dX0_leave_26 : decode cX0_leave 26 = .ok (.return_, 1) := q_o177 (by decide +kernel)
theorem dX0_lower_0 : decode cX0_lower 0 = .ok (.aload_n 0, 1) := q_o42 (by decide +kernel)
theorem dX0_lower_1 : decode cX0_lower 1 = .ok (.getfield 11, 3) := q_o180 (a := 0) (b := 11) (by decide +kernel)
theorem dX0_lower_4 : decode cX0_lower 4 = .ok (.iconst 0, 1) := q_o3 (by decide +kernel)
theorem dX0_lower_5 : decode cX0_lower 5 = .ok (.iload_n 1, 1) := q_o27 (by decide +kernel)
theorem dX0_lower_6 : decode cX0_lower 6 = .ok (.iadd, 1) := q_o96 (by decide +kernel)
theorem dX0_lower_7 : decode cX0_lower 7 = .ok (.iload_n 2, 1) := q_o28 (by decide +kernel)
theorem dX0_lower_8 : decode cX0_lower 8 = .ok (.iastore, 1) := q_o79 (by decide +kernel)
theorem dX0_lower_9 : decode cX0_lower 9 = .ok (.aload_n 0, 1) := q_o42 (by decide +kernel)
theorem dX0_lower_10 : decode cX0_lower 10 = .ok (.getfield 11, 3) := q_o180 (a := 0) (b := 11) (by decide +kernel)
theorem dX0_lower_13 : decode cX0_lower 13 = .ok (.bipush 8, 2) := q_o16 (a := 8) (by decide +kernel) rfl
theorem dX0_lower_15 : decode cX0_lower 15 = .ok (.iload_n 1, 1) := q_o27 (by decide +kernel)
theorem dX0_lower_16 : decode cX0_lower 16 = .ok (.iadd, 1) := q_o96 (by decide +kernel)
theorem dX0_lower_17 : decode cX0_lower 17 = .ok (.iconst 0, 1) := q_o3 (by decide +kernel)
theorem dX0_lower_18 : decode cX0_lower 18 = .ok (.iastore, 1) := q_o79 (by decide +kernel)
theorem dX0_lower_19 : decode cX0_lower 19 = .ok (.aload_n 0, 1) := q_o42 (by decide +kernel)
theorem dX0_lower_20 : decode cX0_lower 20 = .ok (.getfield 11, 3) := q_o180 (a := 0) (b := 11) (by decide +kernel)
theorem dX0_lower_23 : decode cX0_lower 23 = .ok (.bipush 16, 2) := q_o16 (a := 16) (by decide +kernel) rfl
theorem dX0_lower_25 : decode cX0_lower 25 = .ok (.iload_n 1, 1) := q_o27 (by decide +kernel)
theorem dX0_lower_26 : decode cX0_lower 26 = .ok (.iadd, 1) := q_o96 (by decide +kernel)
theorem dX0_lower_27 : decode cX0_lower 27 = .ok (.iconst 0, 1) := q_o3 (by decide +kernel)
theorem dX0_lower_28 : decode cX0_lower 28 = .ok (.iastore, 1) := q_o79 (by decide +kernel)
theorem dX0_lower_29 : decode cX0_lower 29 = .ok (.aload_n 0, 1) := q_o42 (by decide +kernel)
theorem dX0_lower_30 : decode cX0_lower 30 = .ok (.getfield 11, 3) := q_o180 (a := 0) (b := 11) (by decide +kernel)
theorem dX0_lower_33 : decode cX0_lower 33 = .ok (.bipush 48, 2) := q_o16 (a := 48) (by decide +kernel) rfl
theorem dX0_lower_35 : decode cX0_lower 35 = .ok (.iload_n 1, 1) := q_o27 (by decide +kernel)
theorem dX0_lower_36 : decode cX0_lower 36 = .ok (.iadd, 1) := q_o96 (by decide +kernel)
theorem dX0_lower_37 : decode cX0_lower 37 = .ok (.iconst (-1), 1) := q_o2 (by decide +kernel)
theorem dX0_lower_38 : decode cX0_lower 38 = .ok (.iastore, 1) := q_o79 (by decide +kernel)
theorem dX0_lower_39 : decode cX0_lower 39 = .ok (.aload_n 0, 1) := q_o42 (by decide +kernel)
theorem dX0_lower_40 : decode cX0_lower 40 = .ok (.getfield 11, 3) := q_o180 (a := 0) (b := 11) (by decide +kernel)
theorem dX0_lower_43 : decode cX0_lower 43 = .ok (.bipush 56, 2) := q_o16 (a := 56) (by decide +kernel) rfl
theorem dX0_lower_45 : decode cX0_lower 45 = .ok (.iload_n 1, 1) := q_o27 (by decide +kernel)
theorem dX0_lower_46 : decode cX0_lower 46 = .ok (.iadd, 1) := q_o96 (by decide +kernel)
theorem dX0_lower_47 : decode cX0_lower 47 = .ok (.iconst 0, 1) := q_o3 (by decide +kernel)
theorem dX0_lower_48 : decode cX0_lower 48 = .ok (.iastore, 1) := q_o79 (by decide +kernel)
theorem dX0_lower_49 : decode cX0_lower 49 = .ok (.aload_n 0, 1) := q_o42 (by decide +kernel)
theorem dX0_lower_50 : decode cX0_lower 50 = .ok (.getfield 11, 3) := q_o180 (a := 0) (b := 11) (by decide +kernel)
theorem dX0_lower_53 : decode cX0_lower 53 = .ok (.bipush 64, 2) := q_o16 (a := 64) (by decide +kernel) rfl
theorem dX0_lower_55 : decode cX0_lower 55 = .ok (.iload_n 1, 1) := q_o27 (by decide +kernel)
theorem dX0_lower_56 : decode cX0_lower 56 = .ok (.iadd, 1) := q_o96 (by decide +kernel)
theorem dX0_lower_57 : decode cX0_lower 57 = .ok (.iconst 0, 1) := q_o3 (by decide +kernel)
theorem dX0_lower_58 : decode cX0_lower 58 = .ok (.iastore, 1) := q_o79 (by decide +kernel)
theorem dX0_lower_59 : decode cX0_lower 59 = .ok (.aload_n 0, 1) := q_o42 (by decide +kernel)
theorem dX0_lower_60 : decode cX0_lower 60 = .ok (.getfield 11, 3) := q_o180 (a := 0) (b := 11) (by decide +kernel)
theorem dX0_lower_63 : decode cX0_lower 63 = .ok (.bipush 88, 2) := q_o16 (a := 88) (by decide +kernel) rfl
theorem dX0_lower_65 : decode cX0_lower 65 = .ok (.iload_n 1, 1) := q_o27 (by decide +kernel)
theorem dX0_lower_66 : decode cX0_lower 66 = .ok (.iadd, 1) := q_o96 (by decide +kernel)
theorem dX0_lower_67 : decode cX0_lower 67 = .ok (.iconst 0, 1) := q_o3 (by decide +kernel)
theorem dX0_lower_68 : decode cX0_lower 68 = .ok (.iastore, 1) := q_o79 (by decide +kernel)
theorem dX0_lower_69 : decode cX0_lower 69 = .ok (.return_, 1) := q_o177 (by decide +kernel)
theorem dX0_passTick_0 : decode cX0_passTick 0 = .ok (.aload_n 0, 1) := q_o42 (by decide +kernel)
theorem dX0_passTick_1 : decode cX0_passTick 1 = .ok (.invokevirtual 195, 3) := q_o182 (a := 0) (b := 195) (by decide +kernel)
theorem dX0_passTick_4 : decode cX0_passTick 4 = .ok (.aload_n 0, 1) := q_o42 (by decide +kernel)
theorem dX0_passTick_5 : decode cX0_passTick 5 = .ok (.invokevirtual 46, 3) := q_o182 (a := 0) (b := 46) (by decide +kernel)
theorem dX0_passTick_8 : decode cX0_passTick 8 = .ok (.istore_n 1, 1) := q_o60 (by decide +kernel)
theorem dX0_passTick_9 : decode cX0_passTick 9 = .ok (.iload_n 1, 1) := q_o27 (by decide +kernel)
theorem dX0_passTick_10 : decode cX0_passTick 10 = .ok (.iconst (-1), 1) := q_o2 (by decide +kernel)
theorem dX0_passTick_11 : decode cX0_passTick 11 = .ok (.if_icmp .eq 51, 3) := q_o159 (a := 0) (b := 51) (by decide +kernel) rfl
theorem dX0_passTick_14 : decode cX0_passTick 14 = .ok (.aload_n 0, 1) := q_o42 (by decide +kernel)
theorem dX0_passTick_15 : decode cX0_passTick 15 = .ok (.getfield 11, 3) := q_o180 (a := 0) (b := 11) (by decide +kernel)
theorem dX0_passTick_18 : decode cX0_passTick 18 = .ok (.iconst 0, 1) := q_o3 (by decide +kernel)
theorem dX0_passTick_19 : decode cX0_passTick 19 = .ok (.iload_n 1, 1) := q_o27 (by decide +kernel)
theorem dX0_passTick_20 : decode cX0_passTick 20 = .ok (.iadd, 1) := q_o96 (by decide +kernel)
theorem dX0_passTick_21 : decode cX0_passTick 21 = .ok (.iaload, 1) := q_o46 (by decide +kernel)
theorem dX0_passTick_22 : decode cX0_passTick 22 = .ok (.iconst 5, 1) := q_o8 (by decide +kernel)
theorem dX0_passTick_23 : decode cX0_passTick 23 = .ok (.if_icmp .ne 7, 3) := q_o160 (a := 0) (b := 7) (by decide +kernel) rfl
theorem dX0_passTick_26 : decode cX0_passTick 26 = .ok (.iconst 1, 1) := q_o4 (by decide +kernel)
theorem dX0_passTick_27 : decode cX0_passTick 27 = .ok (.goto 4, 3) := q_o167 (a := 0) (b := 4) (by decide +kernel) rfl
theorem dX0_passTick_30 : decode cX0_passTick 30 = .ok (.iconst 0, 1) := q_o3 (by decide +kernel)
theorem dX0_passTick_31 : decode cX0_passTick 31 = .ok (.istore_n 2, 1) := q_o61 (by decide +kernel)
theorem dX0_passTick_32 : decode cX0_passTick 32 = .ok (.aload_n 0, 1) := q_o42 (by decide +kernel)
theorem dX0_passTick_33 : decode cX0_passTick 33 = .ok (.iload_n 1, 1) := q_o27 (by decide +kernel)
theorem dX0_passTick_34 : decode cX0_passTick 34 = .ok (.invokevirtual 198, 3) := q_o182 (a := 0) (b := 198) (by decide +kernel)
theorem dX0_passTick_37 : decode cX0_passTick 37 = .ok (.ifCond .ne 11, 3) := q_o154 (a := 0) (b := 11) (by decide +kernel) rfl
theorem dX0_passTick_40 : decode cX0_passTick 40 = .ok (.aload_n 0, 1) := q_o42 (by decide +kernel)
theorem dX0_passTick_41 : decode cX0_passTick 41 = .ok (.iload_n 1, 1) := q_o27 (by decide +kernel)
theorem dX0_passTick_42 : decode cX0_passTick 42 = .ok (.invokevirtual 201, 3) := q_o182 (a := 0) (b := 201) (by decide +kernel)
theorem dX0_passTick_45 : decode cX0_passTick 45 = .ok (.goto 17, 3) := q_o167 (a := 0) (b := 17) (by decide +kernel) rfl
theorem dX0_passTick_48 : decode cX0_passTick 48 = .ok (.iload_n 2, 1) := q_o28 (by decide +kernel)
theorem dX0_passTick_49 : decode cX0_passTick 49 = .ok (.ifCond .eq 13, 3) := q_o153 (a := 0) (b := 13) (by decide +kernel) rfl
theorem dX0_passTick_52 : decode cX0_passTick 52 = .ok (.aload_n 0, 1) := q_o42 (by decide +kernel)
theorem dX0_passTick_53 : decode cX0_passTick 53 = .ok (.iload_n 1, 1) := q_o27 (by decide +kernel)
theorem dX0_passTick_54 : decode cX0_passTick 54 = .ok (.aload_n 0, 1) := q_o42 (by decide +kernel)
theorem dX0_passTick_55 : decode cX0_passTick 55 = .ok (.iload_n 1, 1) := q_o27 (by decide +kernel)
theorem dX0_passTick_56 : decode cX0_passTick 56 = .ok (.invokevirtual 204, 3) := q_o182 (a := 0) (b := 204) (by decide +kernel)
theorem dX0_passTick_59 : decode cX0_passTick 59 = .ok (.invokevirtual 207, 3) := q_o182 (a := 0) (b := 207) (by decide +kernel)
theorem dX0_passTick_62 : decode cX0_passTick 62 = .ok (.aload_n 0, 1) := q_o42 (by decide +kernel)
theorem dX0_passTick_63 : decode cX0_passTick 63 = .ok (.invokevirtual 46, 3) := q_o182 (a := 0) (b := 46) (by decide +kernel)
theorem dX0_passTick_66 : decode cX0_passTick 66 = .ok (.iconst (-1), 1) := q_o2 (by decide +kernel)
theorem dX0_passTick_67 : decode cX0_passTick 67 = .ok (.if_icmp .ne 10, 3) := q_o160 (a := 0) (b := 10) (by decide +kernel) rfl
theorem dX0_passTick_70 : decode cX0_passTick 70 = .ok (.aload_n 0, 1) := q_o42 (by decide +kernel)
theorem dX0_passTick_71 : decode cX0_passTick 71 = .ok (.invokevirtual 50, 3) := q_o182 (a := 0) (b := 50) (by decide +kernel)
theorem dX0_passTick_74 : decode cX0_passTick 74 = .ok (.goto 4, 3) := q_o167 (a := 0) (b := 4) (by decide +kernel) rfl
theorem dX0_passTick_77 : decode cX0_passTick 77 = .ok (.iconst (-1), 1) := q_o2 (by decide +kernel)
theorem dX0_passTick_78 : decode cX0_passTick 78 = .ok (.istore_n 2, 1) := q_o61 (by decide +kernel)
theorem dX0_passTick_79 : decode cX0_passTick 79 = .ok (.iload_n 2, 1) := q_o28 (by decide +kernel)
theorem dX0_passTick_80 : decode cX0_passTick 80 = .ok (.iconst (-1), 1) := q_o2 (by decide +kernel)
theorem dX0_passTick_81 : decode cX0_passTick 81 = .ok (.if_icmp .eq 27, 3) := q_o159 (a := 0) (b := 27) (by decide +kernel) rfl
theorem dX0_passTick_84 : decode cX0_passTick 84 = .ok (.aload_n 0, 1) := q_o42 (by decide +kernel)
theorem dX0_passTick_85 : decode cX0_passTick 85 = .ok (.iload_n 2, 1) := q_o28 (by decide +kernel)
theorem dX0_passTick_86 : decode cX0_passTick 86 = .ok (.iconst 3, 1) := q_o6 (by decide +kernel)
theorem dX0_passTick_87 : decode cX0_passTick 87 = .ok (.invokevirtual 179, 3) := q_o182 (a := 0) (b := 179) (by decide +kernel)
theorem dX0_passTick_90 : decode cX0_passTick 90 = .ok (.aload_n 0, 1) := q_o42 (by decide +kernel)
theorem dX0_passTick_91 : decode cX0_passTick 91 = .ok (.getfield 11, 3) := q_o180 (a := 0) (b := 11) (by decide +kernel)
theorem dX0_passTick_94 : decode cX0_passTick 94 = .ok (.bipush 8, 2) := q_o16 (a := 8) (by decide +kernel) rfl
theorem dX0_passTick_96 : decode cX0_passTick 96 = .ok (.iload_n 2, 1) := q_o28 (by decide +kernel)
theorem dX0_passTick_97 : decode cX0_passTick 97 = .ok (.iadd, 1) := q_o96 (by decide +kernel)
theorem dX0_passTick_98 : decode cX0_passTick 98 = .ok (.aload_n 0, 1) := q_o42 (by decide +kernel)
theorem dX0_passTick_99 : decode cX0_passTick 99 = .ok (.getfield 15, 3) := q_o180 (a := 0) (b := 15) (by decide +kernel)
theorem dX0_passTick_102 : decode cX0_passTick 102 = .ok (.getfield 84, 3) := q_o180 (a := 0) (b := 84) (by decide +kernel)
theorem dX0_passTick_105 : decode cX0_passTick 105 = .ok (.iconst 2, 1) := q_o5 (by decide +kernel)
theorem dX0_passTick_106 : decode cX0_passTick 106 = .ok (.iaload, 1) := q_o46 (by decide +kernel)
theorem dX0_passTick_107 : decode cX0_passTick 107 = .ok (.iastore, 1) := q_o79 (by decide +kernel)
theorem dX0_passTick_108 : decode cX0_passTick 108 = .ok (.aload_n 0, 1) := q_o42 (by decide +kernel)
theorem dX0_passTick_109 : decode cX0_passTick 109 = .ok (.getfield 11, 3) := q_o180 (a := 0) (b := 11) (by decide +kernel)
theorem dX0_passTick_112 : decode cX0_passTick 112 = .ok (.bipush 96, 2) := q_o16 (a := 96) (by decide +kernel) rfl
theorem dX0_passTick_114 : decode cX0_passTick 114 = .ok (.aload_n 0, 1) := q_o42 (by decide +kernel)
theorem dX0_passTick_115 : decode cX0_passTick 115 = .ok (.getfield 11, 3) := q_o180 (a := 0) (b := 11) (by decide +kernel)
theorem dX0_passTick_118 : decode cX0_passTick 118 = .ok (.bipush 96, 2) := q_o16 (a := 96) (by decide +kernel) rfl
theorem dX0_passTick_120 : decode cX0_passTick 120 = .ok (.iaload, 1) := q_o46 (by decide +kernel)
theorem dX0_passTick_121 : decode cX0_passTick 121 = .ok (.iconst 1, 1) := q_o4 (by decide +kernel)
theorem dX0_passTick_122 : decode cX0_passTick 122 = .ok (.iadd, 1) := q_o96 (by decide +kernel)
theorem dX0_passTick_123 : decode cX0_passTick 123 = .ok (.sipush 9999, 3) := q_o17 (a := 39) (b := 15) (by decide +kernel) rfl
theorem dX0_passTick_126 : decode cX0_passTick 126 = .ok (.invokestatic 114, 3) := q_o184 (a := 0) (b := 114) (by decide +kernel)
theorem dX0_passTick_129 : decode cX0_passTick 129 = .ok (.iastore, 1) := q_o79 (by decide +kernel)
theorem dX0_passTick_130 : decode cX0_passTick 130 = .ok (.return_, 1) := q_o177 (by decide +kernel)
theorem dX0_passes_0 : decode cX0_passes 0 = .ok (.aload_n 0, 1) := q_o42 (by decide +kernel)
theorem dX0_passes_1 : decode cX0_passes 1 = .ok (.getfield 11, 3) := q_o180 (a := 0) (b := 11) (by decide +kernel)
theorem dX0_passes_4 : decode cX0_passes 4 = .ok (.iconst 0, 1) := q_o3 (by decide +kernel)
theorem dX0_passes_5 : decode cX0_passes 5 = .ok (.iload_n 1, 1) := q_o27 (by decide +kernel)
theorem dX0_passes_6 : decode cX0_passes 6 = .ok (.iadd, 1) := q_o96 (by decide +kernel)
theorem dX0_passes_7 : decode cX0_passes 7 = .ok (.iaload, 1) := q_o46 (by decide +kernel)
theorem dX0_passes_8 : decode cX0_passes 8 = .ok (.iconst 5, 1) := q_o8 (by decide +kernel)
theorem dX0_passes_9 : decode cX0_passes 9 = .ok (.if_icmp .ne 9, 3) := q_o160 (a := 0) (b := 9) (by decide +kernel) rfl
theorem dX0_passes_12 : decode cX0_passes 12 = .ok (.aload_n 0, 1) := q_o42 (by decide +kernel)
theorem dX0_passes_13 : decode cX0_passes 13 = .ok (.iload_n 1, 1) := q_o27 (by decide +kernel)
theorem dX0_passes_14 : decode cX0_passes 14 = .ok (.invokevirtual 210, 3) := q_o182 (a := 0) (b := 210) (by decide +kernel)
theorem dX0_passes_17 : decode cX0_passes 17 = .ok (.ireturn, 1) := q_o172 (by decide +kernel)
theorem dX0_passes_18 : decode cX0_passes 18 = .ok (.aload_n 0, 1) := q_o42 (by decide +kernel)
theorem dX0_passes_19 : decode cX0_passes 19 = .ok (.getfield 11, 3) := q_o180 (a := 0) (b := 11) (by decide +kernel)
theorem dX0_passes_22 : decode cX0_passes 22 = .ok (.iconst 0, 1) := q_o3 (by decide +kernel)
theorem dX0_passes_23 : decode cX0_passes 23 = .ok (.iload_n 1, 1) := q_o27 (by decide +kernel)
theorem dX0_passes_24 : decode cX0_passes 24 = .ok (.iadd, 1) := q_o96 (by decide +kernel)
theorem dX0_passes_25 : decode cX0_passes 25 = .ok (.iaload, 1) := q_o46 (by decide +kernel)
theorem dX0_passes_26 : decode cX0_passes 26 = .ok (.iconst 4, 1) := q_o7 (by decide +kernel)
theorem dX0_passes_27 : decode cX0_passes 27 = .ok (.if_icmp .ne 47, 3) := q_o160 (a := 0) (b := 47) (by decide +kernel) rfl
theorem dX0_passes_30 : decode cX0_passes 30 = .ok (.aload_n 0, 1) := q_o42 (by decide +kernel)
theorem dX0_passes_31 : decode cX0_passes 31 = .ok (.iload_n 1, 1) := q_o27 (by decide +kernel)
theorem dX0_passes_32 : decode cX0_passes 32 = .ok (.iconst 0, 1) := q_o3 (by decide +kernel)
theorem dX0_passes_33 : decode cX0_passes 33 = .ok (.invokevirtual 144, 3) := q_o182 (a := 0) (b := 144) (by decide +kernel)
theorem dX0_passes_36 : decode cX0_passes 36 = .ok (.istore_n 2, 1) := q_o61 (by decide +kernel)
theorem dX0_passes_37 : decode cX0_passes 37 = .ok (.iload_n 2, 1) := q_o28 (by decide +kernel)
theorem dX0_passes_38 : decode cX0_passes 38 = .ok (.bipush 8, 2) := q_o16 (a := 8) (by decide +kernel) rfl
theorem dX0_passes_40 : decode cX0_passes 40 = .ok (.if_icmp .lt 13, 3) := q_o161 (a := 0) (b := 13) (by decide +kernel) rfl
theorem dX0_passes_43 : decode cX0_passes 43 = .ok (.iload_n 2, 1) := q_o28 (by decide +kernel)
theorem dX0_passes_44 : decode cX0_passes 44 = .ok (.bipush 12, 2) := q_o16 (a := 12) (by decide +kernel) rfl
theorem dX0_passes_46 : decode cX0_passes 46 = .ok (.if_icmp .gt 7, 3) := q_o163 (a := 0) (b := 7) (by decide +kernel) rfl
theorem dX0_passes_49 : decode cX0_passes 49 = .ok (.iconst 1, 1) := q_o4 (by decide +kernel)
theorem dX0_passes_50 : decode cX0_passes 50 = .ok (.goto 4, 3) := q_o167 (a := 0) (b := 4) (by decide +kernel) rfl
theorem dX0_passes_53 : decode cX0_passes 53 = .ok (.iconst 0, 1) := q_o3 (by decide +kernel)
theorem dX0_passes_54 : decode cX0_passes 54 = .ok (.istore_n 3, 1) := q_o62 (by decide +kernel)
theorem dX0_passes_55 : decode cX0_passes 55 = .ok (.aload_n 0, 1) := q_o42 (by decide +kernel)
theorem dX0_passes_56 : decode cX0_passes 56 = .ok (.getfield 11, 3) := q_o180 (a := 0) (b := 11) (by decide +kernel)
theorem dX0_passes_59 : decode cX0_passes 59 = .ok (.iconst 0, 1) := q_o3 (by decide +kernel)
theorem dX0_passes_60 : decode cX0_passes 60 = .ok (.iload_n 1, 1) := q_o27 (by decide +kernel)
theorem dX0_passes_61 : decode cX0_passes 61 = .ok (.iadd, 1) := q_o96 (by decide +kernel)
theorem dX0_passes_62 : decode cX0_passes 62 = .ok (.iload_n 3, 1) := q_o29 (by decide +kernel)
theorem dX0_passes_63 : decode cX0_passes 63 = .ok (.ifCond .eq 7, 3) := q_o153 (a := 0) (b := 7) (by decide +kernel) rfl
theorem dX0_passes_66 : decode cX0_passes 66 = .ok (.iconst 5, 1) := q_o8 (by decide +kernel)
theorem dX0_passes_67 : decode cX0_passes 67 = .ok (.goto 4, 3) := q_o167 (a := 0) (b := 4) (by decide +kernel) rfl
theorem dX0_passes_70 : decode cX0_passes 70 = .ok (.iconst 4, 1) := q_o7 (by decide +kernel)
theorem dX0_passes_71 : decode cX0_passes 71 = .ok (.iastore, 1) := q_o79 (by decide +kernel)
theorem dX0_passes_72 : decode cX0_passes 72 = .ok (.iload_n 3, 1) := q_o29 (by decide +kernel)
theorem dX0_passes_73 : decode cX0_passes 73 = .ok (.ireturn, 1) := q_o172 (by decide +kernel)
theorem dX0_passes_74 : decode cX0_passes 74 = .ok (.aload_n 0, 1) := q_o42 (by decide +kernel)
theorem dX0_passes_75 : decode cX0_passes 75 = .ok (.getfield 11, 3) := q_o180 (a := 0) (b := 11) (by decide +kernel)
theorem dX0_passes_78 : decode cX0_passes 78 = .ok (.bipush 8, 2) := q_o16 (a := 8) (by decide +kernel) rfl
theorem dX0_passes_80 : decode cX0_passes 80 = .ok (.iload_n 1, 1) := q_o27 (by decide +kernel)
theorem dX0_passes_81 : decode cX0_passes 81 = .ok (.iadd, 1) := q_o96 (by decide +kernel)
theorem dX0_passes_82 : decode cX0_passes 82 = .ok (.dup2, 1) := by decide +kernel
theorem dX0_passes_83 : decode cX0_passes 83 = .ok (.iaload, 1) := q_o46 (by decide +kernel)
theorem dX0_passes_84 : decode cX0_passes 84 = .ok (.iconst 1, 1) := q_o4 (by decide +kernel)
theorem dX0_passes_85 : decode cX0_passes 85 = .ok (.isub, 1) := q_o100 (by decide +kernel)
theorem dX0_passes_86 : decode cX0_passes 86 = .ok (.iastore, 1) := q_o79 (by decide +kernel)
theorem dX0_passes_87 : decode cX0_passes 87 = .ok (.aload_n 0, 1) := q_o42 (by decide +kernel)
theorem dX0_passes_88 : decode cX0_passes 88 = .ok (.getfield 11, 3) := q_o180 (a := 0) (b := 11) (by decide +kernel)
theorem dX0_passes_91 : decode cX0_passes 91 = .ok (.iconst 0, 1) := q_o3 (by decide +kernel)
theorem dX0_passes_92 : decode cX0_passes 92 = .ok (.iload_n 1, 1) := q_o27 (by decide +kernel)
theorem dX0_passes_93 : decode cX0_passes 93 = .ok (.iadd, 1) := q_o96 (by decide +kernel)
theorem dX0_passes_94 : decode cX0_passes 94 = .ok (.aload_n 0, 1) := q_o42 (by decide +kernel)
theorem dX0_passes_95 : decode cX0_passes 95 = .ok (.getfield 11, 3) := q_o180 (a := 0) (b := 11) (by decide +kernel)
theorem dX0_passes_98 : decode cX0_passes 98 = .ok (.bipush 8, 2) := q_o16 (a := 8) (by decide +kernel) rfl
theorem dX0_passes_100 : decode cX0_passes 100 = .ok (.iload_n 1, 1) := q_o27 (by decide +kernel)
theorem dX0_passes_101 : decode cX0_passes 101 = .ok (.iadd, 1) := q_o96 (by decide +kernel)
theorem dX0_passes_102 : decode cX0_passes 102 = .ok (.iaload, 1) := q_o46 (by decide +kernel)
theorem dX0_passes_103 : decode cX0_passes 103 = .ok (.ifCond .le 7, 3) := q_o158 (a := 0) (b := 7) (by decide +kernel) rfl
theorem dX0_passes_106 : decode cX0_passes 106 = .ok (.iconst 3, 1) := q_o6 (by decide +kernel)
theorem dX0_passes_107 : decode cX0_passes 107 = .ok (.goto 4, 3) := q_o167 (a := 0) (b := 4) (by decide +kernel) rfl
theorem dX0_passes_110 : decode cX0_passes 110 = .ok (.iconst 4, 1) := q_o7 (by decide +kernel)
theorem dX0_passes_111 : decode cX0_passes 111 = .ok (.iastore, 1) := q_o79 (by decide +kernel)
theorem dX0_passes_112 : decode cX0_passes 112 = .ok (.iconst 1, 1) := q_o4 (by decide +kernel)
theorem dX0_passes_113 : decode cX0_passes 113 = .ok (.ireturn, 1) := q_o172 (by decide +kernel)
theorem dX0_pullOut_0 : decode cX0_pullOut 0 = .ok (.aload_n 0, 1) := q_o42 (by decide +kernel)
theorem dX0_pullOut_1 : decode cX0_pullOut 1 = .ok (.iload_n 1, 1) := q_o27 (by decide +kernel)
theorem dX0_pullOut_2 : decode cX0_pullOut 2 = .ok (.invokevirtual 183, 3) := q_o182 (a := 0) (b := 183) (by decide +kernel)
theorem dX0_pullOut_5 : decode cX0_pullOut 5 = .ok (.iconst 1, 1) := q_o4 (by decide +kernel)
theorem dX0_pullOut_6 : decode cX0_pullOut 6 = .ok (.iload_n 1, 1) := q_o27 (by decide +kernel)
theorem dX0_pullOut_7 : decode cX0_pullOut 7 = .ok (.ishl, 1) := by decide +kernel
theorem dX0_pullOut_8 : decode cX0_pullOut 8 = .ok (.ior, 1) := by decide +kernel
theorem dX0_pullOut_9 : decode cX0_pullOut 9 = .ok (.istore_n 2, 1) := q_o61 (by decide +kernel)
theorem dX0_pullOut_10 : decode cX0_pullOut 10 = .ok (.iconst 0, 1) := q_o3 (by decide +kernel)
theorem dX0_pullOut_11 : decode cX0_pullOut 11 = .ok (.istore_n 3, 1) := q_o62 (by decide +kernel)
theorem dX0_pullOut_12 : decode cX0_pullOut 12 = .ok (.iload_n 3, 1) := q_o29 (by decide +kernel)
theorem dX0_pullOut_13 : decode cX0_pullOut 13 = .ok (.aload_n 0, 1) := q_o42 (by decide +kernel)
theorem dX0_pullOut_14 : decode cX0_pullOut 14 = .ok (.getfield 15, 3) := q_o180 (a := 0) (b := 15) (by decide +kernel)
theorem dX0_pullOut_17 : decode cX0_pullOut 17 = .ok (.getfield 25, 3) := q_o180 (a := 0) (b := 25) (by decide +kernel)
theorem dX0_pullOut_20 : decode cX0_pullOut 20 = .ok (.if_icmp .ge 23, 3) := q_o162 (a := 0) (b := 23) (by decide +kernel) rfl
theorem dX0_pullOut_23 : decode cX0_pullOut 23 = .ok (.iload_n 2, 1) := q_o28 (by decide +kernel)
theorem dX0_pullOut_24 : decode cX0_pullOut 24 = .ok (.iload_n 3, 1) := q_o29 (by decide +kernel)
theorem dX0_pullOut_25 : decode cX0_pullOut 25 = .ok (.ishr, 1) := by decide +kernel
theorem dX0_pullOut_26 : decode cX0_pullOut 26 = .ok (.iconst 1, 1) := q_o4 (by decide +kernel)
theorem dX0_pullOut_27 : decode cX0_pullOut 27 = .ok (.iand, 1) := q_o126 (by decide +kernel)
theorem dX0_pullOut_28 : decode cX0_pullOut 28 = .ok (.iconst 1, 1) := q_o4 (by decide +kernel)
theorem dX0_pullOut_29 : decode cX0_pullOut 29 = .ok (.if_icmp .ne 8, 3) := q_o160 (a := 0) (b := 8) (by decide +kernel) rfl
theorem dX0_pullOut_32 : decode cX0_pullOut 32 = .ok (.aload_n 0, 1) := q_o42 (by decide +kernel)
theorem dX0_pullOut_33 : decode cX0_pullOut 33 = .ok (.iload_n 3, 1) := q_o29 (by decide +kernel)
theorem dX0_pullOut_34 : decode cX0_pullOut 34 = .ok (.invokevirtual 31, 3) := q_o182 (a := 0) (b := 31) (by decide +kernel)
theorem dX0_pullOut_37 : decode cX0_pullOut 37 = .ok (.iinc 3 1, 3) := q_o132 (a := 3) (b := 1) (by decide +kernel) rfl
theorem dX0_pullOut_40 : decode cX0_pullOut 40 = .ok (.goto (-28), 3) := q_o167 (a := 255) (b := 228) (by decide +kernel) rfl
theorem dX0_pullOut_43 : decode cX0_pullOut 43 = .ok (.return_, 1) := q_o177 (by decide +kernel)
theorem dX0_putIn_0 : decode cX0_putIn 0 = .ok (.aload_n 0, 1) := q_o42 (by decide +kernel)
theorem dX0_putIn_1 : decode cX0_putIn 1 = .ok (.iload_n 1, 1) := q_o27 (by decide +kernel)
theorem dX0_putIn_2 : decode cX0_putIn 2 = .ok (.iconst 1, 1) := q_o4 (by decide +kernel)
theorem dX0_putIn_3 : decode cX0_putIn 3 = .ok (.invokevirtual 179, 3) := q_o182 (a := 0) (b := 179) (by decide +kernel)
theorem dX0_putIn_6 : decode cX0_putIn 6 = .ok (.aload_n 0, 1) := q_o42 (by decide +kernel)
theorem dX0_putIn_7 : decode cX0_putIn 7 = .ok (.getfield 11, 3) := q_o180 (a := 0) (b := 11) (by decide +kernel)
theorem dX0_putIn_10 : decode cX0_putIn 10 = .ok (.bipush 8, 2) := q_o16 (a := 8) (by decide +kernel) rfl
theorem dX0_putIn_12 : decode cX0_putIn 12 = .ok (.iload_n 1, 1) := q_o27 (by decide +kernel)
theorem dX0_putIn_13 : decode cX0_putIn 13 = .ok (.iadd, 1) := q_o96 (by decide +kernel)
theorem dX0_putIn_14 : decode cX0_putIn 14 = .ok (.aload_n 0, 1) := q_o42 (by decide +kernel)
theorem dX0_putIn_15 : decode cX0_putIn 15 = .ok (.getfield 15, 3) := q_o180 (a := 0) (b := 15) (by decide +kernel)
theorem dX0_putIn_18 : decode cX0_putIn 18 = .ok (.getfield 84, 3) := q_o180 (a := 0) (b := 84) (by decide +kernel)
theorem dX0_putIn_21 : decode cX0_putIn 21 = .ok (.iconst 1, 1) := q_o4 (by decide +kernel)
theorem dX0_putIn_22 : decode cX0_putIn 22 = .ok (.iaload, 1) := q_o46 (by decide +kernel)
theorem dX0_putIn_23 : decode cX0_putIn 23 = .ok (.iastore, 1) := q_o79 (by decide +kernel)
theorem dX0_putIn_24 : decode cX0_putIn 24 = .ok (.aload_n 0, 1) := q_o42 (by decide +kernel)
theorem dX0_putIn_25 : decode cX0_putIn 25 = .ok (.getfield 11, 3) := q_o180 (a := 0) (b := 11) (by decide +kernel)
theorem dX0_putIn_28 : decode cX0_putIn 28 = .ok (.bipush 24, 2) := q_o16 (a := 24) (by decide +kernel) rfl
theorem dX0_putIn_30 : decode cX0_putIn 30 = .ok (.iload_n 1, 1) := q_o27 (by decide +kernel)
theorem dX0_putIn_31 : decode cX0_putIn 31 = .ok (.iadd, 1) := q_o96 (by decide +kernel)
theorem dX0_putIn_32 : decode cX0_putIn 32 = .ok (.iconst 0, 1) := q_o3 (by decide +kernel)
theorem dX0_putIn_33 : decode cX0_putIn 33 = .ok (.iastore, 1) := q_o79 (by decide +kernel)
theorem dX0_putIn_34 : decode cX0_putIn 34 = .ok (.aload_n 0, 1) := q_o42 (by decide +kernel)
theorem dX0_putIn_35 : decode cX0_putIn 35 = .ok (.getfield 11, 3) := q_o180 (a := 0) (b := 11) (by decide +kernel)
theorem dX0_putIn_38 : decode cX0_putIn 38 = .ok (.bipush 32, 2) := q_o16 (a := 32) (by decide +kernel) rfl
theorem dX0_putIn_40 : decode cX0_putIn 40 = .ok (.iload_n 1, 1) := q_o27 (by decide +kernel)
theorem dX0_putIn_41 : decode cX0_putIn 41 = .ok (.iadd, 1) := q_o96 (by decide +kernel)
theorem dX0_putIn_42 : decode cX0_putIn 42 = .ok (.iload_n 2, 1) := q_o28 (by decide +kernel)
theorem dX0_putIn_43 : decode cX0_putIn 43 = .ok (.iastore, 1) := q_o79 (by decide +kernel)
theorem dX0_putIn_44 : decode cX0_putIn 44 = .ok (.aload_n 0, 1) := q_o42 (by decide +kernel)
theorem dX0_putIn_45 : decode cX0_putIn 45 = .ok (.getfield 11, 3) := q_o180 (a := 0) (b := 11) (by decide +kernel)
theorem dX0_putIn_48 : decode cX0_putIn 48 = .ok (.bipush 40, 2) := q_o16 (a := 40) (by decide +kernel) rfl
theorem dX0_putIn_50 : decode cX0_putIn 50 = .ok (.iload_n 1, 1) := q_o27 (by decide +kernel)
theorem dX0_putIn_51 : decode cX0_putIn 51 = .ok (.iadd, 1) := q_o96 (by decide +kernel)
theorem dX0_putIn_52 : decode cX0_putIn 52 = .ok (.iload_n 3, 1) := q_o29 (by decide +kernel)
theorem dX0_putIn_53 : decode cX0_putIn 53 = .ok (.iastore, 1) := q_o79 (by decide +kernel)
theorem dX0_putIn_54 : decode cX0_putIn 54 = .ok (.return_, 1) := q_o177 (by decide +kernel)
theorem dX0_queue_0 : decode cX0_queue 0 = .ok (.aload_n 0, 1) := q_o42 (by decide +kernel)
theorem dX0_queue_1 : decode cX0_queue 1 = .ok (.iload_n 1, 1) := q_o27 (by decide +kernel)
theorem dX0_queue_2 : decode cX0_queue 2 = .ok (.iconst 2, 1) := q_o5 (by decide +kernel)
theorem dX0_queue_3 : decode cX0_queue 3 = .ok (.invokevirtual 179, 3) := q_o182 (a := 0) (b := 179) (by decide +kernel)
theorem dX0_queue_6 : decode cX0_queue 6 = .ok (.aload_n 0, 1) := q_o42 (by decide +kernel)
theorem dX0_queue_7 : decode cX0_queue 7 = .ok (.getfield 11, 3) := q_o180 (a := 0) (b := 11) (by decide +kernel)
theorem dX0_queue_10 : decode cX0_queue 10 = .ok (.bipush 97, 2) := q_o16 (a := 97) (by decide +kernel) rfl
theorem dX0_queue_12 : decode cX0_queue 12 = .ok (.dup2, 1) := by decide +kernel
theorem dX0_queue_13 : decode cX0_queue 13 = .ok (.iaload, 1) := q_o46 (by decide +kernel)
theorem dX0_queue_14 : decode cX0_queue 14 = .ok (.iconst 1, 1) := q_o4 (by decide +kernel)
theorem dX0_queue_15 : decode cX0_queue 15 = .ok (.iadd, 1) := q_o96 (by decide +kernel)
theorem dX0_queue_16 : decode cX0_queue 16 = .ok (.iastore, 1) := q_o79 (by decide +kernel)
theorem dX0_queue_17 : decode cX0_queue 17 = .ok (.aload_n 0, 1) := q_o42 (by decide +kernel)
theorem dX0_queue_18 : decode cX0_queue 18 = .ok (.getfield 11, 3) := q_o180 (a := 0) (b := 11) (by decide +kernel)
theorem dX0_queue_21 : decode cX0_queue 21 = .ok (.bipush 16, 2) := q_o16 (a := 16) (by decide +kernel) rfl
theorem dX0_queue_23 : decode cX0_queue 23 = .ok (.iload_n 1, 1) := q_o27 (by decide +kernel)
theorem dX0_queue_24 : decode cX0_queue 24 = .ok (.iadd, 1) := q_o96 (by decide +kernel)
theorem dX0_queue_25 : decode cX0_queue 25 = .ok (.aload_n 0, 1) := q_o42 (by decide +kernel)
theorem dX0_queue_26 : decode cX0_queue 26 = .ok (.getfield 11, 3) := q_o180 (a := 0) (b := 11) (by decide +kernel)
theorem dX0_queue_29 : decode cX0_queue 29 = .ok (.bipush 97, 2) := q_o16 (a := 97) (by decide +kernel) rfl
theorem dX0_queue_31 : decode cX0_queue 31 = .ok (.iaload, 1) := q_o46 (by decide +kernel)
theorem dX0_queue_32 : decode cX0_queue 32 = .ok (.iastore, 1) := q_o79 (by decide +kernel)
theorem dX0_queue_33 : decode cX0_queue 33 = .ok (.return_, 1) := q_o177 (by decide +kernel)
theorem dX0_queueAfresh_0 : decode cX0_queueAfresh 0 = .ok (.aload_n 0, 1) := q_o42 (by decide +kernel)
theorem dX0_queueAfresh_1 : decode cX0_queueAfresh 1 = .ok (.getfield 11, 3) := q_o180 (a := 0) (b := 11) (by decide +kernel)
theorem dX0_queueAfresh_4 : decode cX0_queueAfresh 4 = .ok (.bipush 24, 2) := q_o16 (a := 24) (by decide +kernel) rfl
theorem dX0_queueAfresh_6 : decode cX0_queueAfresh 6 = .ok (.iload_n 1, 1) := q_o27 (by decide +kernel)
theorem dX0_queueAfresh_7 : decode cX0_queueAfresh 7 = .ok (.iadd, 1) := q_o96 (by decide +kernel)
theorem dX0_queueAfresh_8 : decode cX0_queueAfresh 8 = .ok (.iconst 0, 1) := q_o3 (by decide +kernel)
theorem dX0_queueAfresh_9 : decode cX0_queueAfresh 9 = .ok (.iastore, 1) := q_o79 (by decide +kernel)
theorem dX0_queueAfresh_10 : decode cX0_queueAfresh 10 = .ok (.aload_n 0, 1) := q_o42 (by decide +kernel)
theorem dX0_queueAfresh_11 : decode cX0_queueAfresh 11 = .ok (.iload_n 1, 1) := q_o27 (by decide +kernel)
theorem dX0_queueAfresh_12 : decode cX0_queueAfresh 12 = .ok (.invokevirtual 192, 3) := q_o182 (a := 0) (b := 192) (by decide +kernel)
theorem dX0_queueAfresh_15 : decode cX0_queueAfresh 15 = .ok (.return_, 1) := q_o177 (by decide +kernel)
theorem dX0_refuse_0 : decode cX0_refuse 0 = .ok (.aload_n 0, 1) := q_o42 (by decide +kernel)
theorem dX0_refuse_1 : decode cX0_refuse 1 = .ok (.iload_n 1, 1) := q_o27 (by decide +kernel)
theorem dX0_refuse_2 : decode cX0_refuse 2 = .ok (.bipush 7, 2) := q_o16 (a := 7) (by decide +kernel) rfl
theorem dX0_refuse_4 : decode cX0_refuse 4 = .ok (.invokevirtual 179, 3) := q_o182 (a := 0) (b := 179) (by decide +kernel)
theorem dX0_refuse_7 : decode cX0_refuse 7 = .ok (.aload_n 0, 1) := q_o42 (by decide +kernel)
theorem dX0_refuse_8 : decode cX0_refuse 8 = .ok (.getfield 11, 3) := q_o180 (a := 0) (b := 11) (by decide +kernel)
theorem dX0_refuse_11 : decode cX0_refuse 11 = .ok (.bipush 64, 2) := q_o16 (a := 64) (by decide +kernel) rfl
theorem dX0_refuse_13 : decode cX0_refuse 13 = .ok (.iload_n 1, 1) := q_o27 (by decide +kernel)
theorem dX0_refuse_14 : decode cX0_refuse 14 = .ok (.iadd, 1) := q_o96 (by decide +kernel)
theorem dX0_refuse_15 : decode cX0_refuse 15 = .ok (.iload_n 2, 1) := q_o28 (by decide +kernel)
theorem dX0_refuse_16 : decode cX0_refuse 16 = .ok (.iastore, 1) := q_o79 (by decide +kernel)
theorem dX0_refuse_17 : decode cX0_refuse 17 = .ok (.iconst 0, 1) := q_o3 (by decide +kernel)
theorem dX0_refuse_18 : decode cX0_refuse 18 = .ok (.istore_n 3, 1) := q_o62 (by decide +kernel)
theorem dX0_refuse_19 : decode cX0_refuse 19 = .ok (.iload_n 3, 1) := q_o29 (by decide +kernel)
theorem dX0_refuse_20 : decode cX0_refuse 20 = .ok (.aload_n 0, 1) := q_o42 (by decide +kernel)
theorem dX0_refuse_21 : decode cX0_refuse 21 = .ok (.getfield 15, 3) := q_o180 (a := 0) (b := 15) (by decide +kernel)
theorem dX0_refuse_24 : decode cX0_refuse 24 = .ok (.getfield 25, 3) := q_o180 (a := 0) (b := 25) (by decide +kernel)
theorem dX0_refuse_27 : decode cX0_refuse 27 = .ok (.if_icmp .ge 48, 3) := q_o162 (a := 0) (b := 48) (by decide +kernel) rfl
theorem dX0_refuse_30 : decode cX0_refuse 30 = .ok (.aload_n 0, 1) := q_o42 (by decide +kernel)
theorem dX0_refuse_31 : decode cX0_refuse 31 = .ok (.iload_n 3, 1) := q_o29 (by decide +kernel)
theorem dX0_refuse_32 : decode cX0_refuse 32 = .ok (.iload_n 1, 1) := q_o27 (by decide +kernel)
theorem dX0_refuse_33 : decode cX0_refuse 33 = .ok (.invokevirtual 73, 3) := q_o182 (a := 0) (b := 73) (by decide +kernel)
theorem dX0_refuse_36 : decode cX0_refuse 36 = .ok (.ifCond .eq 33, 3) := q_o153 (a := 0) (b := 33) (by decide +kernel) rfl
theorem dX0_refuse_39 : decode cX0_refuse 39 = .ok (.aload_n 0, 1) := q_o42 (by decide +kernel)
theorem dX0_refuse_40 : decode cX0_refuse 40 = .ok (.getfield 11, 3) := q_o180 (a := 0) (b := 11) (by decide +kernel)
theorem dX0_refuse_43 : decode cX0_refuse 43 = .ok (.iconst 0, 1) := q_o3 (by decide +kernel)
theorem dX0_refuse_44 : decode cX0_refuse 44 = .ok (.iload_n 3, 1) := q_o29 (by decide +kernel)
theorem dX0_refuse_45 : decode cX0_refuse 45 = .ok (.iadd, 1) := q_o96 (by decide +kernel)
theorem dX0_refuse_46 : decode cX0_refuse 46 = .ok (.iaload, 1) := q_o46 (by decide +kernel)
theorem dX0_refuse_47 : decode cX0_refuse 47 = .ok (.iconst 3, 1) := q_o6 (by decide +kernel)
theorem dX0_refuse_48 : decode cX0_refuse 48 = .ok (.if_icmp .lt 21, 3) := q_o161 (a := 0) (b := 21) (by decide +kernel) rfl
theorem dX0_refuse_51 : decode cX0_refuse 51 = .ok (.aload_n 0, 1) := q_o42 (by decide +kernel)
theorem dX0_refuse_52 : decode cX0_refuse 52 = .ok (.getfield 11, 3) := q_o180 (a := 0) (b := 11) (by decide +kernel)
theorem dX0_refuse_55 : decode cX0_refuse 55 = .ok (.iconst 0, 1) := q_o3 (by decide +kernel)
theorem dX0_refuse_56 : decode cX0_refuse 56 = .ok (.iload_n 3, 1) := q_o29 (by decide +kernel)
theorem dX0_refuse_57 : decode cX0_refuse 57 = .ok (.iadd, 1) := q_o96 (by decide +kernel)
theorem dX0_refuse_58 : decode cX0_refuse 58 = .ok (.iaload, 1) := q_o46 (by decide +kernel)
theorem dX0_refuse_59 : decode cX0_refuse 59 = .ok (.bipush 6, 2) := q_o16 (a := 6) (by decide +kernel) rfl
theorem dX0_refuse_61 : decode cX0_refuse 61 = .ok (.if_icmp .gt 8, 3) := q_o163 (a := 0) (b := 8) (by decide +kernel) rfl
theorem dX0_refuse_64 : decode cX0_refuse 64 = .ok (.aload_n 0, 1) := q_o42 (by decide +kernel)
theorem dX0_refuse_65 : decode cX0_refuse 65 = .ok (.iload_n 3, 1) := q_o29 (by decide +kernel)
theorem dX0_refuse_66 : decode cX0_refuse 66 = .ok (.invokevirtual 192, 3) := q_o182 (a := 0) (b := 192) (by decide +kernel)
theorem dX0_refuse_69 : decode cX0_refuse 69 = .ok (.iinc 3 1, 3) := q_o132 (a := 3) (b := 1) (by decide +kernel) rfl
theorem dX0_refuse_72 : decode cX0_refuse 72 = .ok (.goto (-53), 3) := q_o167 (a := 255) (b := 203) (by decide +kernel) rfl
theorem dX0_refuse_75 : decode cX0_refuse 75 = .ok (.return_, 1) := q_o177 (by decide +kernel)
theorem dX0_settle_0 : decode cX0_settle 0 = .ok (.iconst 0, 1) := q_o3 (by decide +kernel)
theorem dX0_settle_1 : decode cX0_settle 1 = .ok (.istore_n 1, 1) := q_o60 (by decide +kernel)
theorem dX0_settle_2 : decode cX0_settle 2 = .ok (.iload_n 1, 1) := q_o27 (by decide +kernel)
theorem dX0_settle_3 : decode cX0_settle 3 = .ok (.aload_n 0, 1) := q_o42 (by decide +kernel)
theorem dX0_settle_4 : decode cX0_settle 4 = .ok (.getfield 15, 3) := q_o180 (a := 0) (b := 15) (by decide +kernel)
theorem dX0_settle_7 : decode cX0_settle 7 = .ok (.getfield 25, 3) := q_o180 (a := 0) (b := 25) (by decide +kernel)
theorem dX0_settle_10 : decode cX0_settle 10 = .ok (.if_icmp .ge 51, 3) := q_o162 (a := 0) (b := 51) (by decide +kernel) rfl
theorem dX0_settle_13 : decode cX0_settle 13 = .ok (.aload_n 0, 1) := q_o42 (by decide +kernel)
theorem dX0_settle_14 : decode cX0_settle 14 = .ok (.getfield 11, 3) := q_o180 (a := 0) (b := 11) (by decide +kernel)
theorem dX0_settle_17 : decode cX0_settle 17 = .ok (.iconst 0, 1) := q_o3 (by decide +kernel)
theorem dX0_settle_18 : decode cX0_settle 18 = .ok (.iload_n 1, 1) := q_o27 (by decide +kernel)
theorem dX0_settle_19 : decode cX0_settle 19 = .ok (.iadd, 1) := q_o96 (by decide +kernel)
theorem dX0_settle_20 : decode cX0_settle 20 = .ok (.iaload, 1) := q_o46 (by decide +kernel)
theorem dX0_settle_21 : decode cX0_settle 21 = .ok (.iconst 1, 1) := q_o4 (by decide +kernel)
theorem dX0_settle_22 : decode cX0_settle 22 = .ok (.if_icmp .ne 33, 3) := q_o160 (a := 0) (b := 33) (by decide +kernel) rfl
theorem dX0_settle_25 : decode cX0_settle 25 = .ok (.aload_n 0, 1) := q_o42 (by decide +kernel)
theorem dX0_settle_26 : decode cX0_settle 26 = .ok (.getfield 11, 3) := q_o180 (a := 0) (b := 11) (by decide +kernel)
theorem dX0_settle_29 : decode cX0_settle 29 = .ok (.bipush 8, 2) := q_o16 (a := 8) (by decide +kernel) rfl
theorem dX0_settle_31 : decode cX0_settle 31 = .ok (.iload_n 1, 1) := q_o27 (by decide +kernel)
theorem dX0_settle_32 : decode cX0_settle 32 = .ok (.iadd, 1) := q_o96 (by decide +kernel)
theorem dX0_settle_33 : decode cX0_settle 33 = .ok (.dup2, 1) := by decide +kernel
theorem dX0_settle_34 : decode cX0_settle 34 = .ok (.iaload, 1) := q_o46 (by decide +kernel)
theorem dX0_settle_35 : decode cX0_settle 35 = .ok (.iconst 1, 1) := q_o4 (by decide +kernel)
theorem dX0_settle_36 : decode cX0_settle 36 = .ok (.isub, 1) := q_o100 (by decide +kernel)
theorem dX0_settle_37 : decode cX0_settle 37 = .ok (.iastore, 1) := q_o79 (by decide +kernel)
theorem dX0_settle_38 : decode cX0_settle 38 = .ok (.aload_n 0, 1) := q_o42 (by decide +kernel)
theorem dX0_settle_39 : decode cX0_settle 39 = .ok (.getfield 11, 3) := q_o180 (a := 0) (b := 11) (by decide +kernel)
theorem dX0_settle_42 : decode cX0_settle 42 = .ok (.bipush 8, 2) := q_o16 (a := 8) (by decide +kernel) rfl
theorem dX0_settle_44 : decode cX0_settle 44 = .ok (.iload_n 1, 1) := q_o27 (by decide +kernel)
theorem dX0_settle_45 : decode cX0_settle 45 = .ok (.iadd, 1) := q_o96 (by decide +kernel)
theorem dX0_settle_46 : decode cX0_settle 46 = .ok (.iaload, 1) := q_o46 (by decide +kernel)
theorem dX0_settle_47 : decode cX0_settle 47 = .ok (.ifCond .gt 8, 3) := q_o157 (a := 0) (b := 8) (by decide +kernel) rfl
theorem dX0_settle_50 : decode cX0_settle 50 = .ok (.aload_n 0, 1) := q_o42 (by decide +kernel)
theorem dX0_settle_51 : decode cX0_settle 51 = .ok (.iload_n 1, 1) := q_o27 (by decide +kernel)
theorem dX0_settle_52 : decode cX0_settle 52 = .ok (.invokevirtual 192, 3) := q_o182 (a := 0) (b := 192) (by decide +kernel)
theorem dX0_settle_55 : decode cX0_settle 55 = .ok (.iinc 1 1, 3) := q_o132 (a := 1) (b := 1) (by decide +kernel) rfl
theorem dX0_settle_58 : decode cX0_settle 58 = .ok (.goto (-56), 3) := q_o167 (a := 255) (b := 200) (by decide +kernel) rfl
theorem dX0_settle_61 : decode cX0_settle 61 = .ok (.return_, 1) := q_o177 (by decide +kernel)
theorem dX0_shed_0 : decode cX0_shed 0 = .ok (.iconst 0, 1) := q_o3 (by decide +kernel)
theorem dX0_shed_1 : decode cX0_shed 1 = .ok (.istore_n 2, 1) := q_o61 (by decide +kernel)
theorem dX0_shed_2 : decode cX0_shed 2 = .ok (.iload_n 2, 1) := q_o28 (by decide +kernel)
theorem dX0_shed_3 : decode cX0_shed 3 = .ok (.bipush 8, 2) := q_o16 (a := 8) (by decide +kernel) rfl
theorem dX0_shed_5 : decode cX0_shed 5 = .ok (.if_icmp .ge 49, 3) := q_o162 (a := 0) (b := 49) (by decide +kernel) rfl
theorem dX0_shed_8 : decode cX0_shed 8 = .ok (.aload_n 0, 1) := q_o42 (by decide +kernel)
theorem dX0_shed_9 : decode cX0_shed 9 = .ok (.iload_n 1, 1) := q_o27 (by decide +kernel)
theorem dX0_shed_10 : decode cX0_shed 10 = .ok (.invokevirtual 216, 3) := q_o182 (a := 0) (b := 216) (by decide +kernel)
theorem dX0_shed_13 : decode cX0_shed 13 = .ok (.istore_n 3, 1) := q_o62 (by decide +kernel)
theorem dX0_shed_14 : decode cX0_shed 14 = .ok (.iload_n 3, 1) := q_o29 (by decide +kernel)
theorem dX0_shed_15 : decode cX0_shed 15 = .ok (.iconst (-1), 1) := q_o2 (by decide +kernel)
theorem dX0_shed_16 : decode cX0_shed 16 = .ok (.if_icmp .eq 25, 3) := q_o159 (a := 0) (b := 25) (by decide +kernel) rfl
theorem dX0_shed_19 : decode cX0_shed 19 = .ok (.aload_n 0, 1) := q_o42 (by decide +kernel)
theorem dX0_shed_20 : decode cX0_shed 20 = .ok (.iload_n 3, 1) := q_o29 (by decide +kernel)
theorem dX0_shed_21 : decode cX0_shed 21 = .ok (.invokevirtual 102, 3) := q_o182 (a := 0) (b := 102) (by decide +kernel)
theorem dX0_shed_24 : decode cX0_shed 24 = .ok (.aload_n 0, 1) := q_o42 (by decide +kernel)
theorem dX0_shed_25 : decode cX0_shed 25 = .ok (.iload_n 1, 1) := q_o27 (by decide +kernel)
theorem dX0_shed_26 : decode cX0_shed 26 = .ok (.invokevirtual 99, 3) := q_o182 (a := 0) (b := 99) (by decide +kernel)
theorem dX0_shed_29 : decode cX0_shed 29 = .ok (.if_icmp .gt 13, 3) := q_o163 (a := 0) (b := 13) (by decide +kernel) rfl
theorem dX0_shed_32 : decode cX0_shed 32 = .ok (.aload_n 0, 1) := q_o42 (by decide +kernel)
theorem dX0_shed_33 : decode cX0_shed 33 = .ok (.iload_n 1, 1) := q_o27 (by decide +kernel)
theorem dX0_shed_34 : decode cX0_shed 34 = .ok (.iconst (-1), 1) := q_o2 (by decide +kernel)
theorem dX0_shed_35 : decode cX0_shed 35 = .ok (.invokevirtual 108, 3) := q_o182 (a := 0) (b := 108) (by decide +kernel)
theorem dX0_shed_38 : decode cX0_shed 38 = .ok (.ifCond .lt 4, 3) := q_o155 (a := 0) (b := 4) (by decide +kernel) rfl
theorem dX0_shed_41 : decode cX0_shed 41 = .ok (.return_, 1) := q_o177 (by decide +kernel)
theorem dX0_shed_42 : decode cX0_shed 42 = .ok (.aload_n 0, 1) := q_o42 (by decide +kernel)
theorem dX0_shed_43 : decode cX0_shed 43 = .ok (.iload_n 3, 1) := q_o29 (by decide +kernel)
theorem dX0_shed_44 : decode cX0_shed 44 = .ok (.iconst 2, 1) := q_o5 (by decide +kernel)
theorem dX0_shed_45 : decode cX0_shed 45 = .ok (.invokevirtual 186, 3) := q_o182 (a := 0) (b := 186) (by decide +kernel)
theorem dX0_shed_48 : decode cX0_shed 48 = .ok (.iinc 2 1, 3) := q_o132 (a := 2) (b := 1) (by decide +kernel) rfl
theorem dX0_shed_51 : decode cX0_shed 51 = .ok (.goto (-49), 3) := q_o167 (a := 255) (b := 207) (by decide +kernel) rfl
theorem dX0_shed_54 : decode cX0_shed 54 = .ok (.return_, 1) := q_o177 (by decide +kernel)
theorem dX0_switchSupply_0 : decode cX0_switchSupply 0 = .ok (.aload_n 0, 1) := q_o42 (by decide +kernel)
theorem dX0_switchSupply_1 : decode cX0_switchSupply 1 = .ok (.getfield 11, 3) := q_o180 (a := 0) (b := 11) (by decide +kernel)
theorem dX0_switchSupply_4 : decode cX0_switchSupply 4 = .ok (.bipush 72, 2) := q_o16 (a := 72) (by decide +kernel) rfl
theorem dX0_switchSupply_6 : decode cX0_switchSupply 6 = .ok (.iload_n 1, 1) := q_o27 (by decide +kernel)
theorem dX0_switchSupply_7 : decode cX0_switchSupply 7 = .ok (.iadd, 1) := q_o96 (by decide +kernel)
theorem dX0_switchSupply_8 : decode cX0_switchSupply 8 = .ok (.iconst 1, 1) := q_o4 (by decide +kernel)
theorem dX0_switchSupply_9 : decode cX0_switchSupply 9 = .ok (.aload_n 0, 1) := q_o42 (by decide +kernel)
theorem dX0_switchSupply_10 : decode cX0_switchSupply 10 = .ok (.getfield 11, 3) := q_o180 (a := 0) (b := 11) (by decide +kernel)
theorem dX0_switchSupply_13 : decode cX0_switchSupply 13 = .ok (.bipush 72, 2) := q_o16 (a := 72) (by decide +kernel) rfl
theorem dX0_switchSupply_15 : decode cX0_switchSupply 15 = .ok (.iload_n 1, 1) := q_o27 (by decide +kernel)
theorem dX0_switchSupply_16 : decode cX0_switchSupply 16 = .ok (.iadd, 1) := q_o96 (by decide +kernel)
theorem dX0_switchSupply_17 : decode cX0_switchSupply 17 = .ok (.iaload, 1) := q_o46 (by decide +kernel)
theorem dX0_switchSupply_18 : decode cX0_switchSupply 18 = .ok (.isub, 1) := q_o100 (by decide +kernel)
theorem dX0_switchSupply_19 : decode cX0_switchSupply 19 = .ok (.iastore, 1) := q_o79 (by decide +kernel)
theorem dX0_switchSupply_20 : decode cX0_switchSupply 20 = .ok (.aload_n 0, 1) := q_o42 (by decide +kernel)
theorem dX0_switchSupply_21 : decode cX0_switchSupply 21 = .ok (.getfield 11, 3) := q_o180 (a := 0) (b := 11) (by decide +kernel)
theorem dX0_switchSupply_24 : decode cX0_switchSupply 24 = .ok (.bipush 72, 2) := q_o16 (a := 72) (by decide +kernel) rfl
theorem dX0_switchSupply_26 : decode cX0_switchSupply 26 = .ok (.iload_n 1, 1) := q_o27 (by decide +kernel)
theorem dX0_switchSupply_27 : decode cX0_switchSupply 27 = .ok (.iadd, 1) := q_o96 (by decide +kernel)
theorem dX0_switchSupply_28 : decode cX0_switchSupply 28 = .ok (.iaload, 1) := q_o46 (by decide +kernel)
theorem dX0_switchSupply_29 : decode cX0_switchSupply 29 = .ok (.iconst 1, 1) := q_o4 (by decide +kernel)
theorem dX0_switchSupply_30 : decode cX0_switchSupply 30 = .ok (.if_icmp .ne 4, 3) := q_o160 (a := 0) (b := 4) (by decide +kernel) rfl
theorem dX0_switchSupply_33 : decode cX0_switchSupply 33 = .ok (.return_, 1) := q_o177 (by decide +kernel)
theorem dX0_switchSupply_34 : decode cX0_switchSupply 34 = .ok (.aload_n 0, 1) := q_o42 (by decide +kernel)
theorem dX0_switchSupply_35 : decode cX0_switchSupply 35 = .ok (.getfield 11, 3) := q_o180 (a := 0) (b := 11) (by decide +kernel)
theorem dX0_switchSupply_38 : decode cX0_switchSupply 38 = .ok (.iconst 0, 1) := q_o3 (by decide +kernel)
theorem dX0_switchSupply_39 : decode cX0_switchSupply 39 = .ok (.iload_n 1, 1) := q_o27 (by decide +kernel)
theorem dX0_switchSupply_40 : decode cX0_switchSupply 40 = .ok (.iadd, 1) := q_o96 (by decide +kernel)
theorem dX0_switchSupply_41 : decode cX0_switchSupply 41 = .ok (.iaload, 1) := q_o46 (by decide +kernel)
theorem dX0_switchSupply_42 : decode cX0_switchSupply 42 = .ok (.bipush 6, 2) := q_o16 (a := 6) (by decide +kernel) rfl
theorem dX0_switchSupply_44 : decode cX0_switchSupply 44 = .ok (.if_icmp .ne 25, 3) := q_o160 (a := 0) (b := 25) (by decide +kernel) rfl
theorem dX0_switchSupply_47 : decode cX0_switchSupply 47 = .ok (.aload_n 0, 1) := q_o42 (by decide +kernel)
theorem dX0_switchSupply_48 : decode cX0_switchSupply 48 = .ok (.iload_n 1, 1) := q_o27 (by decide +kernel)
theorem dX0_switchSupply_49 : decode cX0_switchSupply 49 = .ok (.aload_n 0, 1) := q_o42 (by decide +kernel)
theorem dX0_switchSupply_50 : decode cX0_switchSupply 50 = .ok (.iload_n 1, 1) := q_o27 (by decide +kernel)
theorem dX0_switchSupply_51 : decode cX0_switchSupply 51 = .ok (.invokevirtual 102, 3) := q_o182 (a := 0) (b := 102) (by decide +kernel)
theorem dX0_switchSupply_54 : decode cX0_switchSupply 54 = .ok (.invokevirtual 173, 3) := q_o182 (a := 0) (b := 173) (by decide +kernel)
theorem dX0_switchSupply_57 : decode cX0_switchSupply 57 = .ok (.ifCond .ne 12, 3) := q_o154 (a := 0) (b := 12) (by decide +kernel) rfl
theorem dX0_switchSupply_60 : decode cX0_switchSupply 60 = .ok (.aload_n 0, 1) := q_o42 (by decide +kernel)
theorem dX0_switchSupply_61 : decode cX0_switchSupply 61 = .ok (.iload_n 1, 1) := q_o27 (by decide +kernel)
theorem dX0_switchSupply_62 : decode cX0_switchSupply 62 = .ok (.iconst 2, 1) := q_o5 (by decide +kernel)
theorem dX0_switchSupply_63 : decode cX0_switchSupply 63 = .ok (.invokevirtual 186, 3) := q_o182 (a := 0) (b := 186) (by decide +kernel)
theorem dX0_switchSupply_66 : decode cX0_switchSupply 66 = .ok (.goto 8, 3) := q_o167 (a := 0) (b := 8) (by decide +kernel) rfl
theorem dX0_switchSupply_69 : decode cX0_switchSupply 69 = .ok (.aload_n 0, 1) := q_o42 (by decide +kernel)
theorem dX0_switchSupply_70 : decode cX0_switchSupply 70 = .ok (.iload_n 1, 1) := q_o27 (by decide +kernel)
theorem dX0_switchSupply_71 : decode cX0_switchSupply 71 = .ok (.invokevirtual 189, 3) := q_o182 (a := 0) (b := 189) (by decide +kernel)
theorem dX0_switchSupply_74 : decode cX0_switchSupply 74 = .ok (.return_, 1) := q_o177 (by decide +kernel)
theorem hdV_yX0_beneath_1 : yX0_beneath.cls = RX0 ∧ yX0_beneath.cls ≠ "java/lang/invoke/MethodHandle" ∧ yX0_beneath.cls ≠ "java/lang/invoke/VarHandle" ∧ (parseMethodDescriptor yX0_beneath.desc).map (fun d => d.parameters.length) = some 1 := by decide +kernel
theorem hdV_yX0_conclude_2 : yX0_conclude.cls = RX0 ∧ yX0_conclude.cls ≠ "java/lang/invoke/MethodHandle" ∧ yX0_conclude.cls ≠ "java/lang/invoke/VarHandle" ∧ (parseMethodDescriptor yX0_conclude.desc).map (fun d => d.parameters.length) = some 2 := by decide +kernel
theorem hdV_yX0_fail_1 : yX0_fail.cls = RX0 ∧ yX0_fail.cls ≠ "java/lang/invoke/MethodHandle" ∧ yX0_fail.cls ≠ "java/lang/invoke/VarHandle" ∧ (parseMethodDescriptor yX0_fail.desc).map (fun d => d.parameters.length) = some 1 := by decide +kernel
theorem hdV_yX0_greatestTaker_1 : yX0_greatestTaker.cls = RX0 ∧ yX0_greatestTaker.cls ≠ "java/lang/invoke/MethodHandle" ∧ yX0_greatestTaker.cls ≠ "java/lang/invoke/VarHandle" ∧ (parseMethodDescriptor yX0_greatestTaker.desc).map (fun d => d.parameters.length) = some 1 := by decide +kernel
theorem hdV_yX0_isSound_1 : yX0_isSound.cls = RX0 ∧ yX0_isSound.cls ≠ "java/lang/invoke/MethodHandle" ∧ yX0_isSound.cls ≠ "java/lang/invoke/VarHandle" ∧ (parseMethodDescriptor yX0_isSound.desc).map (fun d => d.parameters.length) = some 1 := by decide +kernel
theorem hdV_yX0_leave_1 : yX0_leave.cls = RX0 ∧ yX0_leave.cls ≠ "java/lang/invoke/MethodHandle" ∧ yX0_leave.cls ≠ "java/lang/invoke/VarHandle" ∧ (parseMethodDescriptor yX0_leave.desc).map (fun d => d.parameters.length) = some 1 := by decide +kernel
theorem hdV_yX0_lower_2 : yX0_lower.cls = RX0 ∧ yX0_lower.cls ≠ "java/lang/invoke/MethodHandle" ∧ yX0_lower.cls ≠ "java/lang/invoke/VarHandle" ∧ (parseMethodDescriptor yX0_lower.desc).map (fun d => d.parameters.length) = some 2 := by decide +kernel
theorem hdV_yX0_passes_1 : yX0_passes.cls = RX0 ∧ yX0_passes.cls ≠ "java/lang/invoke/MethodHandle" ∧ yX0_passes.cls ≠ "java/lang/invoke/VarHandle" ∧ (parseMethodDescriptor yX0_passes.desc).map (fun d => d.parameters.length) = some 1 := by decide +kernel
theorem hdV_yX0_queue_1 : yX0_queue.cls = RX0 ∧ yX0_queue.cls ≠ "java/lang/invoke/MethodHandle" ∧ yX0_queue.cls ≠ "java/lang/invoke/VarHandle" ∧ (parseMethodDescriptor yX0_queue.desc).map (fun d => d.parameters.length) = some 1 := by decide +kernel
theorem hdV_yX0_reasonAgainst_1 : yX0_reasonAgainst.cls = RX0 ∧ yX0_reasonAgainst.cls ≠ "java/lang/invoke/MethodHandle" ∧ yX0_reasonAgainst.cls ≠ "java/lang/invoke/VarHandle" ∧ (parseMethodDescriptor yX0_reasonAgainst.desc).map (fun d => d.parameters.length) = some 1 := by decide +kernel
theorem hdV_yX0_refuse_2 : yX0_refuse.cls = RX0 ∧ yX0_refuse.cls ≠ "java/lang/invoke/MethodHandle" ∧ yX0_refuse.cls ≠ "java/lang/invoke/VarHandle" ∧ (parseMethodDescriptor yX0_refuse.desc).map (fun d => d.parameters.length) = some 2 := by decide +kernel
theorem hdV_yX0_settle_0 : yX0_settle.cls = RX0 ∧ yX0_settle.cls ≠ "java/lang/invoke/MethodHandle" ∧ yX0_settle.cls ≠ "java/lang/invoke/VarHandle" ∧ (parseMethodDescriptor yX0_settle.desc).map (fun d => d.parameters.length) = some 0 := by decide +kernel
theorem hdV_yX0_shed_1 : yX0_shed.cls = RX0 ∧ yX0_shed.cls ≠ "java/lang/invoke/MethodHandle" ∧ yX0_shed.cls ≠ "java/lang/invoke/VarHandle" ∧ (parseMethodDescriptor yX0_shed.desc).map (fun d => d.parameters.length) = some 1 := by decide +kernel
def F_X0_lower (fr : Nat → Int32) (dv : Int32) (fu : Nat → Int32) (fp : Nat → Int32) (d : Int32) (ee : Int32) : Option ((Nat → Int32)) := (if (0 + d) < 0 ∨ 98 ≤ ((0 + d)).toNatClampNeg then none else (if (8 + d) < 0 ∨ 98 ≤ ((8 + d)).toNatClampNeg then none else (if (16 + d) < 0 ∨ 98 ≤ ((16 + d)).toNatClampNeg then none else (if (48 + d) < 0 ∨ 98 ≤ ((48 + d)).toNatClampNeg then none else (if (56 + d) < 0 ∨ 98 ≤ ((56 + d)).toNatClampNeg then none else (if (64 + d) < 0 ∨ 98 ≤ ((64 + d)).toNatClampNeg then none else (if (88 + d) < 0 ∨ 98 ≤ ((88 + d)).toNatClampNeg then none else some ((upd (upd (upd (upd (upd (upd (upd fr (0 + d).toNatClampNeg ee) (8 + d).toNatClampNeg 0) (16 + d).toNatClampNeg 0) (48 + d).toNatClampNeg (-1)) (56 + d).toNatClampNeg 0) (64 + d).toNatClampNeg 0) (88 + d).toNatClampNeg 0)))))))))
set_option maxHeartbeats 4000000 in
set_option maxRecDepth 100000 in
theorem c_X0_lower (l : Launch) (dC : Nat → ClassId) (dI : Nat → Nat → Nat) (g : Nat) (r0 : Nat) (h : Nat) (r1 : Nat) (r2 : Nat) (dv : Int32) (c0 : ClassId) (fr : Nat → Int32) (c1 : ClassId) (c2 : ClassId) (fu : Nat → Int32) (fp : Nat → Int32) (d : Int32) (ee : Int32) (A : Nat → Prop) (o : (Nat → Int32)) (hG : F_X0_lower fr dv fu fp d ee = some o) : Met l yX0_lower (.code yX0_lower cX0_lower 3 none :: wA) ({ frames := 0, cells := 0, slots := 0, locals := 0 }) (va_Pc [.ref g, .int d, .int ee] (q_W (dC, dI) A [(g, .inr (0, [.ref r0, .ref h])), (r0, .inl (c0, 98, .inl fr)), (h, .inr (5, [.ref r1, .ref r2, .int dv])), (r1, .inl (c1, 8, .inl fu)), (r2, .inl (c2, 48, .inl fp))] [(c0, .int), (c1, .int), (c2, .int)])) (va_Qv (fun _ : Unit => True) (fun (_ : Unit) t => q_B (dC, dI) A [(g, .inr (0, [.ref r0, .ref h])), (r0, .inl (c0, 98, .inl (o))), (h, .inr (5, [.ref r1, .ref r2, .int dv])), (r1, .inl (c1, 8, .inl fu)), (r2, .inl (c2, 48, .inl fp))] [(c0, .int), (c1, .int), (c2, .int)] t) A) 0 0 A := by
  refine Met.ofW (cc := cX0_lower) (maxL := 3) (ret := none) (by decide) rfl ?_
  intro p e s m args below meth c s₁ B hml hv
  obtain ⟨rfl, hP, hK, hD, hA⟩ := hv
  have hx := B.exec
  have hb := B.bytes
  have hr := B.returns
  have hts := atoms_spec (ws := .code yX0_lower cX0_lower 3 none :: wA) B.pre
  have hown : s.vm.findClass RX0 = some m.cls := findClass_of_methodNamed B.named
  have hlocks := B.notSynchronized
  have hS : va_S A s.heap s.heap [] := va_S.rf
  have hl := lv_entry ([.ref g, .int d, .int ee]) (n := 3) (Nat.le_of_ble_eq_true rfl)
  rw [lg_entry_eq]
  generalize (lg_sl ([.ref g, .int d, .int ee]) ++ List.replicate (3 - (lg_sl ([.ref g, .int d, .int ee])).length) Slot.unset).toArray = ls at hl ⊢
  have hl : lv_has ls 3 [(0, .ref g), (1, .int d), (2, .int ee)] := hl
  unfold F_X0_lower at hG
  refine lv_aload_n hx hb dX0_lower_0 rfl (lv_at hl 0 rfl) ?_
  refine va_get (D := (dC, dI)) (ci := 0) (v := .ref r0) (C := RX0) (T := TX0) (N := 2) hx hb hts iA_0 hown hK hP 0 rfl rfl 0 (by decide) (hts (.fieldLink RX0 11 "HubTree$Bus" "row" "[I") (List.mem_cons_of_mem _ m_88)) (fun _ h9 => h9) rfl dX0_lower_1 ?_
  refine lv_iconst (v := 0) hx hb dX0_lower_4 (by decide) ?_
  refine lv_iload_n hx hb dX0_lower_5 rfl (lv_at hl 1 rfl) ?_
  refine lv_iadd hx hb dX0_lower_6 ?_
  refine lv_iload_n hx hb dX0_lower_7 rfl (lv_at hl 2 rfl) ?_
  obtain ⟨h_1, hG⟩ := q_ix hG
  refine va_iast hx hb hK hP hD hS 1 0 rfl rfl (i := (0 + d)) (x := ee) h_1 dX0_lower_8 (fun H locs hP hD hS => ?_)
  have hP : va_P (dC, dI) vwCl [(g, .inr (0, [.ref r0, .ref h])), (r0, .inl (c0, 98, .inl (upd fr (0 + d).toNatClampNeg ee))), (h, .inr (5, [.ref r1, .ref r2, .int dv])), (r1, .inl (c1, 8, .inl fu)), (r2, .inl (c2, 48, .inl fp))] H := hP
  have hD : va_D A [(g, .inr (0, [.ref r0, .ref h])), (r0, .inl (c0, 98, .inl (upd fr (0 + d).toNatClampNeg ee))), (h, .inr (5, [.ref r1, .ref r2, .int dv])), (r1, .inl (c1, 8, .inl fu)), (r2, .inl (c2, 48, .inl fp))] := hD
  refine lv_aload_n hx hb dX0_lower_9 rfl (lv_at hl 0 rfl) ?_
  refine va_get (D := (dC, dI)) (ci := 0) (v := .ref r0) (C := RX0) (T := TX0) (N := 2) hx hb hts iA_0 hown hK hP 0 rfl rfl 0 (by decide) (hts (.fieldLink RX0 11 "HubTree$Bus" "row" "[I") (List.mem_cons_of_mem _ m_88)) (fun _ h9 => h9) rfl dX0_lower_10 ?_
  refine lv_bipush (v := 8) hx hb dX0_lower_13 (by decide) ?_
  refine lv_iload_n hx hb dX0_lower_15 rfl (lv_at hl 1 rfl) ?_
  refine lv_iadd hx hb dX0_lower_16 ?_
  refine lv_iconst (v := 0) hx hb dX0_lower_17 (by decide) ?_
  obtain ⟨h_2, hG⟩ := q_ix hG
  refine va_iast hx hb hK hP hD hS 1 0 rfl rfl (i := (8 + d)) (x := 0) h_2 dX0_lower_18 (fun H locs hP hD hS => ?_)
  have hP : va_P (dC, dI) vwCl [(g, .inr (0, [.ref r0, .ref h])), (r0, .inl (c0, 98, .inl (upd (upd fr (0 + d).toNatClampNeg ee) (8 + d).toNatClampNeg 0))), (h, .inr (5, [.ref r1, .ref r2, .int dv])), (r1, .inl (c1, 8, .inl fu)), (r2, .inl (c2, 48, .inl fp))] H := hP
  have hD : va_D A [(g, .inr (0, [.ref r0, .ref h])), (r0, .inl (c0, 98, .inl (upd (upd fr (0 + d).toNatClampNeg ee) (8 + d).toNatClampNeg 0))), (h, .inr (5, [.ref r1, .ref r2, .int dv])), (r1, .inl (c1, 8, .inl fu)), (r2, .inl (c2, 48, .inl fp))] := hD
  refine lv_aload_n hx hb dX0_lower_19 rfl (lv_at hl 0 rfl) ?_
  refine va_get (D := (dC, dI)) (ci := 0) (v := .ref r0) (C := RX0) (T := TX0) (N := 2) hx hb hts iA_0 hown hK hP 0 rfl rfl 0 (by decide) (hts (.fieldLink RX0 11 "HubTree$Bus" "row" "[I") (List.mem_cons_of_mem _ m_88)) (fun _ h9 => h9) rfl dX0_lower_20 ?_
  refine lv_bipush (v := 16) hx hb dX0_lower_23 (by decide) ?_
  refine lv_iload_n hx hb dX0_lower_25 rfl (lv_at hl 1 rfl) ?_
  refine lv_iadd hx hb dX0_lower_26 ?_
  refine lv_iconst (v := 0) hx hb dX0_lower_27 (by decide) ?_
  obtain ⟨h_3, hG⟩ := q_ix hG
  refine va_iast hx hb hK hP hD hS 1 0 rfl rfl (i := (16 + d)) (x := 0) h_3 dX0_lower_28 (fun H locs hP hD hS => ?_)
  have hP : va_P (dC, dI) vwCl [(g, .inr (0, [.ref r0, .ref h])), (r0, .inl (c0, 98, .inl (upd (upd (upd fr (0 + d).toNatClampNeg ee) (8 + d).toNatClampNeg 0) (16 + d).toNatClampNeg 0))), (h, .inr (5, [.ref r1, .ref r2, .int dv])), (r1, .inl (c1, 8, .inl fu)), (r2, .inl (c2, 48, .inl fp))] H := hP
  have hD : va_D A [(g, .inr (0, [.ref r0, .ref h])), (r0, .inl (c0, 98, .inl (upd (upd (upd fr (0 + d).toNatClampNeg ee) (8 + d).toNatClampNeg 0) (16 + d).toNatClampNeg 0))), (h, .inr (5, [.ref r1, .ref r2, .int dv])), (r1, .inl (c1, 8, .inl fu)), (r2, .inl (c2, 48, .inl fp))] := hD
  refine lv_aload_n hx hb dX0_lower_29 rfl (lv_at hl 0 rfl) ?_
  refine va_get (D := (dC, dI)) (ci := 0) (v := .ref r0) (C := RX0) (T := TX0) (N := 2) hx hb hts iA_0 hown hK hP 0 rfl rfl 0 (by decide) (hts (.fieldLink RX0 11 "HubTree$Bus" "row" "[I") (List.mem_cons_of_mem _ m_88)) (fun _ h9 => h9) rfl dX0_lower_30 ?_
  refine lv_bipush (v := 48) hx hb dX0_lower_33 (by decide) ?_
  refine lv_iload_n hx hb dX0_lower_35 rfl (lv_at hl 1 rfl) ?_
  refine lv_iadd hx hb dX0_lower_36 ?_
  refine lv_iconst (v := (-1)) hx hb dX0_lower_37 (by decide) ?_
  obtain ⟨h_4, hG⟩ := q_ix hG
  refine va_iast hx hb hK hP hD hS 1 0 rfl rfl (i := (48 + d)) (x := (-1)) h_4 dX0_lower_38 (fun H locs hP hD hS => ?_)
  have hP : va_P (dC, dI) vwCl [(g, .inr (0, [.ref r0, .ref h])), (r0, .inl (c0, 98, .inl (upd (upd (upd (upd fr (0 + d).toNatClampNeg ee) (8 + d).toNatClampNeg 0) (16 + d).toNatClampNeg 0) (48 + d).toNatClampNeg (-1)))), (h, .inr (5, [.ref r1, .ref r2, .int dv])), (r1, .inl (c1, 8, .inl fu)), (r2, .inl (c2, 48, .inl fp))] H := hP
  have hD : va_D A [(g, .inr (0, [.ref r0, .ref h])), (r0, .inl (c0, 98, .inl (upd (upd (upd (upd fr (0 + d).toNatClampNeg ee) (8 + d).toNatClampNeg 0) (16 + d).toNatClampNeg 0) (48 + d).toNatClampNeg (-1)))), (h, .inr (5, [.ref r1, .ref r2, .int dv])), (r1, .inl (c1, 8, .inl fu)), (r2, .inl (c2, 48, .inl fp))] := hD
  refine lv_aload_n hx hb dX0_lower_39 rfl (lv_at hl 0 rfl) ?_
  refine va_get (D := (dC, dI)) (ci := 0) (v := .ref r0) (C := RX0) (T := TX0) (N := 2) hx hb hts iA_0 hown hK hP 0 rfl rfl 0 (by decide) (hts (.fieldLink RX0 11 "HubTree$Bus" "row" "[I") (List.mem_cons_of_mem _ m_88)) (fun _ h9 => h9) rfl dX0_lower_40 ?_
  refine lv_bipush (v := 56) hx hb dX0_lower_43 (by decide) ?_
  refine lv_iload_n hx hb dX0_lower_45 rfl (lv_at hl 1 rfl) ?_
  refine lv_iadd hx hb dX0_lower_46 ?_
  refine lv_iconst (v := 0) hx hb dX0_lower_47 (by decide) ?_
  obtain ⟨h_5, hG⟩ := q_ix hG
  refine va_iast hx hb hK hP hD hS 1 0 rfl rfl (i := (56 + d)) (x := 0) h_5 dX0_lower_48 (fun H locs hP hD hS => ?_)
  have hP : va_P (dC, dI) vwCl [(g, .inr (0, [.ref r0, .ref h])), (r0, .inl (c0, 98, .inl (upd (upd (upd (upd (upd fr (0 + d).toNatClampNeg ee) (8 + d).toNatClampNeg 0) (16 + d).toNatClampNeg 0) (48 + d).toNatClampNeg (-1)) (56 + d).toNatClampNeg 0))), (h, .inr (5, [.ref r1, .ref r2, .int dv])), (r1, .inl (c1, 8, .inl fu)), (r2, .inl (c2, 48, .inl fp))] H := hP
  have hD : va_D A [(g, .inr (0, [.ref r0, .ref h])), (r0, .inl (c0, 98, .inl (upd (upd (upd (upd (upd fr (0 + d).toNatClampNeg ee) (8 + d).toNatClampNeg 0) (16 + d).toNatClampNeg 0) (48 + d).toNatClampNeg (-1)) (56 + d).toNatClampNeg 0))), (h, .inr (5, [.ref r1, .ref r2, .int dv])), (r1, .inl (c1, 8, .inl fu)), (r2, .inl (c2, 48, .inl fp))] := hD
  refine lv_aload_n hx hb dX0_lower_49 rfl (lv_at hl 0 rfl) ?_
  refine va_get (D := (dC, dI)) (ci := 0) (v := .ref r0) (C := RX0) (T := TX0) (N := 2) hx hb hts iA_0 hown hK hP 0 rfl rfl 0 (by decide) (hts (.fieldLink RX0 11 "HubTree$Bus" "row" "[I") (List.mem_cons_of_mem _ m_88)) (fun _ h9 => h9) rfl dX0_lower_50 ?_
  refine lv_bipush (v := 64) hx hb dX0_lower_53 (by decide) ?_
  refine lv_iload_n hx hb dX0_lower_55 rfl (lv_at hl 1 rfl) ?_
  refine lv_iadd hx hb dX0_lower_56 ?_
  refine lv_iconst (v := 0) hx hb dX0_lower_57 (by decide) ?_
  obtain ⟨h_6, hG⟩ := q_ix hG
  refine va_iast hx hb hK hP hD hS 1 0 rfl rfl (i := (64 + d)) (x := 0) h_6 dX0_lower_58 (fun H locs hP hD hS => ?_)
  have hP : va_P (dC, dI) vwCl [(g, .inr (0, [.ref r0, .ref h])), (r0, .inl (c0, 98, .inl (upd (upd (upd (upd (upd (upd fr (0 + d).toNatClampNeg ee) (8 + d).toNatClampNeg 0) (16 + d).toNatClampNeg 0) (48 + d).toNatClampNeg (-1)) (56 + d).toNatClampNeg 0) (64 + d).toNatClampNeg 0))), (h, .inr (5, [.ref r1, .ref r2, .int dv])), (r1, .inl (c1, 8, .inl fu)), (r2, .inl (c2, 48, .inl fp))] H := hP
  have hD : va_D A [(g, .inr (0, [.ref r0, .ref h])), (r0, .inl (c0, 98, .inl (upd (upd (upd (upd (upd (upd fr (0 + d).toNatClampNeg ee) (8 + d).toNatClampNeg 0) (16 + d).toNatClampNeg 0) (48 + d).toNatClampNeg (-1)) (56 + d).toNatClampNeg 0) (64 + d).toNatClampNeg 0))), (h, .inr (5, [.ref r1, .ref r2, .int dv])), (r1, .inl (c1, 8, .inl fu)), (r2, .inl (c2, 48, .inl fp))] := hD
  refine lv_aload_n hx hb dX0_lower_59 rfl (lv_at hl 0 rfl) ?_
  refine va_get (D := (dC, dI)) (ci := 0) (v := .ref r0) (C := RX0) (T := TX0) (N := 2) hx hb hts iA_0 hown hK hP 0 rfl rfl 0 (by decide) (hts (.fieldLink RX0 11 "HubTree$Bus" "row" "[I") (List.mem_cons_of_mem _ m_88)) (fun _ h9 => h9) rfl dX0_lower_60 ?_
  refine lv_bipush (v := 88) hx hb dX0_lower_63 (by decide) ?_
  refine lv_iload_n hx hb dX0_lower_65 rfl (lv_at hl 1 rfl) ?_
  refine lv_iadd hx hb dX0_lower_66 ?_
  refine lv_iconst (v := 0) hx hb dX0_lower_67 (by decide) ?_
  obtain ⟨h_7, hG⟩ := q_ix hG
  refine va_iast hx hb hK hP hD hS 1 0 rfl rfl (i := (88 + d)) (x := 0) h_7 dX0_lower_68 (fun H locs hP hD hS => ?_)
  have hP : va_P (dC, dI) vwCl [(g, .inr (0, [.ref r0, .ref h])), (r0, .inl (c0, 98, .inl (upd (upd (upd (upd (upd (upd (upd fr (0 + d).toNatClampNeg ee) (8 + d).toNatClampNeg 0) (16 + d).toNatClampNeg 0) (48 + d).toNatClampNeg (-1)) (56 + d).toNatClampNeg 0) (64 + d).toNatClampNeg 0) (88 + d).toNatClampNeg 0))), (h, .inr (5, [.ref r1, .ref r2, .int dv])), (r1, .inl (c1, 8, .inl fu)), (r2, .inl (c2, 48, .inl fp))] H := hP
  have hD : va_D A [(g, .inr (0, [.ref r0, .ref h])), (r0, .inl (c0, 98, .inl (upd (upd (upd (upd (upd (upd (upd fr (0 + d).toNatClampNeg ee) (8 + d).toNatClampNeg 0) (16 + d).toNatClampNeg 0) (48 + d).toNatClampNeg (-1)) (56 + d).toNatClampNeg 0) (64 + d).toNatClampNeg 0) (88 + d).toNatClampNeg 0))), (h, .inr (5, [.ref r1, .ref r2, .int dv])), (r1, .inl (c1, 8, .inl fu)), (r2, .inl (c2, 48, .inl fp))] := hD
  obtain rfl := Option.some.inj hG
  have hP9 := hP.sub (ws' := [(g, .inr (0, [.ref r0, .ref h])), (r0, .inl (c0, 98, .inl (upd (upd (upd (upd (upd (upd (upd fr (0 + d).toNatClampNeg ee) (8 + d).toNatClampNeg 0) (16 + d).toNatClampNeg 0) (48 + d).toNatClampNeg (-1)) (56 + d).toNatClampNeg 0) (64 + d).toNatClampNeg 0) (88 + d).toNatClampNeg 0))), (h, .inr (5, [.ref r1, .ref r2, .int dv])), (r1, .inl (c1, 8, .inl fu)), (r2, .inl (c2, 48, .inl fp))]) [0, 1, 2, 3, 4] rfl
  have hD9 := hD.sub (ws' := [(g, .inr (0, [.ref r0, .ref h])), (r0, .inl (c0, 98, .inl (upd (upd (upd (upd (upd (upd (upd fr (0 + d).toNatClampNeg ee) (8 + d).toNatClampNeg 0) (16 + d).toNatClampNeg 0) (48 + d).toNatClampNeg (-1)) (56 + d).toNatClampNeg 0) (64 + d).toNatClampNeg 0) (88 + d).toNatClampNeg 0))), (h, .inr (5, [.ref r1, .ref r2, .int dv])), (r1, .inl (c1, 8, .inl fu)), (r2, .inl (c2, 48, .inl fp))]) [0, 1, 2, 3, 4] (by decide) rfl
  have hK9 := hK.sub (tys' := [(c0, .int), (c1, .int), (c2, .int)]) [0, 1, 2] rfl
  exact W.vret hx hb hr (fun t ht hW => ⟨⟨(), rfl, trivial, by rw [ht]; exact hP9, va_K.moved hW.alike hK9, hD9⟩, hS.F ht⟩) hS.2.2 dX0_lower_69

def F_X0_leave (fr : Nat → Int32) (dv : Int32) (fu : Nat → Int32) (fp : Nat → Int32) (d : Int32) : Option ((Nat → Int32)) := ((F_X0_lower fr dv fu fp d 0).bind fun o_1 => (if (32 + d) < 0 ∨ 98 ≤ ((32 + d)).toNatClampNeg then none else (if (40 + d) < 0 ∨ 98 ≤ ((40 + d)).toNatClampNeg then none else some ((upd (upd (o_1) (32 + d).toNatClampNeg (-1)) (40 + d).toNatClampNeg (-1))))))
set_option maxHeartbeats 4000000 in
set_option maxRecDepth 100000 in
theorem c_X0_leave (l : Launch) (dC : Nat → ClassId) (dI : Nat → Nat → Nat) (g : Nat) (r0 : Nat) (h : Nat) (r1 : Nat) (r2 : Nat) (dv : Int32) (c0 : ClassId) (fr : Nat → Int32) (c1 : ClassId) (c2 : ClassId) (fu : Nat → Int32) (fp : Nat → Int32) (d : Int32) (A : Nat → Prop) (o : (Nat → Int32)) (hG : F_X0_leave fr dv fu fp d = some o) : Met l yX0_leave (.code yX0_leave cX0_leave 2 none :: wA) ({ frames := 1, cells := 0, slots := 0, locals := 22 }) (va_Pc [.ref g, .int d] (q_W (dC, dI) A [(g, .inr (0, [.ref r0, .ref h])), (r0, .inl (c0, 98, .inl fr)), (h, .inr (5, [.ref r1, .ref r2, .int dv])), (r1, .inl (c1, 8, .inl fu)), (r2, .inl (c2, 48, .inl fp))] [(c0, .int), (c1, .int), (c2, .int)])) (va_Qv (fun _ : Unit => True) (fun (_ : Unit) t => q_B (dC, dI) A [(g, .inr (0, [.ref r0, .ref h])), (r0, .inl (c0, 98, .inl (o))), (h, .inr (5, [.ref r1, .ref r2, .int dv])), (r1, .inl (c1, 8, .inl fu)), (r2, .inl (c2, 48, .inl fp))] [(c0, .int), (c1, .int), (c2, .int)] t) A) 0 0 A := by
  refine Met.ofW (cc := cX0_leave) (maxL := 2) (ret := none) (by decide) rfl ?_
  intro p e s m args below meth c s₁ B hml hv
  obtain ⟨rfl, hP, hK, hD, hA⟩ := hv
  have hx := B.exec
  have hb := B.bytes
  have hr := B.returns
  have hts := atoms_spec (ws := .code yX0_leave cX0_leave 2 none :: wA) B.pre
  have hown : s.vm.findClass RX0 = some m.cls := findClass_of_methodNamed B.named
  have hlocks := B.notSynchronized
  have hS : va_S A s.heap s.heap [] := va_S.rf
  have hl := lv_entry ([.ref g, .int d]) (n := 2) (Nat.le_of_ble_eq_true rfl)
  rw [lg_entry_eq]
  generalize (lg_sl ([.ref g, .int d]) ++ List.replicate (2 - (lg_sl ([.ref g, .int d])).length) Slot.unset).toArray = ls at hl ⊢
  have hl : lv_has ls 2 [(0, .ref g), (1, .int d)] := hl
  unfold F_X0_leave at hG
  refine lv_aload_n hx hb dX0_leave_0 rfl (lv_at hl 0 rfl) ?_
  refine lv_iload_n hx hb dX0_leave_1 rfl (lv_at hl 1 rfl) ?_
  refine lv_iconst (v := 0) hx hb dX0_leave_2 (by decide) ?_
  obtain ⟨o_1, r_2, hG⟩ := q_bi hG
  refine q_gov2 (wr := []) (va_runV (As := [.int d, .int 0]) (rest := []) ⟨hx, hb, hml, hown, hts⟩ (c_X0_lower l dC dI g r0 h r1 r2 dv c0 fr c1 c2 fu fp d 0 (va_A [(g, .inr (0, [.ref r0, .ref h])), (r0, .inl (c0, 98, .inl fr)), (h, .inr (5, [.ref r1, .ref r2, .int dv])), (r1, .inl (c1, 8, .inl fu)), (r2, .inl (c2, 48, .inl fp))] s.heap.size) o_1 r_2) (cwV 2 hts (q_gV m_406 m_407 m_408 m_33 m_409) rfl rfl rfl hdV_yX0_lower_2 ⟨Nat.le_of_ble_eq_true rfl, Nat.le_of_ble_eq_true rfl⟩) (q_preWV hK hP hD (q := (RX0, TX0, 2)) (ci := 0) (q0 := 0) rfl rfl [0, 1, 2, 3, 4] (by decide) rfl rfl [0, 1, 2] rfl) rfl rfl hl.1 rfl (lv_room (Nat.le_of_ble_eq_true rfl)) dX0_leave_3 ⟨Nat.le_of_ble_eq_true rfl, Nat.le_of_ble_eq_true rfl⟩) hK hP hD hS hA [0, 1, 2, 3, 4] [] rfl rfl (by decide) (by decide) (fun _ H locs _ hP hD hK9 hS => ?_)
  have hP : va_P (dC, dI) vwCl [(g, .inr (0, [.ref r0, .ref h])), (r0, .inl (c0, 98, .inl (o_1))), (h, .inr (5, [.ref r1, .ref r2, .int dv])), (r1, .inl (c1, 8, .inl fu)), (r2, .inl (c2, 48, .inl fp))] H := hP.sub [0, 1, 2, 3, 4] rfl
  have hD : va_D A [(g, .inr (0, [.ref r0, .ref h])), (r0, .inl (c0, 98, .inl (o_1))), (h, .inr (5, [.ref r1, .ref r2, .int dv])), (r1, .inl (c1, 8, .inl fu)), (r2, .inl (c2, 48, .inl fp))] := hD.sub [0, 1, 2, 3, 4] (by decide) rfl
  refine lv_aload_n hx hb dX0_leave_6 rfl (lv_at hl 0 rfl) ?_
  refine va_get (D := (dC, dI)) (ci := 0) (v := .ref r0) (C := RX0) (T := TX0) (N := 2) hx hb hts iA_0 hown hK hP 0 rfl rfl 0 (by decide) (hts (.fieldLink RX0 11 "HubTree$Bus" "row" "[I") (List.mem_cons_of_mem _ m_88)) (fun _ h9 => h9) rfl dX0_leave_7 ?_
  refine lv_bipush (v := 32) hx hb dX0_leave_10 (by decide) ?_
  refine lv_iload_n hx hb dX0_leave_12 rfl (lv_at hl 1 rfl) ?_
  refine lv_iadd hx hb dX0_leave_13 ?_
  refine lv_iconst (v := (-1)) hx hb dX0_leave_14 (by decide) ?_
  obtain ⟨h_3, hG⟩ := q_ix hG
  refine va_iast hx hb hK hP hD hS 1 0 rfl rfl (i := (32 + d)) (x := (-1)) h_3 dX0_leave_15 (fun H locs hP hD hS => ?_)
  have hP : va_P (dC, dI) vwCl [(g, .inr (0, [.ref r0, .ref h])), (r0, .inl (c0, 98, .inl (upd (o_1) (32 + d).toNatClampNeg (-1)))), (h, .inr (5, [.ref r1, .ref r2, .int dv])), (r1, .inl (c1, 8, .inl fu)), (r2, .inl (c2, 48, .inl fp))] H := hP
  have hD : va_D A [(g, .inr (0, [.ref r0, .ref h])), (r0, .inl (c0, 98, .inl (upd (o_1) (32 + d).toNatClampNeg (-1)))), (h, .inr (5, [.ref r1, .ref r2, .int dv])), (r1, .inl (c1, 8, .inl fu)), (r2, .inl (c2, 48, .inl fp))] := hD
  refine lv_aload_n hx hb dX0_leave_16 rfl (lv_at hl 0 rfl) ?_
  refine va_get (D := (dC, dI)) (ci := 0) (v := .ref r0) (C := RX0) (T := TX0) (N := 2) hx hb hts iA_0 hown hK hP 0 rfl rfl 0 (by decide) (hts (.fieldLink RX0 11 "HubTree$Bus" "row" "[I") (List.mem_cons_of_mem _ m_88)) (fun _ h9 => h9) rfl dX0_leave_17 ?_
  refine lv_bipush (v := 40) hx hb dX0_leave_20 (by decide) ?_
  refine lv_iload_n hx hb dX0_leave_22 rfl (lv_at hl 1 rfl) ?_
  refine lv_iadd hx hb dX0_leave_23 ?_
  refine lv_iconst (v := (-1)) hx hb dX0_leave_24 (by decide) ?_
  obtain ⟨h_4, hG⟩ := q_ix hG
  refine va_iast hx hb hK hP hD hS 1 0 rfl rfl (i := (40 + d)) (x := (-1)) h_4 dX0_leave_25 (fun H locs hP hD hS => ?_)
  have hP : va_P (dC, dI) vwCl [(g, .inr (0, [.ref r0, .ref h])), (r0, .inl (c0, 98, .inl (upd (upd (o_1) (32 + d).toNatClampNeg (-1)) (40 + d).toNatClampNeg (-1)))), (h, .inr (5, [.ref r1, .ref r2, .int dv])), (r1, .inl (c1, 8, .inl fu)), (r2, .inl (c2, 48, .inl fp))] H := hP
  have hD : va_D A [(g, .inr (0, [.ref r0, .ref h])), (r0, .inl (c0, 98, .inl (upd (upd (o_1) (32 + d).toNatClampNeg (-1)) (40 + d).toNatClampNeg (-1)))), (h, .inr (5, [.ref r1, .ref r2, .int dv])), (r1, .inl (c1, 8, .inl fu)), (r2, .inl (c2, 48, .inl fp))] := hD
  obtain rfl := Option.some.inj hG
  have hP9 := hP.sub (ws' := [(g, .inr (0, [.ref r0, .ref h])), (r0, .inl (c0, 98, .inl (upd (upd (o_1) (32 + d).toNatClampNeg (-1)) (40 + d).toNatClampNeg (-1)))), (h, .inr (5, [.ref r1, .ref r2, .int dv])), (r1, .inl (c1, 8, .inl fu)), (r2, .inl (c2, 48, .inl fp))]) [0, 1, 2, 3, 4] rfl
  have hD9 := hD.sub (ws' := [(g, .inr (0, [.ref r0, .ref h])), (r0, .inl (c0, 98, .inl (upd (upd (o_1) (32 + d).toNatClampNeg (-1)) (40 + d).toNatClampNeg (-1)))), (h, .inr (5, [.ref r1, .ref r2, .int dv])), (r1, .inl (c1, 8, .inl fu)), (r2, .inl (c2, 48, .inl fp))]) [0, 1, 2, 3, 4] (by decide) rfl
  have hK9 := hK.sub (tys' := [(c0, .int), (c1, .int), (c2, .int)]) [0, 1, 2] rfl
  exact W.vret hx hb hr (fun t ht hW => ⟨⟨(), rfl, trivial, by rw [ht]; exact hP9, va_K.moved hW.alike hK9, hD9⟩, hS.F ht⟩) hS.2.2 dX0_leave_26

def F_X0_queue (fr : Nat → Int32) (dv : Int32) (fu : Nat → Int32) (fp : Nat → Int32) (d : Int32) : Option ((Nat → Int32)) := ((F_X0_lower fr dv fu fp d 2).bind fun o_1 => (if (16 + d) < 0 ∨ 98 ≤ ((16 + d)).toNatClampNeg then none else some ((upd (upd (o_1) 97 (((o_1) 97) + 1)) (16 + d).toNatClampNeg ((upd (o_1) 97 (((o_1) 97) + 1)) 97)))))
set_option maxHeartbeats 4000000 in
set_option maxRecDepth 100000 in
theorem c_X0_queue (l : Launch) (dC : Nat → ClassId) (dI : Nat → Nat → Nat) (g : Nat) (r0 : Nat) (h : Nat) (r1 : Nat) (r2 : Nat) (dv : Int32) (c0 : ClassId) (fr : Nat → Int32) (c1 : ClassId) (c2 : ClassId) (fu : Nat → Int32) (fp : Nat → Int32) (d : Int32) (A : Nat → Prop) (o : (Nat → Int32)) (hG : F_X0_queue fr dv fu fp d = some o) : Met l yX0_queue (.code yX0_queue cX0_queue 2 none :: wA) ({ frames := 1, cells := 0, slots := 0, locals := 22 }) (va_Pc [.ref g, .int d] (q_W (dC, dI) A [(g, .inr (0, [.ref r0, .ref h])), (r0, .inl (c0, 98, .inl fr)), (h, .inr (5, [.ref r1, .ref r2, .int dv])), (r1, .inl (c1, 8, .inl fu)), (r2, .inl (c2, 48, .inl fp))] [(c0, .int), (c1, .int), (c2, .int)])) (va_Qv (fun _ : Unit => True) (fun (_ : Unit) t => q_B (dC, dI) A [(g, .inr (0, [.ref r0, .ref h])), (r0, .inl (c0, 98, .inl (o))), (h, .inr (5, [.ref r1, .ref r2, .int dv])), (r1, .inl (c1, 8, .inl fu)), (r2, .inl (c2, 48, .inl fp))] [(c0, .int), (c1, .int), (c2, .int)] t) A) 0 0 A := by
  refine Met.ofW (cc := cX0_queue) (maxL := 2) (ret := none) (by decide) rfl ?_
  intro p e s m args below meth c s₁ B hml hv
  obtain ⟨rfl, hP, hK, hD, hA⟩ := hv
  have hx := B.exec
  have hb := B.bytes
  have hr := B.returns
  have hts := atoms_spec (ws := .code yX0_queue cX0_queue 2 none :: wA) B.pre
  have hown : s.vm.findClass RX0 = some m.cls := findClass_of_methodNamed B.named
  have hlocks := B.notSynchronized
  have hS : va_S A s.heap s.heap [] := va_S.rf
  have hl := lv_entry ([.ref g, .int d]) (n := 2) (Nat.le_of_ble_eq_true rfl)
  rw [lg_entry_eq]
  generalize (lg_sl ([.ref g, .int d]) ++ List.replicate (2 - (lg_sl ([.ref g, .int d])).length) Slot.unset).toArray = ls at hl ⊢
  have hl : lv_has ls 2 [(0, .ref g), (1, .int d)] := hl
  unfold F_X0_queue at hG
  refine lv_aload_n hx hb dX0_queue_0 rfl (lv_at hl 0 rfl) ?_
  refine lv_iload_n hx hb dX0_queue_1 rfl (lv_at hl 1 rfl) ?_
  refine lv_iconst (v := 2) hx hb dX0_queue_2 (by decide) ?_
  obtain ⟨o_1, r_2, hG⟩ := q_bi hG
  refine q_gov2 (wr := []) (va_runV (As := [.int d, .int 2]) (rest := []) ⟨hx, hb, hml, hown, hts⟩ (c_X0_lower l dC dI g r0 h r1 r2 dv c0 fr c1 c2 fu fp d 2 (va_A [(g, .inr (0, [.ref r0, .ref h])), (r0, .inl (c0, 98, .inl fr)), (h, .inr (5, [.ref r1, .ref r2, .int dv])), (r1, .inl (c1, 8, .inl fu)), (r2, .inl (c2, 48, .inl fp))] s.heap.size) o_1 r_2) (cwV 2 hts (q_gV m_406 m_407 m_408 m_33 m_409) rfl rfl rfl hdV_yX0_lower_2 ⟨Nat.le_of_ble_eq_true rfl, Nat.le_of_ble_eq_true rfl⟩) (q_preWV hK hP hD (q := (RX0, TX0, 2)) (ci := 0) (q0 := 0) rfl rfl [0, 1, 2, 3, 4] (by decide) rfl rfl [0, 1, 2] rfl) rfl rfl hl.1 rfl (lv_room (Nat.le_of_ble_eq_true rfl)) dX0_queue_3 ⟨Nat.le_of_ble_eq_true rfl, Nat.le_of_ble_eq_true rfl⟩) hK hP hD hS hA [0, 1, 2, 3, 4] [] rfl rfl (by decide) (by decide) (fun _ H locs _ hP hD hK9 hS => ?_)
  have hP : va_P (dC, dI) vwCl [(g, .inr (0, [.ref r0, .ref h])), (r0, .inl (c0, 98, .inl (o_1))), (h, .inr (5, [.ref r1, .ref r2, .int dv])), (r1, .inl (c1, 8, .inl fu)), (r2, .inl (c2, 48, .inl fp))] H := hP.sub [0, 1, 2, 3, 4] rfl
  have hD : va_D A [(g, .inr (0, [.ref r0, .ref h])), (r0, .inl (c0, 98, .inl (o_1))), (h, .inr (5, [.ref r1, .ref r2, .int dv])), (r1, .inl (c1, 8, .inl fu)), (r2, .inl (c2, 48, .inl fp))] := hD.sub [0, 1, 2, 3, 4] (by decide) rfl
  refine lv_aload_n hx hb dX0_queue_6 rfl (lv_at hl 0 rfl) ?_
  refine va_get (D := (dC, dI)) (ci := 0) (v := .ref r0) (C := RX0) (T := TX0) (N := 2) hx hb hts iA_0 hown hK hP 0 rfl rfl 0 (by decide) (hts (.fieldLink RX0 11 "HubTree$Bus" "row" "[I") (List.mem_cons_of_mem _ m_88)) (fun _ h9 => h9) rfl dX0_queue_7 ?_
  refine lv_bipush (v := 97) hx hb dX0_queue_10 (by decide) ?_
  refine lv_dup2_11 hx hb dX0_queue_12 rfl rfl ?_
  refine va_iald hx hb hK hP 1 0 rfl rfl (i := 97) (vp_in_iff.mpr (by decide)) dX0_queue_13 ?_
  refine q_top (y := ((o_1) 97)) rfl ?_
  refine lv_iconst (v := 1) hx hb dX0_queue_14 (by decide) ?_
  refine lv_iadd hx hb dX0_queue_15 ?_
  refine va_iast hx hb hK hP hD hS 1 0 rfl rfl (i := 97) (x := (((o_1) 97) + 1)) (vp_in_iff.mpr (by decide)) dX0_queue_16 (fun H locs hP hD hS => ?_)
  have hP : va_P (dC, dI) vwCl [(g, .inr (0, [.ref r0, .ref h])), (r0, .inl (c0, 98, .inl (upd (o_1) 97 (((o_1) 97) + 1)))), (h, .inr (5, [.ref r1, .ref r2, .int dv])), (r1, .inl (c1, 8, .inl fu)), (r2, .inl (c2, 48, .inl fp))] H := hP
  have hD : va_D A [(g, .inr (0, [.ref r0, .ref h])), (r0, .inl (c0, 98, .inl (upd (o_1) 97 (((o_1) 97) + 1)))), (h, .inr (5, [.ref r1, .ref r2, .int dv])), (r1, .inl (c1, 8, .inl fu)), (r2, .inl (c2, 48, .inl fp))] := hD
  refine lv_aload_n hx hb dX0_queue_17 rfl (lv_at hl 0 rfl) ?_
  refine va_get (D := (dC, dI)) (ci := 0) (v := .ref r0) (C := RX0) (T := TX0) (N := 2) hx hb hts iA_0 hown hK hP 0 rfl rfl 0 (by decide) (hts (.fieldLink RX0 11 "HubTree$Bus" "row" "[I") (List.mem_cons_of_mem _ m_88)) (fun _ h9 => h9) rfl dX0_queue_18 ?_
  refine lv_bipush (v := 16) hx hb dX0_queue_21 (by decide) ?_
  refine lv_iload_n hx hb dX0_queue_23 rfl (lv_at hl 1 rfl) ?_
  refine lv_iadd hx hb dX0_queue_24 ?_
  refine lv_aload_n hx hb dX0_queue_25 rfl (lv_at hl 0 rfl) ?_
  refine va_get (D := (dC, dI)) (ci := 0) (v := .ref r0) (C := RX0) (T := TX0) (N := 2) hx hb hts iA_0 hown hK hP 0 rfl rfl 0 (by decide) (hts (.fieldLink RX0 11 "HubTree$Bus" "row" "[I") (List.mem_cons_of_mem _ m_88)) (fun _ h9 => h9) rfl dX0_queue_26 ?_
  refine lv_bipush (v := 97) hx hb dX0_queue_29 (by decide) ?_
  refine va_iald hx hb hK hP 1 0 rfl rfl (i := 97) (vp_in_iff.mpr (by decide)) dX0_queue_31 ?_
  refine q_top (y := ((upd (o_1) 97 (((o_1) 97) + 1)) 97)) rfl ?_
  obtain ⟨h_3, hG⟩ := q_ix hG
  refine va_iast hx hb hK hP hD hS 1 0 rfl rfl (i := (16 + d)) (x := ((upd (o_1) 97 (((o_1) 97) + 1)) 97)) h_3 dX0_queue_32 (fun H locs hP hD hS => ?_)
  have hP : va_P (dC, dI) vwCl [(g, .inr (0, [.ref r0, .ref h])), (r0, .inl (c0, 98, .inl (upd (upd (o_1) 97 (((o_1) 97) + 1)) (16 + d).toNatClampNeg ((upd (o_1) 97 (((o_1) 97) + 1)) 97)))), (h, .inr (5, [.ref r1, .ref r2, .int dv])), (r1, .inl (c1, 8, .inl fu)), (r2, .inl (c2, 48, .inl fp))] H := hP
  have hD : va_D A [(g, .inr (0, [.ref r0, .ref h])), (r0, .inl (c0, 98, .inl (upd (upd (o_1) 97 (((o_1) 97) + 1)) (16 + d).toNatClampNeg ((upd (o_1) 97 (((o_1) 97) + 1)) 97)))), (h, .inr (5, [.ref r1, .ref r2, .int dv])), (r1, .inl (c1, 8, .inl fu)), (r2, .inl (c2, 48, .inl fp))] := hD
  obtain rfl := Option.some.inj hG
  have hP9 := hP.sub (ws' := [(g, .inr (0, [.ref r0, .ref h])), (r0, .inl (c0, 98, .inl (upd (upd (o_1) 97 (((o_1) 97) + 1)) (16 + d).toNatClampNeg ((upd (o_1) 97 (((o_1) 97) + 1)) 97)))), (h, .inr (5, [.ref r1, .ref r2, .int dv])), (r1, .inl (c1, 8, .inl fu)), (r2, .inl (c2, 48, .inl fp))]) [0, 1, 2, 3, 4] rfl
  have hD9 := hD.sub (ws' := [(g, .inr (0, [.ref r0, .ref h])), (r0, .inl (c0, 98, .inl (upd (upd (o_1) 97 (((o_1) 97) + 1)) (16 + d).toNatClampNeg ((upd (o_1) 97 (((o_1) 97) + 1)) 97)))), (h, .inr (5, [.ref r1, .ref r2, .int dv])), (r1, .inl (c1, 8, .inl fu)), (r2, .inl (c2, 48, .inl fp))]) [0, 1, 2, 3, 4] (by decide) rfl
  have hK9 := hK.sub (tys' := [(c0, .int), (c1, .int), (c2, .int)]) [0, 1, 2] rfl
  exact W.vret hx hb hr (fun t ht hW => ⟨⟨(), rfl, trivial, by rw [ht]; exact hP9, va_K.moved hW.alike hK9, hD9⟩, hS.F ht⟩) hS.2.2 dX0_queue_33

def FL_X0_refuse_19 (fr : Nat → Int32) (dv : Int32) (fu : Nat → Int32) (fp : Nat → Int32) (d : Int32) (ee : Int32) : Nat → Int32 → (Nat → Int32) → Option ((Nat → Int32))
  | 0, _, _ => none
  | n + 1, x3_19, fr_c => (if dv ≤ x3_19 then some (fr_c) else ((F_X0_hangsOn fr_c dv fu fp x3_19 d).bind fun o_5 => (if o_5 = 0 then (FL_X0_refuse_19 fr dv fu fp d ee n (x3_19 + 1) fr_c) else (if (0 + x3_19) < 0 ∨ 98 ≤ ((0 + x3_19)).toNatClampNeg then none else (if (fr_c (0 + x3_19).toNatClampNeg) < 3 then (FL_X0_refuse_19 fr dv fu fp d ee n (x3_19 + 1) fr_c) else (if (0 + x3_19) < 0 ∨ 98 ≤ ((0 + x3_19)).toNatClampNeg then none else (if 6 < (fr_c (0 + x3_19).toNatClampNeg) then (FL_X0_refuse_19 fr dv fu fp d ee n (x3_19 + 1) fr_c) else ((F_X0_queue fr_c dv fu fp x3_19).bind fun o_12 => (FL_X0_refuse_19 fr dv fu fp d ee n (x3_19 + 1) (o_12))))))))))

def F_X0_refuse (fr : Nat → Int32) (dv : Int32) (fu : Nat → Int32) (fp : Nat → Int32) (d : Int32) (ee : Int32) : Option ((Nat → Int32)) := ((F_X0_lower fr dv fu fp d 7).bind fun o_1 => (if (64 + d) < 0 ∨ 98 ≤ ((64 + d)).toNatClampNeg then none else (FL_X0_refuse_19 fr dv fu fp d ee 1000 0 (upd (o_1) (64 + d).toNatClampNeg ee))))
set_option maxHeartbeats 4000000 in
set_option maxRecDepth 100000 in
theorem c_X0_refuse (l : Launch) (dC : Nat → ClassId) (dI : Nat → Nat → Nat) (g : Nat) (r0 : Nat) (h : Nat) (r1 : Nat) (r2 : Nat) (dv : Int32) (c0 : ClassId) (fr : Nat → Int32) (c1 : ClassId) (c2 : ClassId) (fu : Nat → Int32) (fp : Nat → Int32) (d : Int32) (ee : Int32) (A : Nat → Prop) (o : (Nat → Int32)) (hG : F_X0_refuse fr dv fu fp d ee = some o) : Met l yX0_refuse (.code yX0_refuse cX0_refuse 4 none :: wA) ({ frames := 2, cells := 0, slots := 0, locals := 43 }) (va_Pc [.ref g, .int d, .int ee] (q_W (dC, dI) A [(g, .inr (0, [.ref r0, .ref h])), (r0, .inl (c0, 98, .inl fr)), (h, .inr (5, [.ref r1, .ref r2, .int dv])), (r1, .inl (c1, 8, .inl fu)), (r2, .inl (c2, 48, .inl fp))] [(c0, .int), (c1, .int), (c2, .int)])) (va_Qv (fun _ : Unit => True) (fun (_ : Unit) t => q_B (dC, dI) A [(g, .inr (0, [.ref r0, .ref h])), (r0, .inl (c0, 98, .inl (o))), (h, .inr (5, [.ref r1, .ref r2, .int dv])), (r1, .inl (c1, 8, .inl fu)), (r2, .inl (c2, 48, .inl fp))] [(c0, .int), (c1, .int), (c2, .int)] t) A) 0 0 A := by
  refine Met.ofW (cc := cX0_refuse) (maxL := 4) (ret := none) (by decide) rfl ?_
  intro p e s m args below meth c s₁ B hml hv
  obtain ⟨rfl, hP, hK, hD, hA⟩ := hv
  have hx := B.exec
  have hb := B.bytes
  have hr := B.returns
  have hts := atoms_spec (ws := .code yX0_refuse cX0_refuse 4 none :: wA) B.pre
  have hown : s.vm.findClass RX0 = some m.cls := findClass_of_methodNamed B.named
  have hlocks := B.notSynchronized
  have hS : va_S A s.heap s.heap [] := va_S.rf
  have hl := lv_entry ([.ref g, .int d, .int ee]) (n := 4) (Nat.le_of_ble_eq_true rfl)
  rw [lg_entry_eq]
  generalize (lg_sl ([.ref g, .int d, .int ee]) ++ List.replicate (4 - (lg_sl ([.ref g, .int d, .int ee])).length) Slot.unset).toArray = ls at hl ⊢
  have hl : lv_has ls 4 [(0, .ref g), (1, .int d), (2, .int ee)] := hl
  unfold F_X0_refuse at hG
  refine lv_aload_n hx hb dX0_refuse_0 rfl (lv_at hl 0 rfl) ?_
  refine lv_iload_n hx hb dX0_refuse_1 rfl (lv_at hl 1 rfl) ?_
  refine lv_bipush (v := 7) hx hb dX0_refuse_2 (by decide) ?_
  obtain ⟨o_1, r_2, hG⟩ := q_bi hG
  refine q_gov2 (wr := []) (va_runV (As := [.int d, .int 7]) (rest := []) ⟨hx, hb, hml, hown, hts⟩ (c_X0_lower l dC dI g r0 h r1 r2 dv c0 fr c1 c2 fu fp d 7 (va_A [(g, .inr (0, [.ref r0, .ref h])), (r0, .inl (c0, 98, .inl fr)), (h, .inr (5, [.ref r1, .ref r2, .int dv])), (r1, .inl (c1, 8, .inl fu)), (r2, .inl (c2, 48, .inl fp))] s.heap.size) o_1 r_2) (cwV 2 hts (q_gV m_406 m_407 m_408 m_33 m_409) rfl rfl rfl hdV_yX0_lower_2 ⟨Nat.le_of_ble_eq_true rfl, Nat.le_of_ble_eq_true rfl⟩) (q_preWV hK hP hD (q := (RX0, TX0, 2)) (ci := 0) (q0 := 0) rfl rfl [0, 1, 2, 3, 4] (by decide) rfl rfl [0, 1, 2] rfl) rfl rfl hl.1 rfl (lv_room (Nat.le_of_ble_eq_true rfl)) dX0_refuse_4 ⟨Nat.le_of_ble_eq_true rfl, Nat.le_of_ble_eq_true rfl⟩) hK hP hD hS hA [0, 1, 2, 3, 4] [] rfl rfl (by decide) (by decide) (fun _ H locs _ hP hD hK9 hS => ?_)
  have hP : va_P (dC, dI) vwCl [(g, .inr (0, [.ref r0, .ref h])), (r0, .inl (c0, 98, .inl (o_1))), (h, .inr (5, [.ref r1, .ref r2, .int dv])), (r1, .inl (c1, 8, .inl fu)), (r2, .inl (c2, 48, .inl fp))] H := hP.sub [0, 1, 2, 3, 4] rfl
  have hD : va_D A [(g, .inr (0, [.ref r0, .ref h])), (r0, .inl (c0, 98, .inl (o_1))), (h, .inr (5, [.ref r1, .ref r2, .int dv])), (r1, .inl (c1, 8, .inl fu)), (r2, .inl (c2, 48, .inl fp))] := hD.sub [0, 1, 2, 3, 4] (by decide) rfl
  refine lv_aload_n hx hb dX0_refuse_7 rfl (lv_at hl 0 rfl) ?_
  refine va_get (D := (dC, dI)) (ci := 0) (v := .ref r0) (C := RX0) (T := TX0) (N := 2) hx hb hts iA_0 hown hK hP 0 rfl rfl 0 (by decide) (hts (.fieldLink RX0 11 "HubTree$Bus" "row" "[I") (List.mem_cons_of_mem _ m_88)) (fun _ h9 => h9) rfl dX0_refuse_8 ?_
  refine lv_bipush (v := 64) hx hb dX0_refuse_11 (by decide) ?_
  refine lv_iload_n hx hb dX0_refuse_13 rfl (lv_at hl 1 rfl) ?_
  refine lv_iadd hx hb dX0_refuse_14 ?_
  refine lv_iload_n hx hb dX0_refuse_15 rfl (lv_at hl 2 rfl) ?_
  obtain ⟨h_3, hG⟩ := q_ix hG
  refine va_iast hx hb hK hP hD hS 1 0 rfl rfl (i := (64 + d)) (x := ee) h_3 dX0_refuse_16 (fun H locs hP hD hS => ?_)
  have hP : va_P (dC, dI) vwCl [(g, .inr (0, [.ref r0, .ref h])), (r0, .inl (c0, 98, .inl (upd (o_1) (64 + d).toNatClampNeg ee))), (h, .inr (5, [.ref r1, .ref r2, .int dv])), (r1, .inl (c1, 8, .inl fu)), (r2, .inl (c2, 48, .inl fp))] H := hP
  have hD : va_D A [(g, .inr (0, [.ref r0, .ref h])), (r0, .inl (c0, 98, .inl (upd (o_1) (64 + d).toNatClampNeg ee))), (h, .inr (5, [.ref r1, .ref r2, .int dv])), (r1, .inl (c1, 8, .inl fu)), (r2, .inl (c2, 48, .inl fp))] := hD
  refine lv_iconst (v := 0) hx hb dX0_refuse_17 (by decide) ?_
  refine lv_istore_n (lv' := [(3, .int 0), (0, .ref g), (1, .int d), (2, .int ee)]) hx hb dX0_refuse_18 rfl hl (by decide) rfl (fun ls hl => ?_)
  have L_19 : ∀ (n_19 : Nat) (x3_19 : Int32) (fr_c : Nat → Int32) (H : Heap) (locs : List Loc) (ls : Array Slot), FL_X0_refuse_19 fr dv fu fp d ee n_19 x3_19 fr_c = some o → va_P (dC, dI) vwCl [(g, .inr (0, [.ref r0, .ref h])), (r0, .inl (c0, 98, .inl fr_c)), (h, .inr (5, [.ref r1, .ref r2, .int dv])), (r1, .inl (c1, 8, .inl fu)), (r2, .inl (c2, 48, .inl fp))] H → va_D A [(g, .inr (0, [.ref r0, .ref h])), (r0, .inl (c0, 98, .inl fr_c)), (h, .inr (5, [.ref r1, .ref r2, .int dv])), (r1, .inl (c1, 8, .inl fu)), (r2, .inl (c2, 48, .inl fp))] → va_S A s.heap H locs → lv_has ls 4 [(3, .int x3_19), (0, .ref g), (1, .int d), (2, .int ee)] → W p l e (headSpec (.code yX0_refuse cX0_refuse 4 none :: wA) ({ frames := 2, cells := 0, slots := 0, locals := 43 })).room s m #[.ref g, .int d, .int ee] below meth c H locs 0 0 (MQ below (va_Qv (fun _ : Unit => True) (fun (_ : Unit) t => q_B (dC, dI) A [(g, .inr (0, [.ref r0, .ref h])), (r0, .inl (c0, 98, .inl (o))), (h, .inr (5, [.ref r1, .ref r2, .int dv])), (r1, .inl (c1, 8, .inl fu)), (r2, .inl (c2, 48, .inl fp))] [(c0, .int), (c1, .int), (c2, .int)] t) A) #[.ref g, .int d, .int ee] s 0 0 A) (F0 m 19 ls []) := by
    intro n_19
    induction n_19 with
    | zero =>
      intro x3_19 fr_c H locs ls hG
      exact q_no hG
    | succ n_19 ih_19 =>
      intro x3_19 fr_c H locs ls hG hP hD hS hl
      unfold FL_X0_refuse_19 at hG
      refine lv_iload_n hx hb dX0_refuse_19 rfl (lv_at hl 0 rfl) ?_
      refine lv_aload_n hx hb dX0_refuse_20 rfl (lv_at hl 1 rfl) ?_
      refine va_get (D := (dC, dI)) (ci := 0) (v := .ref h) (C := RX0) (T := TX0) (N := 2) hx hb hts iA_0 hown hK hP 0 rfl rfl 1 (by decide) (hts (.fieldLink RX0 15 "HubTree$Bus" "plan" "LHubTree$Plan;") (List.mem_cons_of_mem _ m_89)) (fun _ h9 => h9) rfl dX0_refuse_21 ?_
      refine va_get (D := (dC, dI)) (ci := 5) (v := .int dv) (C := RX5) (T := TX5) (N := 3) hx hb hts iA_5 hown hK hP 2 rfl rfl 2 (by decide) (hts (.fieldLink RX0 25 "HubTree$Plan" "devices" "I") (List.mem_cons_of_mem _ m_399)) (fun _ h9 => h9) rfl dX0_refuse_24 ?_
      refine lv_icmp_ge (tgt := 75) hx hb dX0_refuse_27 (by decide) (fun c_4 => ?_) (fun c_4 => ?_)
      · have hG := q_ifp c_4 hG
        obtain rfl := Option.some.inj hG
        have hP9 := hP.sub (ws' := [(g, .inr (0, [.ref r0, .ref h])), (r0, .inl (c0, 98, .inl fr_c)), (h, .inr (5, [.ref r1, .ref r2, .int dv])), (r1, .inl (c1, 8, .inl fu)), (r2, .inl (c2, 48, .inl fp))]) [0, 1, 2, 3, 4] rfl
        have hD9 := hD.sub (ws' := [(g, .inr (0, [.ref r0, .ref h])), (r0, .inl (c0, 98, .inl fr_c)), (h, .inr (5, [.ref r1, .ref r2, .int dv])), (r1, .inl (c1, 8, .inl fu)), (r2, .inl (c2, 48, .inl fp))]) [0, 1, 2, 3, 4] (by decide) rfl
        have hK9 := hK.sub (tys' := [(c0, .int), (c1, .int), (c2, .int)]) [0, 1, 2] rfl
        exact W.vret hx hb hr (fun t ht hW => ⟨⟨(), rfl, trivial, by rw [ht]; exact hP9, va_K.moved hW.alike hK9, hD9⟩, hS.F ht⟩) hS.2.2 dX0_refuse_75
      · have hG := q_ifn c_4 hG
        refine lv_aload_n hx hb dX0_refuse_30 rfl (lv_at hl 1 rfl) ?_
        refine lv_iload_n hx hb dX0_refuse_31 rfl (lv_at hl 0 rfl) ?_
        refine lv_iload_n hx hb dX0_refuse_32 rfl (lv_at hl 2 rfl) ?_
        obtain ⟨o_5, r_6, hG⟩ := q_bi hG
        refine q_goi (v := o_5) (va_runV (As := [.int x3_19, .int d]) (rest := []) ⟨hx, hb, hml, hown, hts⟩ (c_X0_hangsOn l dC dI g r0 h r1 r2 dv c0 fr_c c1 c2 fu fp x3_19 d o_5 r_6) (cwV 2 hts (q_gV m_565 m_566 m_567 m_33 m_568) rfl rfl rfl hdV_yX0_hangsOn_2 ⟨Nat.le_of_ble_eq_true rfl, Nat.le_of_ble_eq_true rfl⟩) (q_preV hK hP (q := (RX0, TX0, 2)) (ci := 0) (q0 := 0) rfl rfl [0, 1, 2, 3, 4] rfl [0, 1, 2] rfl) rfl rfl hl.1 rfl (lv_room (Nat.le_of_ble_eq_true rfl)) dX0_refuse_33 ⟨Nat.le_of_ble_eq_true rfl, Nat.le_of_ble_eq_true rfl⟩) hP hS (fun H locs hP hS => ?_)
        refine lv_if_eq (tgt := 69) hx hb dX0_refuse_36 (by decide) (fun c_7 => ?_) (fun c_7 => ?_)
        · have hG := q_ifp c_7 hG
          refine lv_iinc (v := (x3_19 + 1)) (lv' := [(3, .int (x3_19 + 1)), (0, .ref g), (1, .int d), (2, .int ee)]) hx hb dX0_refuse_69 hl (k := 0) rfl (rfl) (by decide) rfl (fun ls hl => ?_)
          refine lv_goto (tgt := 19) hx hb dX0_refuse_72 (by decide) ?_
          exact ih_19 (x3_19 + 1) fr_c H locs ls hG hP hD hS (lv_sub hl [0, 1, 2, 3] rfl)
        · have hG := q_ifn c_7 hG
          refine lv_aload_n hx hb dX0_refuse_39 rfl (lv_at hl 1 rfl) ?_
          refine va_get (D := (dC, dI)) (ci := 0) (v := .ref r0) (C := RX0) (T := TX0) (N := 2) hx hb hts iA_0 hown hK hP 0 rfl rfl 0 (by decide) (hts (.fieldLink RX0 11 "HubTree$Bus" "row" "[I") (List.mem_cons_of_mem _ m_88)) (fun _ h9 => h9) rfl dX0_refuse_40 ?_
          refine lv_iconst (v := 0) hx hb dX0_refuse_43 (by decide) ?_
          refine lv_iload_n hx hb dX0_refuse_44 rfl (lv_at hl 0 rfl) ?_
          refine lv_iadd hx hb dX0_refuse_45 ?_
          obtain ⟨h_8, hG⟩ := q_ix hG
          refine va_iald hx hb hK hP 1 0 rfl rfl (i := (0 + x3_19)) h_8 dX0_refuse_46 ?_
          refine q_top (y := (fr_c (0 + x3_19).toNatClampNeg)) rfl ?_
          refine lv_iconst (v := 3) hx hb dX0_refuse_47 (by decide) ?_
          refine lv_icmp_lt (tgt := 69) hx hb dX0_refuse_48 (by decide) (fun c_9 => ?_) (fun c_9 => ?_)
          · have hG := q_ifp c_9 hG
            refine lv_iinc (v := (x3_19 + 1)) (lv' := [(3, .int (x3_19 + 1)), (0, .ref g), (1, .int d), (2, .int ee)]) hx hb dX0_refuse_69 hl (k := 0) rfl (rfl) (by decide) rfl (fun ls hl => ?_)
            refine lv_goto (tgt := 19) hx hb dX0_refuse_72 (by decide) ?_
            exact ih_19 (x3_19 + 1) fr_c H locs ls hG hP hD hS (lv_sub hl [0, 1, 2, 3] rfl)
          · have hG := q_ifn c_9 hG
            refine lv_aload_n hx hb dX0_refuse_51 rfl (lv_at hl 1 rfl) ?_
            refine va_get (D := (dC, dI)) (ci := 0) (v := .ref r0) (C := RX0) (T := TX0) (N := 2) hx hb hts iA_0 hown hK hP 0 rfl rfl 0 (by decide) (hts (.fieldLink RX0 11 "HubTree$Bus" "row" "[I") (List.mem_cons_of_mem _ m_88)) (fun _ h9 => h9) rfl dX0_refuse_52 ?_
            refine lv_iconst (v := 0) hx hb dX0_refuse_55 (by decide) ?_
            refine lv_iload_n hx hb dX0_refuse_56 rfl (lv_at hl 0 rfl) ?_
            refine lv_iadd hx hb dX0_refuse_57 ?_
            obtain ⟨h_10, hG⟩ := q_ix hG
            refine va_iald hx hb hK hP 1 0 rfl rfl (i := (0 + x3_19)) h_10 dX0_refuse_58 ?_
            refine q_top (y := (fr_c (0 + x3_19).toNatClampNeg)) rfl ?_
            refine lv_bipush (v := 6) hx hb dX0_refuse_59 (by decide) ?_
            refine lv_icmp_gt (tgt := 69) hx hb dX0_refuse_61 (by decide) (fun c_11 => ?_) (fun c_11 => ?_)
            · have hG := q_ifp c_11 hG
              refine lv_iinc (v := (x3_19 + 1)) (lv' := [(3, .int (x3_19 + 1)), (0, .ref g), (1, .int d), (2, .int ee)]) hx hb dX0_refuse_69 hl (k := 0) rfl (rfl) (by decide) rfl (fun ls hl => ?_)
              refine lv_goto (tgt := 19) hx hb dX0_refuse_72 (by decide) ?_
              exact ih_19 (x3_19 + 1) fr_c H locs ls hG hP hD hS (lv_sub hl [0, 1, 2, 3] rfl)
            · have hG := q_ifn c_11 hG
              refine lv_aload_n hx hb dX0_refuse_64 rfl (lv_at hl 1 rfl) ?_
              refine lv_iload_n hx hb dX0_refuse_65 rfl (lv_at hl 0 rfl) ?_
              obtain ⟨o_12, r_13, hG⟩ := q_bi hG
              refine q_gov2 (wr := []) (va_runV (As := [.int x3_19]) (rest := []) ⟨hx, hb, hml, hown, hts⟩ (c_X0_queue l dC dI g r0 h r1 r2 dv c0 fr_c c1 c2 fu fp x3_19 (va_A [(g, .inr (0, [.ref r0, .ref h])), (r0, .inl (c0, 98, .inl fr_c)), (h, .inr (5, [.ref r1, .ref r2, .int dv])), (r1, .inl (c1, 8, .inl fu)), (r2, .inl (c2, 48, .inl fp))] H.size) o_12 r_13) (cwV 1 hts (q_gV m_816 m_817 m_818 m_33 m_819) rfl rfl rfl hdV_yX0_queue_1 ⟨Nat.le_of_ble_eq_true rfl, Nat.le_of_ble_eq_true rfl⟩) (q_preWV hK hP hD (q := (RX0, TX0, 2)) (ci := 0) (q0 := 0) rfl rfl [0, 1, 2, 3, 4] (by decide) rfl rfl [0, 1, 2] rfl) rfl rfl hl.1 rfl (lv_room (Nat.le_of_ble_eq_true rfl)) dX0_refuse_66 ⟨Nat.le_of_ble_eq_true rfl, Nat.le_of_ble_eq_true rfl⟩) hK hP hD hS hA [0, 1, 2, 3, 4] [] rfl rfl (by decide) (by decide) (fun _ H locs _ hP hD hK9 hS => ?_)
              have hP : va_P (dC, dI) vwCl [(g, .inr (0, [.ref r0, .ref h])), (r0, .inl (c0, 98, .inl (o_12))), (h, .inr (5, [.ref r1, .ref r2, .int dv])), (r1, .inl (c1, 8, .inl fu)), (r2, .inl (c2, 48, .inl fp))] H := hP.sub [0, 1, 2, 3, 4] rfl
              have hD : va_D A [(g, .inr (0, [.ref r0, .ref h])), (r0, .inl (c0, 98, .inl (o_12))), (h, .inr (5, [.ref r1, .ref r2, .int dv])), (r1, .inl (c1, 8, .inl fu)), (r2, .inl (c2, 48, .inl fp))] := hD.sub [0, 1, 2, 3, 4] (by decide) rfl
              refine lv_iinc (v := (x3_19 + 1)) (lv' := [(3, .int (x3_19 + 1)), (0, .ref g), (1, .int d), (2, .int ee)]) hx hb dX0_refuse_69 hl (k := 0) rfl (rfl) (by decide) rfl (fun ls hl => ?_)
              refine lv_goto (tgt := 19) hx hb dX0_refuse_72 (by decide) ?_
              exact ih_19 (x3_19 + 1) (o_12) H locs ls hG hP hD hS (lv_sub hl [0, 1, 2, 3] rfl)
  exact L_19 1000 0 (upd (o_1) (64 + d).toNatClampNeg ee) H locs ls hG hP hD hS hl

def FL_X0_shed_2 (fr : Nat → Int32) (dv : Int32) (fu : Nat → Int32) (fp : Nat → Int32) (d : Int32) : Nat → Int32 → (Nat → Int32) → Option ((Nat → Int32))
  | 0, _, _ => none
  | n + 1, x2_2, fr_c => (if 8 ≤ x2_2 then some (fr_c) else ((F_X0_greatestTaker fr_c dv fu fp d).bind fun o_2 => (if o_2 = (-1) then some (fr_c) else ((F_X0_takesOf fr_c dv fu fp o_2).bind fun o_5 => ((F_X0_portGives fr_c dv fu fp d).bind fun o_7 => (if o_7 < o_5 then ((F_X0_refuse fr_c dv fu fp o_2 2).bind fun o_10 => (FL_X0_shed_2 fr dv fu fp d n (x2_2 + 1) (o_10))) else ((F_X0_leftOf fr_c dv fu fp d (-1)).bind fun o_12 => (if o_12 < 0 then ((F_X0_refuse fr_c dv fu fp o_2 2).bind fun o_15 => (FL_X0_shed_2 fr dv fu fp d n (x2_2 + 1) (o_15))) else some (fr_c)))))))))

def F_X0_shed (fr : Nat → Int32) (dv : Int32) (fu : Nat → Int32) (fp : Nat → Int32) (d : Int32) : Option ((Nat → Int32)) := (FL_X0_shed_2 fr dv fu fp d 1000 0 fr)
set_option maxHeartbeats 4000000 in
set_option maxRecDepth 100000 in
theorem c_X0_shed (l : Launch) (dC : Nat → ClassId) (dI : Nat → Nat → Nat) (g : Nat) (r0 : Nat) (h : Nat) (r1 : Nat) (r2 : Nat) (dv : Int32) (c0 : ClassId) (fr : Nat → Int32) (c1 : ClassId) (c2 : ClassId) (fu : Nat → Int32) (fp : Nat → Int32) (d : Int32) (A : Nat → Prop) (o : (Nat → Int32)) (hG : F_X0_shed fr dv fu fp d = some o) : Met l yX0_shed (.code yX0_shed cX0_shed 4 none :: wA) ({ frames := 3, cells := 0, slots := 0, locals := 66 }) (va_Pc [.ref g, .int d] (q_W (dC, dI) A [(g, .inr (0, [.ref r0, .ref h])), (r0, .inl (c0, 98, .inl fr)), (h, .inr (5, [.ref r1, .ref r2, .int dv])), (r1, .inl (c1, 8, .inl fu)), (r2, .inl (c2, 48, .inl fp))] [(c0, .int), (c1, .int), (c2, .int)])) (va_Qv (fun _ : Unit => True) (fun (_ : Unit) t => q_B (dC, dI) A [(g, .inr (0, [.ref r0, .ref h])), (r0, .inl (c0, 98, .inl (o))), (h, .inr (5, [.ref r1, .ref r2, .int dv])), (r1, .inl (c1, 8, .inl fu)), (r2, .inl (c2, 48, .inl fp))] [(c0, .int), (c1, .int), (c2, .int)] t) A) 0 0 A := by
  refine Met.ofW (cc := cX0_shed) (maxL := 4) (ret := none) (by decide) rfl ?_
  intro p e s m args below meth c s₁ B hml hv
  obtain ⟨rfl, hP, hK, hD, hA⟩ := hv
  have hx := B.exec
  have hb := B.bytes
  have hr := B.returns
  have hts := atoms_spec (ws := .code yX0_shed cX0_shed 4 none :: wA) B.pre
  have hown : s.vm.findClass RX0 = some m.cls := findClass_of_methodNamed B.named
  have hlocks := B.notSynchronized
  have hS : va_S A s.heap s.heap [] := va_S.rf
  have hl := lv_entry ([.ref g, .int d]) (n := 4) (Nat.le_of_ble_eq_true rfl)
  rw [lg_entry_eq]
  generalize (lg_sl ([.ref g, .int d]) ++ List.replicate (4 - (lg_sl ([.ref g, .int d])).length) Slot.unset).toArray = ls at hl ⊢
  have hl : lv_has ls 4 [(0, .ref g), (1, .int d)] := hl
  unfold F_X0_shed at hG
  refine lv_iconst (v := 0) hx hb dX0_shed_0 (by decide) ?_
  refine lv_istore_n (lv' := [(2, .int 0), (0, .ref g), (1, .int d)]) hx hb dX0_shed_1 rfl hl (by decide) rfl (fun ls hl => ?_)
  have L_2 : ∀ (n_2 : Nat) (x2_2 : Int32) (fr_c : Nat → Int32) (H : Heap) (locs : List Loc) (ls : Array Slot), FL_X0_shed_2 fr dv fu fp d n_2 x2_2 fr_c = some o → va_P (dC, dI) vwCl [(g, .inr (0, [.ref r0, .ref h])), (r0, .inl (c0, 98, .inl fr_c)), (h, .inr (5, [.ref r1, .ref r2, .int dv])), (r1, .inl (c1, 8, .inl fu)), (r2, .inl (c2, 48, .inl fp))] H → va_D A [(g, .inr (0, [.ref r0, .ref h])), (r0, .inl (c0, 98, .inl fr_c)), (h, .inr (5, [.ref r1, .ref r2, .int dv])), (r1, .inl (c1, 8, .inl fu)), (r2, .inl (c2, 48, .inl fp))] → va_S A s.heap H locs → lv_has ls 4 [(2, .int x2_2), (0, .ref g), (1, .int d)] → W p l e (headSpec (.code yX0_shed cX0_shed 4 none :: wA) ({ frames := 3, cells := 0, slots := 0, locals := 66 })).room s m #[.ref g, .int d] below meth c H locs 0 0 (MQ below (va_Qv (fun _ : Unit => True) (fun (_ : Unit) t => q_B (dC, dI) A [(g, .inr (0, [.ref r0, .ref h])), (r0, .inl (c0, 98, .inl (o))), (h, .inr (5, [.ref r1, .ref r2, .int dv])), (r1, .inl (c1, 8, .inl fu)), (r2, .inl (c2, 48, .inl fp))] [(c0, .int), (c1, .int), (c2, .int)] t) A) #[.ref g, .int d] s 0 0 A) (F0 m 2 ls []) := by
    intro n_2
    induction n_2 with
    | zero =>
      intro x2_2 fr_c H locs ls hG
      exact q_no hG
    | succ n_2 ih_2 =>
      intro x2_2 fr_c H locs ls hG hP hD hS hl
      unfold FL_X0_shed_2 at hG
      refine lv_iload_n hx hb dX0_shed_2 rfl (lv_at hl 0 rfl) ?_
      refine lv_bipush (v := 8) hx hb dX0_shed_3 (by decide) ?_
      refine lv_icmp_ge (tgt := 54) hx hb dX0_shed_5 (by decide) (fun c_1 => ?_) (fun c_1 => ?_)
      · have hG := q_ifp c_1 hG
        obtain rfl := Option.some.inj hG
        have hP9 := hP.sub (ws' := [(g, .inr (0, [.ref r0, .ref h])), (r0, .inl (c0, 98, .inl fr_c)), (h, .inr (5, [.ref r1, .ref r2, .int dv])), (r1, .inl (c1, 8, .inl fu)), (r2, .inl (c2, 48, .inl fp))]) [0, 1, 2, 3, 4] rfl
        have hD9 := hD.sub (ws' := [(g, .inr (0, [.ref r0, .ref h])), (r0, .inl (c0, 98, .inl fr_c)), (h, .inr (5, [.ref r1, .ref r2, .int dv])), (r1, .inl (c1, 8, .inl fu)), (r2, .inl (c2, 48, .inl fp))]) [0, 1, 2, 3, 4] (by decide) rfl
        have hK9 := hK.sub (tys' := [(c0, .int), (c1, .int), (c2, .int)]) [0, 1, 2] rfl
        exact W.vret hx hb hr (fun t ht hW => ⟨⟨(), rfl, trivial, by rw [ht]; exact hP9, va_K.moved hW.alike hK9, hD9⟩, hS.F ht⟩) hS.2.2 dX0_shed_54
      · have hG := q_ifn c_1 hG
        refine lv_aload_n hx hb dX0_shed_8 rfl (lv_at hl 1 rfl) ?_
        refine lv_iload_n hx hb dX0_shed_9 rfl (lv_at hl 2 rfl) ?_
        obtain ⟨o_2, r_3, hG⟩ := q_bi hG
        refine q_goi (v := o_2) (va_runV (As := [.int d]) (rest := []) ⟨hx, hb, hml, hown, hts⟩ (c_X0_greatestTaker l dC dI g r0 h r1 r2 dv c0 fr_c c1 c2 fu fp d o_2 r_3) (cwV 1 hts (q_gV m_868 m_869 m_870 m_33 m_871) rfl rfl rfl hdV_yX0_greatestTaker_1 ⟨Nat.le_of_ble_eq_true rfl, Nat.le_of_ble_eq_true rfl⟩) (q_preV hK hP (q := (RX0, TX0, 2)) (ci := 0) (q0 := 0) rfl rfl [0, 1, 2, 3, 4] rfl [0, 1, 2] rfl) rfl rfl hl.1 rfl (lv_room (Nat.le_of_ble_eq_true rfl)) dX0_shed_10 ⟨Nat.le_of_ble_eq_true rfl, Nat.le_of_ble_eq_true rfl⟩) hP hS (fun H locs hP hS => ?_)
        refine lv_istore_n (lv' := [(3, .int o_2), (2, .int x2_2), (0, .ref g), (1, .int d)]) hx hb dX0_shed_13 rfl hl (by decide) rfl (fun ls hl => ?_)
        refine lv_iload_n hx hb dX0_shed_14 rfl (lv_at hl 0 rfl) ?_
        refine lv_iconst (v := (-1)) hx hb dX0_shed_15 (by decide) ?_
        refine lv_icmp_eq (tgt := 41) hx hb dX0_shed_16 (by decide) (fun c_4 => ?_) (fun c_4 => ?_)
        · have hG := q_ifp c_4 hG
          obtain rfl := Option.some.inj hG
          have hP9 := hP.sub (ws' := [(g, .inr (0, [.ref r0, .ref h])), (r0, .inl (c0, 98, .inl fr_c)), (h, .inr (5, [.ref r1, .ref r2, .int dv])), (r1, .inl (c1, 8, .inl fu)), (r2, .inl (c2, 48, .inl fp))]) [0, 1, 2, 3, 4] rfl
          have hD9 := hD.sub (ws' := [(g, .inr (0, [.ref r0, .ref h])), (r0, .inl (c0, 98, .inl fr_c)), (h, .inr (5, [.ref r1, .ref r2, .int dv])), (r1, .inl (c1, 8, .inl fu)), (r2, .inl (c2, 48, .inl fp))]) [0, 1, 2, 3, 4] (by decide) rfl
          have hK9 := hK.sub (tys' := [(c0, .int), (c1, .int), (c2, .int)]) [0, 1, 2] rfl
          exact W.vret hx hb hr (fun t ht hW => ⟨⟨(), rfl, trivial, by rw [ht]; exact hP9, va_K.moved hW.alike hK9, hD9⟩, hS.F ht⟩) hS.2.2 dX0_shed_41
        · have hG := q_ifn c_4 hG
          refine lv_aload_n hx hb dX0_shed_19 rfl (lv_at hl 2 rfl) ?_
          refine lv_iload_n hx hb dX0_shed_20 rfl (lv_at hl 0 rfl) ?_
          obtain ⟨o_5, r_6, hG⟩ := q_bi hG
          refine q_goi (v := o_5) (va_runV (As := [.int o_2]) (rest := []) ⟨hx, hb, hml, hown, hts⟩ (c_X0_takesOf l dC dI g r0 h r1 r2 dv c0 fr_c c1 c2 fu fp o_2 o_5 r_6) (cwV 1 hts (q_gV m_591 m_492 m_493 m_33 m_494) rfl rfl rfl hdV_yX0_takesOf_1 ⟨Nat.le_of_ble_eq_true rfl, Nat.le_of_ble_eq_true rfl⟩) (q_preV hK hP (q := (RX0, TX0, 2)) (ci := 0) (q0 := 0) rfl rfl [0, 1, 2, 3, 4] rfl [0, 1, 2] rfl) rfl rfl hl.1 rfl (lv_room (Nat.le_of_ble_eq_true rfl)) dX0_shed_21 ⟨Nat.le_of_ble_eq_true rfl, Nat.le_of_ble_eq_true rfl⟩) hP hS (fun H locs hP hS => ?_)
          refine lv_aload_n hx hb dX0_shed_24 rfl (lv_at hl 2 rfl) ?_
          refine lv_iload_n hx hb dX0_shed_25 rfl (lv_at hl 3 rfl) ?_
          obtain ⟨o_7, r_8, hG⟩ := q_bi hG
          refine q_goi (v := o_7) (va_runV (As := [.int d]) (rest := [.int o_5]) ⟨hx, hb, hml, hown, hts⟩ (c_X0_portGives l dC dI g r0 h r1 r2 dv c0 fr_c c1 c2 fu fp d o_7 r_8) (cwV 1 hts (q_gV m_590 m_574 m_575 m_33 m_576) rfl rfl rfl hdV_yX0_portGives_1 ⟨Nat.le_of_ble_eq_true rfl, Nat.le_of_ble_eq_true rfl⟩) (q_preV hK hP (q := (RX0, TX0, 2)) (ci := 0) (q0 := 0) rfl rfl [0, 1, 2, 3, 4] rfl [0, 1, 2] rfl) rfl rfl hl.1 rfl (lv_room (Nat.le_of_ble_eq_true rfl)) dX0_shed_26 ⟨Nat.le_of_ble_eq_true rfl, Nat.le_of_ble_eq_true rfl⟩) hP hS (fun H locs hP hS => ?_)
          refine lv_icmp_gt (tgt := 42) hx hb dX0_shed_29 (by decide) (fun c_9 => ?_) (fun c_9 => ?_)
          · have hG := q_ifp c_9 hG
            refine lv_aload_n hx hb dX0_shed_42 rfl (lv_at hl 2 rfl) ?_
            refine lv_iload_n hx hb dX0_shed_43 rfl (lv_at hl 0 rfl) ?_
            refine lv_iconst (v := 2) hx hb dX0_shed_44 (by decide) ?_
            obtain ⟨o_10, r_11, hG⟩ := q_bi hG
            refine q_gov2 (wr := []) (va_runV (As := [.int o_2, .int 2]) (rest := []) ⟨hx, hb, hml, hown, hts⟩ (c_X0_refuse l dC dI g r0 h r1 r2 dv c0 fr_c c1 c2 fu fp o_2 2 (va_A [(g, .inr (0, [.ref r0, .ref h])), (r0, .inl (c0, 98, .inl fr_c)), (h, .inr (5, [.ref r1, .ref r2, .int dv])), (r1, .inl (c1, 8, .inl fu)), (r2, .inl (c2, 48, .inl fp))] H.size) o_10 r_11) (cwV 2 hts (q_gV m_838 m_839 m_840 m_33 m_841) rfl rfl rfl hdV_yX0_refuse_2 ⟨Nat.le_of_ble_eq_true rfl, Nat.le_of_ble_eq_true rfl⟩) (q_preWV hK hP hD (q := (RX0, TX0, 2)) (ci := 0) (q0 := 0) rfl rfl [0, 1, 2, 3, 4] (by decide) rfl rfl [0, 1, 2] rfl) rfl rfl hl.1 rfl (lv_room (Nat.le_of_ble_eq_true rfl)) dX0_shed_45 ⟨Nat.le_of_ble_eq_true rfl, Nat.le_of_ble_eq_true rfl⟩) hK hP hD hS hA [0, 1, 2, 3, 4] [] rfl rfl (by decide) (by decide) (fun _ H locs _ hP hD hK9 hS => ?_)
            have hP : va_P (dC, dI) vwCl [(g, .inr (0, [.ref r0, .ref h])), (r0, .inl (c0, 98, .inl (o_10))), (h, .inr (5, [.ref r1, .ref r2, .int dv])), (r1, .inl (c1, 8, .inl fu)), (r2, .inl (c2, 48, .inl fp))] H := hP.sub [0, 1, 2, 3, 4] rfl
            have hD : va_D A [(g, .inr (0, [.ref r0, .ref h])), (r0, .inl (c0, 98, .inl (o_10))), (h, .inr (5, [.ref r1, .ref r2, .int dv])), (r1, .inl (c1, 8, .inl fu)), (r2, .inl (c2, 48, .inl fp))] := hD.sub [0, 1, 2, 3, 4] (by decide) rfl
            refine lv_iinc (v := (x2_2 + 1)) (lv' := [(2, .int (x2_2 + 1)), (3, .int o_2), (0, .ref g), (1, .int d)]) hx hb dX0_shed_48 hl (k := 1) rfl (rfl) (by decide) rfl (fun ls hl => ?_)
            refine lv_goto (tgt := 2) hx hb dX0_shed_51 (by decide) ?_
            exact ih_2 (x2_2 + 1) (o_10) H locs ls hG hP hD hS (lv_sub hl [0, 2, 3] rfl)
          · have hG := q_ifn c_9 hG
            refine lv_aload_n hx hb dX0_shed_32 rfl (lv_at hl 2 rfl) ?_
            refine lv_iload_n hx hb dX0_shed_33 rfl (lv_at hl 3 rfl) ?_
            refine lv_iconst (v := (-1)) hx hb dX0_shed_34 (by decide) ?_
            obtain ⟨o_12, r_13, hG⟩ := q_bi hG
            refine q_goi (v := o_12) (va_runV (As := [.int d, .int (-1)]) (rest := []) ⟨hx, hb, hml, hown, hts⟩ (c_X0_leftOf l dC dI g r0 h r1 r2 dv c0 fr_c c1 c2 fu fp d (-1) o_12 r_13) (cwV 2 hts (q_gV m_761 m_587 m_588 m_33 m_589) rfl rfl rfl hdV_yX0_leftOf_2 ⟨Nat.le_of_ble_eq_true rfl, Nat.le_of_ble_eq_true rfl⟩) (q_preV hK hP (q := (RX0, TX0, 2)) (ci := 0) (q0 := 0) rfl rfl [0, 1, 2, 3, 4] rfl [0, 1, 2] rfl) rfl rfl hl.1 rfl (lv_room (Nat.le_of_ble_eq_true rfl)) dX0_shed_35 ⟨Nat.le_of_ble_eq_true rfl, Nat.le_of_ble_eq_true rfl⟩) hP hS (fun H locs hP hS => ?_)
            refine lv_if_lt (tgt := 42) hx hb dX0_shed_38 (by decide) (fun c_14 => ?_) (fun c_14 => ?_)
            · have hG := q_ifp c_14 hG
              refine lv_aload_n hx hb dX0_shed_42 rfl (lv_at hl 2 rfl) ?_
              refine lv_iload_n hx hb dX0_shed_43 rfl (lv_at hl 0 rfl) ?_
              refine lv_iconst (v := 2) hx hb dX0_shed_44 (by decide) ?_
              obtain ⟨o_15, r_16, hG⟩ := q_bi hG
              refine q_gov2 (wr := []) (va_runV (As := [.int o_2, .int 2]) (rest := []) ⟨hx, hb, hml, hown, hts⟩ (c_X0_refuse l dC dI g r0 h r1 r2 dv c0 fr_c c1 c2 fu fp o_2 2 (va_A [(g, .inr (0, [.ref r0, .ref h])), (r0, .inl (c0, 98, .inl fr_c)), (h, .inr (5, [.ref r1, .ref r2, .int dv])), (r1, .inl (c1, 8, .inl fu)), (r2, .inl (c2, 48, .inl fp))] H.size) o_15 r_16) (cwV 2 hts (q_gV m_838 m_839 m_840 m_33 m_841) rfl rfl rfl hdV_yX0_refuse_2 ⟨Nat.le_of_ble_eq_true rfl, Nat.le_of_ble_eq_true rfl⟩) (q_preWV hK hP hD (q := (RX0, TX0, 2)) (ci := 0) (q0 := 0) rfl rfl [0, 1, 2, 3, 4] (by decide) rfl rfl [0, 1, 2] rfl) rfl rfl hl.1 rfl (lv_room (Nat.le_of_ble_eq_true rfl)) dX0_shed_45 ⟨Nat.le_of_ble_eq_true rfl, Nat.le_of_ble_eq_true rfl⟩) hK hP hD hS hA [0, 1, 2, 3, 4] [] rfl rfl (by decide) (by decide) (fun _ H locs _ hP hD hK9 hS => ?_)
              have hP : va_P (dC, dI) vwCl [(g, .inr (0, [.ref r0, .ref h])), (r0, .inl (c0, 98, .inl (o_15))), (h, .inr (5, [.ref r1, .ref r2, .int dv])), (r1, .inl (c1, 8, .inl fu)), (r2, .inl (c2, 48, .inl fp))] H := hP.sub [0, 1, 2, 3, 4] rfl
              have hD : va_D A [(g, .inr (0, [.ref r0, .ref h])), (r0, .inl (c0, 98, .inl (o_15))), (h, .inr (5, [.ref r1, .ref r2, .int dv])), (r1, .inl (c1, 8, .inl fu)), (r2, .inl (c2, 48, .inl fp))] := hD.sub [0, 1, 2, 3, 4] (by decide) rfl
              refine lv_iinc (v := (x2_2 + 1)) (lv' := [(2, .int (x2_2 + 1)), (3, .int o_2), (0, .ref g), (1, .int d)]) hx hb dX0_shed_48 hl (k := 1) rfl (rfl) (by decide) rfl (fun ls hl => ?_)
              refine lv_goto (tgt := 2) hx hb dX0_shed_51 (by decide) ?_
              exact ih_2 (x2_2 + 1) (o_15) H locs ls hG hP hD hS (lv_sub hl [0, 2, 3] rfl)
            · have hG := q_ifn c_14 hG
              obtain rfl := Option.some.inj hG
              have hP9 := hP.sub (ws' := [(g, .inr (0, [.ref r0, .ref h])), (r0, .inl (c0, 98, .inl fr_c)), (h, .inr (5, [.ref r1, .ref r2, .int dv])), (r1, .inl (c1, 8, .inl fu)), (r2, .inl (c2, 48, .inl fp))]) [0, 1, 2, 3, 4] rfl
              have hD9 := hD.sub (ws' := [(g, .inr (0, [.ref r0, .ref h])), (r0, .inl (c0, 98, .inl fr_c)), (h, .inr (5, [.ref r1, .ref r2, .int dv])), (r1, .inl (c1, 8, .inl fu)), (r2, .inl (c2, 48, .inl fp))]) [0, 1, 2, 3, 4] (by decide) rfl
              have hK9 := hK.sub (tys' := [(c0, .int), (c1, .int), (c2, .int)]) [0, 1, 2] rfl
              exact W.vret hx hb hr (fun t ht hW => ⟨⟨(), rfl, trivial, by rw [ht]; exact hP9, va_K.moved hW.alike hK9, hD9⟩, hS.F ht⟩) hS.2.2 dX0_shed_41
  exact L_2 1000 0 fr s.heap [] ls hG hP hD hS hl

def F_X0_putIn (fr : Nat → Int32) (dv : Int32) (fu : Nat → Int32) (fp : Nat → Int32) (d : Int32) (ee : Int32) (e2 : Int32) : Option ((Nat → Int32)) := ((F_X0_lower fr dv fu fp d 1).bind fun o_1 => (if (8 + d) < 0 ∨ 98 ≤ ((8 + d)).toNatClampNeg then none else (if (24 + d) < 0 ∨ 98 ≤ ((24 + d)).toNatClampNeg then none else (if (32 + d) < 0 ∨ 98 ≤ ((32 + d)).toNatClampNeg then none else (if (40 + d) < 0 ∨ 98 ≤ ((40 + d)).toNatClampNeg then none else some ((upd (upd (upd (upd (o_1) (8 + d).toNatClampNeg (fu 1)) (24 + d).toNatClampNeg 0) (32 + d).toNatClampNeg ee) (40 + d).toNatClampNeg e2)))))))
set_option maxHeartbeats 4000000 in
set_option maxRecDepth 100000 in
theorem c_X0_putIn (l : Launch) (dC : Nat → ClassId) (dI : Nat → Nat → Nat) (g : Nat) (r0 : Nat) (h : Nat) (r1 : Nat) (r2 : Nat) (dv : Int32) (c0 : ClassId) (fr : Nat → Int32) (c1 : ClassId) (c2 : ClassId) (fu : Nat → Int32) (fp : Nat → Int32) (d : Int32) (ee : Int32) (e2 : Int32) (A : Nat → Prop) (o : (Nat → Int32)) (hG : F_X0_putIn fr dv fu fp d ee e2 = some o) : Met l yX0_putIn (.code yX0_putIn cX0_putIn 4 none :: wA) ({ frames := 1, cells := 0, slots := 0, locals := 22 }) (va_Pc [.ref g, .int d, .int ee, .int e2] (q_W (dC, dI) A [(g, .inr (0, [.ref r0, .ref h])), (r0, .inl (c0, 98, .inl fr)), (h, .inr (5, [.ref r1, .ref r2, .int dv])), (r1, .inl (c1, 8, .inl fu)), (r2, .inl (c2, 48, .inl fp))] [(c0, .int), (c1, .int), (c2, .int)])) (va_Qv (fun _ : Unit => True) (fun (_ : Unit) t => q_B (dC, dI) A [(g, .inr (0, [.ref r0, .ref h])), (r0, .inl (c0, 98, .inl (o))), (h, .inr (5, [.ref r1, .ref r2, .int dv])), (r1, .inl (c1, 8, .inl fu)), (r2, .inl (c2, 48, .inl fp))] [(c0, .int), (c1, .int), (c2, .int)] t) A) 0 0 A := by
  refine Met.ofW (cc := cX0_putIn) (maxL := 4) (ret := none) (by decide) rfl ?_
  intro p e s m args below meth c s₁ B hml hv
  obtain ⟨rfl, hP, hK, hD, hA⟩ := hv
  have hx := B.exec
  have hb := B.bytes
  have hr := B.returns
  have hts := atoms_spec (ws := .code yX0_putIn cX0_putIn 4 none :: wA) B.pre
  have hown : s.vm.findClass RX0 = some m.cls := findClass_of_methodNamed B.named
  have hlocks := B.notSynchronized
  have hS : va_S A s.heap s.heap [] := va_S.rf
  have hl := lv_entry ([.ref g, .int d, .int ee, .int e2]) (n := 4) (Nat.le_of_ble_eq_true rfl)
  rw [lg_entry_eq]
  generalize (lg_sl ([.ref g, .int d, .int ee, .int e2]) ++ List.replicate (4 - (lg_sl ([.ref g, .int d, .int ee, .int e2])).length) Slot.unset).toArray = ls at hl ⊢
  have hl : lv_has ls 4 [(0, .ref g), (1, .int d), (2, .int ee), (3, .int e2)] := hl
  unfold F_X0_putIn at hG
  refine lv_aload_n hx hb dX0_putIn_0 rfl (lv_at hl 0 rfl) ?_
  refine lv_iload_n hx hb dX0_putIn_1 rfl (lv_at hl 1 rfl) ?_
  refine lv_iconst (v := 1) hx hb dX0_putIn_2 (by decide) ?_
  obtain ⟨o_1, r_2, hG⟩ := q_bi hG
  refine q_gov2 (wr := []) (va_runV (As := [.int d, .int 1]) (rest := []) ⟨hx, hb, hml, hown, hts⟩ (c_X0_lower l dC dI g r0 h r1 r2 dv c0 fr c1 c2 fu fp d 1 (va_A [(g, .inr (0, [.ref r0, .ref h])), (r0, .inl (c0, 98, .inl fr)), (h, .inr (5, [.ref r1, .ref r2, .int dv])), (r1, .inl (c1, 8, .inl fu)), (r2, .inl (c2, 48, .inl fp))] s.heap.size) o_1 r_2) (cwV 2 hts (q_gV m_406 m_407 m_408 m_33 m_409) rfl rfl rfl hdV_yX0_lower_2 ⟨Nat.le_of_ble_eq_true rfl, Nat.le_of_ble_eq_true rfl⟩) (q_preWV hK hP hD (q := (RX0, TX0, 2)) (ci := 0) (q0 := 0) rfl rfl [0, 1, 2, 3, 4] (by decide) rfl rfl [0, 1, 2] rfl) rfl rfl hl.1 rfl (lv_room (Nat.le_of_ble_eq_true rfl)) dX0_putIn_3 ⟨Nat.le_of_ble_eq_true rfl, Nat.le_of_ble_eq_true rfl⟩) hK hP hD hS hA [0, 1, 2, 3, 4] [] rfl rfl (by decide) (by decide) (fun _ H locs _ hP hD hK9 hS => ?_)
  have hP : va_P (dC, dI) vwCl [(g, .inr (0, [.ref r0, .ref h])), (r0, .inl (c0, 98, .inl (o_1))), (h, .inr (5, [.ref r1, .ref r2, .int dv])), (r1, .inl (c1, 8, .inl fu)), (r2, .inl (c2, 48, .inl fp))] H := hP.sub [0, 1, 2, 3, 4] rfl
  have hD : va_D A [(g, .inr (0, [.ref r0, .ref h])), (r0, .inl (c0, 98, .inl (o_1))), (h, .inr (5, [.ref r1, .ref r2, .int dv])), (r1, .inl (c1, 8, .inl fu)), (r2, .inl (c2, 48, .inl fp))] := hD.sub [0, 1, 2, 3, 4] (by decide) rfl
  refine lv_aload_n hx hb dX0_putIn_6 rfl (lv_at hl 0 rfl) ?_
  refine va_get (D := (dC, dI)) (ci := 0) (v := .ref r0) (C := RX0) (T := TX0) (N := 2) hx hb hts iA_0 hown hK hP 0 rfl rfl 0 (by decide) (hts (.fieldLink RX0 11 "HubTree$Bus" "row" "[I") (List.mem_cons_of_mem _ m_88)) (fun _ h9 => h9) rfl dX0_putIn_7 ?_
  refine lv_bipush (v := 8) hx hb dX0_putIn_10 (by decide) ?_
  refine lv_iload_n hx hb dX0_putIn_12 rfl (lv_at hl 1 rfl) ?_
  refine lv_iadd hx hb dX0_putIn_13 ?_
  refine lv_aload_n hx hb dX0_putIn_14 rfl (lv_at hl 0 rfl) ?_
  refine va_get (D := (dC, dI)) (ci := 0) (v := .ref h) (C := RX0) (T := TX0) (N := 2) hx hb hts iA_0 hown hK hP 0 rfl rfl 1 (by decide) (hts (.fieldLink RX0 15 "HubTree$Bus" "plan" "LHubTree$Plan;") (List.mem_cons_of_mem _ m_89)) (fun _ h9 => h9) rfl dX0_putIn_15 ?_
  refine va_get (D := (dC, dI)) (ci := 5) (v := .ref r1) (C := RX5) (T := TX5) (N := 3) hx hb hts iA_5 hown hK hP 2 rfl rfl 0 (by decide) (hts (.fieldLink RX0 84 "HubTree$Plan" "rules" "[I") (List.mem_cons_of_mem _ m_577)) (fun _ h9 => h9) rfl dX0_putIn_18 ?_
  refine lv_iconst (v := 1) hx hb dX0_putIn_21 (by decide) ?_
  refine va_iald hx hb hK hP 3 1 rfl rfl (i := 1) (vp_in_iff.mpr (by decide)) dX0_putIn_22 ?_
  refine q_top (y := (fu 1)) rfl ?_
  obtain ⟨h_3, hG⟩ := q_ix hG
  refine va_iast hx hb hK hP hD hS 1 0 rfl rfl (i := (8 + d)) (x := (fu 1)) h_3 dX0_putIn_23 (fun H locs hP hD hS => ?_)
  have hP : va_P (dC, dI) vwCl [(g, .inr (0, [.ref r0, .ref h])), (r0, .inl (c0, 98, .inl (upd (o_1) (8 + d).toNatClampNeg (fu 1)))), (h, .inr (5, [.ref r1, .ref r2, .int dv])), (r1, .inl (c1, 8, .inl fu)), (r2, .inl (c2, 48, .inl fp))] H := hP
  have hD : va_D A [(g, .inr (0, [.ref r0, .ref h])), (r0, .inl (c0, 98, .inl (upd (o_1) (8 + d).toNatClampNeg (fu 1)))), (h, .inr (5, [.ref r1, .ref r2, .int dv])), (r1, .inl (c1, 8, .inl fu)), (r2, .inl (c2, 48, .inl fp))] := hD
  refine lv_aload_n hx hb dX0_putIn_24 rfl (lv_at hl 0 rfl) ?_
  refine va_get (D := (dC, dI)) (ci := 0) (v := .ref r0) (C := RX0) (T := TX0) (N := 2) hx hb hts iA_0 hown hK hP 0 rfl rfl 0 (by decide) (hts (.fieldLink RX0 11 "HubTree$Bus" "row" "[I") (List.mem_cons_of_mem _ m_88)) (fun _ h9 => h9) rfl dX0_putIn_25 ?_
  refine lv_bipush (v := 24) hx hb dX0_putIn_28 (by decide) ?_
  refine lv_iload_n hx hb dX0_putIn_30 rfl (lv_at hl 1 rfl) ?_
  refine lv_iadd hx hb dX0_putIn_31 ?_
  refine lv_iconst (v := 0) hx hb dX0_putIn_32 (by decide) ?_
  obtain ⟨h_4, hG⟩ := q_ix hG
  refine va_iast hx hb hK hP hD hS 1 0 rfl rfl (i := (24 + d)) (x := 0) h_4 dX0_putIn_33 (fun H locs hP hD hS => ?_)
  have hP : va_P (dC, dI) vwCl [(g, .inr (0, [.ref r0, .ref h])), (r0, .inl (c0, 98, .inl (upd (upd (o_1) (8 + d).toNatClampNeg (fu 1)) (24 + d).toNatClampNeg 0))), (h, .inr (5, [.ref r1, .ref r2, .int dv])), (r1, .inl (c1, 8, .inl fu)), (r2, .inl (c2, 48, .inl fp))] H := hP
  have hD : va_D A [(g, .inr (0, [.ref r0, .ref h])), (r0, .inl (c0, 98, .inl (upd (upd (o_1) (8 + d).toNatClampNeg (fu 1)) (24 + d).toNatClampNeg 0))), (h, .inr (5, [.ref r1, .ref r2, .int dv])), (r1, .inl (c1, 8, .inl fu)), (r2, .inl (c2, 48, .inl fp))] := hD
  refine lv_aload_n hx hb dX0_putIn_34 rfl (lv_at hl 0 rfl) ?_
  refine va_get (D := (dC, dI)) (ci := 0) (v := .ref r0) (C := RX0) (T := TX0) (N := 2) hx hb hts iA_0 hown hK hP 0 rfl rfl 0 (by decide) (hts (.fieldLink RX0 11 "HubTree$Bus" "row" "[I") (List.mem_cons_of_mem _ m_88)) (fun _ h9 => h9) rfl dX0_putIn_35 ?_
  refine lv_bipush (v := 32) hx hb dX0_putIn_38 (by decide) ?_
  refine lv_iload_n hx hb dX0_putIn_40 rfl (lv_at hl 1 rfl) ?_
  refine lv_iadd hx hb dX0_putIn_41 ?_
  refine lv_iload_n hx hb dX0_putIn_42 rfl (lv_at hl 2 rfl) ?_
  obtain ⟨h_5, hG⟩ := q_ix hG
  refine va_iast hx hb hK hP hD hS 1 0 rfl rfl (i := (32 + d)) (x := ee) h_5 dX0_putIn_43 (fun H locs hP hD hS => ?_)
  have hP : va_P (dC, dI) vwCl [(g, .inr (0, [.ref r0, .ref h])), (r0, .inl (c0, 98, .inl (upd (upd (upd (o_1) (8 + d).toNatClampNeg (fu 1)) (24 + d).toNatClampNeg 0) (32 + d).toNatClampNeg ee))), (h, .inr (5, [.ref r1, .ref r2, .int dv])), (r1, .inl (c1, 8, .inl fu)), (r2, .inl (c2, 48, .inl fp))] H := hP
  have hD : va_D A [(g, .inr (0, [.ref r0, .ref h])), (r0, .inl (c0, 98, .inl (upd (upd (upd (o_1) (8 + d).toNatClampNeg (fu 1)) (24 + d).toNatClampNeg 0) (32 + d).toNatClampNeg ee))), (h, .inr (5, [.ref r1, .ref r2, .int dv])), (r1, .inl (c1, 8, .inl fu)), (r2, .inl (c2, 48, .inl fp))] := hD
  refine lv_aload_n hx hb dX0_putIn_44 rfl (lv_at hl 0 rfl) ?_
  refine va_get (D := (dC, dI)) (ci := 0) (v := .ref r0) (C := RX0) (T := TX0) (N := 2) hx hb hts iA_0 hown hK hP 0 rfl rfl 0 (by decide) (hts (.fieldLink RX0 11 "HubTree$Bus" "row" "[I") (List.mem_cons_of_mem _ m_88)) (fun _ h9 => h9) rfl dX0_putIn_45 ?_
  refine lv_bipush (v := 40) hx hb dX0_putIn_48 (by decide) ?_
  refine lv_iload_n hx hb dX0_putIn_50 rfl (lv_at hl 1 rfl) ?_
  refine lv_iadd hx hb dX0_putIn_51 ?_
  refine lv_iload_n hx hb dX0_putIn_52 rfl (lv_at hl 3 rfl) ?_
  obtain ⟨h_6, hG⟩ := q_ix hG
  refine va_iast hx hb hK hP hD hS 1 0 rfl rfl (i := (40 + d)) (x := e2) h_6 dX0_putIn_53 (fun H locs hP hD hS => ?_)
  have hP : va_P (dC, dI) vwCl [(g, .inr (0, [.ref r0, .ref h])), (r0, .inl (c0, 98, .inl (upd (upd (upd (upd (o_1) (8 + d).toNatClampNeg (fu 1)) (24 + d).toNatClampNeg 0) (32 + d).toNatClampNeg ee) (40 + d).toNatClampNeg e2))), (h, .inr (5, [.ref r1, .ref r2, .int dv])), (r1, .inl (c1, 8, .inl fu)), (r2, .inl (c2, 48, .inl fp))] H := hP
  have hD : va_D A [(g, .inr (0, [.ref r0, .ref h])), (r0, .inl (c0, 98, .inl (upd (upd (upd (upd (o_1) (8 + d).toNatClampNeg (fu 1)) (24 + d).toNatClampNeg 0) (32 + d).toNatClampNeg ee) (40 + d).toNatClampNeg e2))), (h, .inr (5, [.ref r1, .ref r2, .int dv])), (r1, .inl (c1, 8, .inl fu)), (r2, .inl (c2, 48, .inl fp))] := hD
  obtain rfl := Option.some.inj hG
  have hP9 := hP.sub (ws' := [(g, .inr (0, [.ref r0, .ref h])), (r0, .inl (c0, 98, .inl (upd (upd (upd (upd (o_1) (8 + d).toNatClampNeg (fu 1)) (24 + d).toNatClampNeg 0) (32 + d).toNatClampNeg ee) (40 + d).toNatClampNeg e2))), (h, .inr (5, [.ref r1, .ref r2, .int dv])), (r1, .inl (c1, 8, .inl fu)), (r2, .inl (c2, 48, .inl fp))]) [0, 1, 2, 3, 4] rfl
  have hD9 := hD.sub (ws' := [(g, .inr (0, [.ref r0, .ref h])), (r0, .inl (c0, 98, .inl (upd (upd (upd (upd (o_1) (8 + d).toNatClampNeg (fu 1)) (24 + d).toNatClampNeg 0) (32 + d).toNatClampNeg ee) (40 + d).toNatClampNeg e2))), (h, .inr (5, [.ref r1, .ref r2, .int dv])), (r1, .inl (c1, 8, .inl fu)), (r2, .inl (c2, 48, .inl fp))]) [0, 1, 2, 3, 4] (by decide) rfl
  have hK9 := hK.sub (tys' := [(c0, .int), (c1, .int), (c2, .int)]) [0, 1, 2] rfl
  exact W.vret hx hb hr (fun t ht hW => ⟨⟨(), rfl, trivial, by rw [ht]; exact hP9, va_K.moved hW.alike hK9, hD9⟩, hS.F ht⟩) hS.2.2 dX0_putIn_54

def FL_X0_pullOut_12 (fr : Nat → Int32) (dv : Int32) (fu : Nat → Int32) (fp : Nat → Int32) (d : Int32) : Nat → Int32 → Int32 → (Nat → Int32) → Option ((Nat → Int32))
  | 0, _, _, _ => none
  | n + 1, x2_12, x3_12, fr_c => (if dv ≤ x3_12 then some (fr_c) else (if ((x2_12 >>> (x3_12 &&& 31)) &&& 1) = 1 then ((F_X0_leave fr_c dv fu fp x3_12).bind fun o_5 => (FL_X0_pullOut_12 fr dv fu fp d n x2_12 (x3_12 + 1) (o_5))) else (FL_X0_pullOut_12 fr dv fu fp d n x2_12 (x3_12 + 1) fr_c)))

def F_X0_pullOut (fr : Nat → Int32) (dv : Int32) (fu : Nat → Int32) (fp : Nat → Int32) (d : Int32) : Option ((Nat → Int32)) := ((F_X0_beneath fr dv fu fp d).bind fun o_1 => (FL_X0_pullOut_12 fr dv fu fp d 1000 (o_1 ||| (1 <<< (d &&& 31))) 0 fr))
set_option maxHeartbeats 4000000 in
set_option maxRecDepth 100000 in
theorem c_X0_pullOut (l : Launch) (dC : Nat → ClassId) (dI : Nat → Nat → Nat) (g : Nat) (r0 : Nat) (h : Nat) (r1 : Nat) (r2 : Nat) (dv : Int32) (c0 : ClassId) (fr : Nat → Int32) (c1 : ClassId) (c2 : ClassId) (fu : Nat → Int32) (fp : Nat → Int32) (d : Int32) (A : Nat → Prop) (o : (Nat → Int32)) (hG : F_X0_pullOut fr dv fu fp d = some o) : Met l yX0_pullOut (.code yX0_pullOut cX0_pullOut 4 none :: wA) ({ frames := 2, cells := 0, slots := 0, locals := 47 }) (va_Pc [.ref g, .int d] (q_W (dC, dI) A [(g, .inr (0, [.ref r0, .ref h])), (r0, .inl (c0, 98, .inl fr)), (h, .inr (5, [.ref r1, .ref r2, .int dv])), (r1, .inl (c1, 8, .inl fu)), (r2, .inl (c2, 48, .inl fp))] [(c0, .int), (c1, .int), (c2, .int)])) (va_Qv (fun _ : Unit => True) (fun (_ : Unit) t => q_B (dC, dI) A [(g, .inr (0, [.ref r0, .ref h])), (r0, .inl (c0, 98, .inl (o))), (h, .inr (5, [.ref r1, .ref r2, .int dv])), (r1, .inl (c1, 8, .inl fu)), (r2, .inl (c2, 48, .inl fp))] [(c0, .int), (c1, .int), (c2, .int)] t) A) 0 0 A := by
  refine Met.ofW (cc := cX0_pullOut) (maxL := 4) (ret := none) (by decide) rfl ?_
  intro p e s m args below meth c s₁ B hml hv
  obtain ⟨rfl, hP, hK, hD, hA⟩ := hv
  have hx := B.exec
  have hb := B.bytes
  have hr := B.returns
  have hts := atoms_spec (ws := .code yX0_pullOut cX0_pullOut 4 none :: wA) B.pre
  have hown : s.vm.findClass RX0 = some m.cls := findClass_of_methodNamed B.named
  have hlocks := B.notSynchronized
  have hS : va_S A s.heap s.heap [] := va_S.rf
  have hl := lv_entry ([.ref g, .int d]) (n := 4) (Nat.le_of_ble_eq_true rfl)
  rw [lg_entry_eq]
  generalize (lg_sl ([.ref g, .int d]) ++ List.replicate (4 - (lg_sl ([.ref g, .int d])).length) Slot.unset).toArray = ls at hl ⊢
  have hl : lv_has ls 4 [(0, .ref g), (1, .int d)] := hl
  unfold F_X0_pullOut at hG
  refine lv_aload_n hx hb dX0_pullOut_0 rfl (lv_at hl 0 rfl) ?_
  refine lv_iload_n hx hb dX0_pullOut_1 rfl (lv_at hl 1 rfl) ?_
  obtain ⟨o_1, r_2, hG⟩ := q_bi hG
  refine q_goi (v := o_1) (va_runV (As := [.int d]) (rest := []) ⟨hx, hb, hml, hown, hts⟩ (c_X0_beneath l dC dI g r0 h r1 r2 dv c0 fr c1 c2 fu fp d o_1 r_2) (cwV 1 hts (q_gV m_807 m_562 m_563 m_33 m_564) rfl rfl rfl hdV_yX0_beneath_1 ⟨Nat.le_of_ble_eq_true rfl, Nat.le_of_ble_eq_true rfl⟩) (q_preV hK hP (q := (RX0, TX0, 2)) (ci := 0) (q0 := 0) rfl rfl [0, 1, 2, 3, 4] rfl [0, 1, 2] rfl) rfl rfl hl.1 rfl (lv_room (Nat.le_of_ble_eq_true rfl)) dX0_pullOut_2 ⟨Nat.le_of_ble_eq_true rfl, Nat.le_of_ble_eq_true rfl⟩) hP hS (fun H locs hP hS => ?_)
  refine lv_iconst (v := 1) hx hb dX0_pullOut_5 (by decide) ?_
  refine lv_iload_n hx hb dX0_pullOut_6 rfl (lv_at hl 1 rfl) ?_
  refine lv_ishl hx hb dX0_pullOut_7 ?_
  refine lv_ior hx hb dX0_pullOut_8 ?_
  refine lv_istore_n (lv' := [(2, .int (o_1 ||| (1 <<< (d &&& 31)))), (0, .ref g), (1, .int d)]) hx hb dX0_pullOut_9 rfl hl (by decide) rfl (fun ls hl => ?_)
  refine lv_iconst (v := 0) hx hb dX0_pullOut_10 (by decide) ?_
  refine lv_istore_n (lv' := [(3, .int 0), (2, .int (o_1 ||| (1 <<< (d &&& 31)))), (0, .ref g), (1, .int d)]) hx hb dX0_pullOut_11 rfl hl (by decide) rfl (fun ls hl => ?_)
  have L_12 : ∀ (n_12 : Nat) (x2_12 : Int32) (x3_12 : Int32) (fr_c : Nat → Int32) (H : Heap) (locs : List Loc) (ls : Array Slot), FL_X0_pullOut_12 fr dv fu fp d n_12 x2_12 x3_12 fr_c = some o → va_P (dC, dI) vwCl [(g, .inr (0, [.ref r0, .ref h])), (r0, .inl (c0, 98, .inl fr_c)), (h, .inr (5, [.ref r1, .ref r2, .int dv])), (r1, .inl (c1, 8, .inl fu)), (r2, .inl (c2, 48, .inl fp))] H → va_D A [(g, .inr (0, [.ref r0, .ref h])), (r0, .inl (c0, 98, .inl fr_c)), (h, .inr (5, [.ref r1, .ref r2, .int dv])), (r1, .inl (c1, 8, .inl fu)), (r2, .inl (c2, 48, .inl fp))] → va_S A s.heap H locs → lv_has ls 4 [(3, .int x3_12), (2, .int x2_12), (0, .ref g), (1, .int d)] → W p l e (headSpec (.code yX0_pullOut cX0_pullOut 4 none :: wA) ({ frames := 2, cells := 0, slots := 0, locals := 47 })).room s m #[.ref g, .int d] below meth c H locs 0 0 (MQ below (va_Qv (fun _ : Unit => True) (fun (_ : Unit) t => q_B (dC, dI) A [(g, .inr (0, [.ref r0, .ref h])), (r0, .inl (c0, 98, .inl (o))), (h, .inr (5, [.ref r1, .ref r2, .int dv])), (r1, .inl (c1, 8, .inl fu)), (r2, .inl (c2, 48, .inl fp))] [(c0, .int), (c1, .int), (c2, .int)] t) A) #[.ref g, .int d] s 0 0 A) (F0 m 12 ls []) := by
    intro n_12
    induction n_12 with
    | zero =>
      intro x2_12 x3_12 fr_c H locs ls hG
      exact q_no hG
    | succ n_12 ih_12 =>
      intro x2_12 x3_12 fr_c H locs ls hG hP hD hS hl
      unfold FL_X0_pullOut_12 at hG
      refine lv_iload_n hx hb dX0_pullOut_12 rfl (lv_at hl 0 rfl) ?_
      refine lv_aload_n hx hb dX0_pullOut_13 rfl (lv_at hl 2 rfl) ?_
      refine va_get (D := (dC, dI)) (ci := 0) (v := .ref h) (C := RX0) (T := TX0) (N := 2) hx hb hts iA_0 hown hK hP 0 rfl rfl 1 (by decide) (hts (.fieldLink RX0 15 "HubTree$Bus" "plan" "LHubTree$Plan;") (List.mem_cons_of_mem _ m_89)) (fun _ h9 => h9) rfl dX0_pullOut_14 ?_
      refine va_get (D := (dC, dI)) (ci := 5) (v := .int dv) (C := RX5) (T := TX5) (N := 3) hx hb hts iA_5 hown hK hP 2 rfl rfl 2 (by decide) (hts (.fieldLink RX0 25 "HubTree$Plan" "devices" "I") (List.mem_cons_of_mem _ m_399)) (fun _ h9 => h9) rfl dX0_pullOut_17 ?_
      refine lv_icmp_ge (tgt := 43) hx hb dX0_pullOut_20 (by decide) (fun c_3 => ?_) (fun c_3 => ?_)
      · have hG := q_ifp c_3 hG
        obtain rfl := Option.some.inj hG
        have hP9 := hP.sub (ws' := [(g, .inr (0, [.ref r0, .ref h])), (r0, .inl (c0, 98, .inl fr_c)), (h, .inr (5, [.ref r1, .ref r2, .int dv])), (r1, .inl (c1, 8, .inl fu)), (r2, .inl (c2, 48, .inl fp))]) [0, 1, 2, 3, 4] rfl
        have hD9 := hD.sub (ws' := [(g, .inr (0, [.ref r0, .ref h])), (r0, .inl (c0, 98, .inl fr_c)), (h, .inr (5, [.ref r1, .ref r2, .int dv])), (r1, .inl (c1, 8, .inl fu)), (r2, .inl (c2, 48, .inl fp))]) [0, 1, 2, 3, 4] (by decide) rfl
        have hK9 := hK.sub (tys' := [(c0, .int), (c1, .int), (c2, .int)]) [0, 1, 2] rfl
        exact W.vret hx hb hr (fun t ht hW => ⟨⟨(), rfl, trivial, by rw [ht]; exact hP9, va_K.moved hW.alike hK9, hD9⟩, hS.F ht⟩) hS.2.2 dX0_pullOut_43
      · have hG := q_ifn c_3 hG
        refine lv_iload_n hx hb dX0_pullOut_23 rfl (lv_at hl 1 rfl) ?_
        refine lv_iload_n hx hb dX0_pullOut_24 rfl (lv_at hl 0 rfl) ?_
        refine lv_ishr hx hb dX0_pullOut_25 ?_
        refine lv_iconst (v := 1) hx hb dX0_pullOut_26 (by decide) ?_
        refine lv_iand hx hb dX0_pullOut_27 ?_
        refine lv_iconst (v := 1) hx hb dX0_pullOut_28 (by decide) ?_
        refine lv_icmp_ne (tgt := 37) hx hb dX0_pullOut_29 (by decide) (fun c_4 => ?_) (fun c_4 => ?_)
        · have hG := q_ifn c_4 hG
          refine lv_iinc (v := (x3_12 + 1)) (lv' := [(3, .int (x3_12 + 1)), (2, .int x2_12), (0, .ref g), (1, .int d)]) hx hb dX0_pullOut_37 hl (k := 0) rfl (rfl) (by decide) rfl (fun ls hl => ?_)
          refine lv_goto (tgt := 12) hx hb dX0_pullOut_40 (by decide) ?_
          exact ih_12 x2_12 (x3_12 + 1) fr_c H locs ls hG hP hD hS (lv_sub hl [0, 1, 2, 3] rfl)
        · have hG := q_ifp c_4 hG
          refine lv_aload_n hx hb dX0_pullOut_32 rfl (lv_at hl 2 rfl) ?_
          refine lv_iload_n hx hb dX0_pullOut_33 rfl (lv_at hl 0 rfl) ?_
          obtain ⟨o_5, r_6, hG⟩ := q_bi hG
          refine q_gov2 (wr := []) (va_runV (As := [.int x3_12]) (rest := []) ⟨hx, hb, hml, hown, hts⟩ (c_X0_leave l dC dI g r0 h r1 r2 dv c0 fr_c c1 c2 fu fp x3_12 (va_A [(g, .inr (0, [.ref r0, .ref h])), (r0, .inl (c0, 98, .inl fr_c)), (h, .inr (5, [.ref r1, .ref r2, .int dv])), (r1, .inl (c1, 8, .inl fu)), (r2, .inl (c2, 48, .inl fp))] H.size) o_5 r_6) (cwV 1 hts (q_gV m_402 m_403 m_404 m_33 m_405) rfl rfl rfl hdV_yX0_leave_1 ⟨Nat.le_of_ble_eq_true rfl, Nat.le_of_ble_eq_true rfl⟩) (q_preWV hK hP hD (q := (RX0, TX0, 2)) (ci := 0) (q0 := 0) rfl rfl [0, 1, 2, 3, 4] (by decide) rfl rfl [0, 1, 2] rfl) rfl rfl hl.1 rfl (lv_room (Nat.le_of_ble_eq_true rfl)) dX0_pullOut_34 ⟨Nat.le_of_ble_eq_true rfl, Nat.le_of_ble_eq_true rfl⟩) hK hP hD hS hA [0, 1, 2, 3, 4] [] rfl rfl (by decide) (by decide) (fun _ H locs _ hP hD hK9 hS => ?_)
          have hP : va_P (dC, dI) vwCl [(g, .inr (0, [.ref r0, .ref h])), (r0, .inl (c0, 98, .inl (o_5))), (h, .inr (5, [.ref r1, .ref r2, .int dv])), (r1, .inl (c1, 8, .inl fu)), (r2, .inl (c2, 48, .inl fp))] H := hP.sub [0, 1, 2, 3, 4] rfl
          have hD : va_D A [(g, .inr (0, [.ref r0, .ref h])), (r0, .inl (c0, 98, .inl (o_5))), (h, .inr (5, [.ref r1, .ref r2, .int dv])), (r1, .inl (c1, 8, .inl fu)), (r2, .inl (c2, 48, .inl fp))] := hD.sub [0, 1, 2, 3, 4] (by decide) rfl
          refine lv_iinc (v := (x3_12 + 1)) (lv' := [(3, .int (x3_12 + 1)), (2, .int x2_12), (0, .ref g), (1, .int d)]) hx hb dX0_pullOut_37 hl (k := 0) rfl (rfl) (by decide) rfl (fun ls hl => ?_)
          refine lv_goto (tgt := 12) hx hb dX0_pullOut_40 (by decide) ?_
          exact ih_12 x2_12 (x3_12 + 1) (o_5) H locs ls hG hP hD hS (lv_sub hl [0, 1, 2, 3] rfl)
  exact L_12 1000 (o_1 ||| (1 <<< (d &&& 31))) 0 fr H locs ls hG hP hD hS hl

def F_X0_switchSupply (fr : Nat → Int32) (dv : Int32) (fu : Nat → Int32) (fp : Nat → Int32) (d : Int32) : Option ((Nat → Int32)) := (if (72 + d) < 0 ∨ 98 ≤ ((72 + d)).toNatClampNeg then none else (if (72 + d) < 0 ∨ 98 ≤ ((72 + d)).toNatClampNeg then none else (if (72 + d) < 0 ∨ 98 ≤ ((72 + d)).toNatClampNeg then none else (if ((upd fr (72 + d).toNatClampNeg (1 - (fr (72 + d).toNatClampNeg))) (72 + d).toNatClampNeg) = 1 then some ((upd fr (72 + d).toNatClampNeg (1 - (fr (72 + d).toNatClampNeg)))) else (if (0 + d) < 0 ∨ 98 ≤ ((0 + d)).toNatClampNeg then none else (if ((upd fr (72 + d).toNatClampNeg (1 - (fr (72 + d).toNatClampNeg))) (0 + d).toNatClampNeg) = 6 then ((F_X0_takesOf (upd fr (72 + d).toNatClampNeg (1 - (fr (72 + d).toNatClampNeg))) dv fu fp d).bind fun o_9 => ((F_X0_powerSuffices (upd fr (72 + d).toNatClampNeg (1 - (fr (72 + d).toNatClampNeg))) dv fu fp d o_9).bind fun o_11 => (if o_11 = 0 then ((F_X0_refuse (upd fr (72 + d).toNatClampNeg (1 - (fr (72 + d).toNatClampNeg))) dv fu fp d 2).bind fun o_16 => some ((o_16))) else ((F_X0_shed (upd fr (72 + d).toNatClampNeg (1 - (fr (72 + d).toNatClampNeg))) dv fu fp d).bind fun o_14 => some ((o_14)))))) else ((F_X0_shed (upd fr (72 + d).toNatClampNeg (1 - (fr (72 + d).toNatClampNeg))) dv fu fp d).bind fun o_7 => some ((o_7)))))))))
set_option maxHeartbeats 4000000 in
set_option maxRecDepth 100000 in
theorem c_X0_switchSupply (l : Launch) (dC : Nat → ClassId) (dI : Nat → Nat → Nat) (g : Nat) (r0 : Nat) (h : Nat) (r1 : Nat) (r2 : Nat) (dv : Int32) (c0 : ClassId) (fr : Nat → Int32) (c1 : ClassId) (c2 : ClassId) (fu : Nat → Int32) (fp : Nat → Int32) (d : Int32) (A : Nat → Prop) (o : (Nat → Int32)) (hG : F_X0_switchSupply fr dv fu fp d = some o) : Met l yX0_switchSupply (.code yX0_switchSupply cX0_switchSupply 2 none :: wA) ({ frames := 4, cells := 0, slots := 0, locals := 89 }) (va_Pc [.ref g, .int d] (q_W (dC, dI) A [(g, .inr (0, [.ref r0, .ref h])), (r0, .inl (c0, 98, .inl fr)), (h, .inr (5, [.ref r1, .ref r2, .int dv])), (r1, .inl (c1, 8, .inl fu)), (r2, .inl (c2, 48, .inl fp))] [(c0, .int), (c1, .int), (c2, .int)])) (va_Qv (fun _ : Unit => True) (fun (_ : Unit) t => q_B (dC, dI) A [(g, .inr (0, [.ref r0, .ref h])), (r0, .inl (c0, 98, .inl (o))), (h, .inr (5, [.ref r1, .ref r2, .int dv])), (r1, .inl (c1, 8, .inl fu)), (r2, .inl (c2, 48, .inl fp))] [(c0, .int), (c1, .int), (c2, .int)] t) A) 0 0 A := by
  refine Met.ofW (cc := cX0_switchSupply) (maxL := 2) (ret := none) (by decide) rfl ?_
  intro p e s m args below meth c s₁ B hml hv
  obtain ⟨rfl, hP, hK, hD, hA⟩ := hv
  have hx := B.exec
  have hb := B.bytes
  have hr := B.returns
  have hts := atoms_spec (ws := .code yX0_switchSupply cX0_switchSupply 2 none :: wA) B.pre
  have hown : s.vm.findClass RX0 = some m.cls := findClass_of_methodNamed B.named
  have hlocks := B.notSynchronized
  have hS : va_S A s.heap s.heap [] := va_S.rf
  have hl := lv_entry ([.ref g, .int d]) (n := 2) (Nat.le_of_ble_eq_true rfl)
  rw [lg_entry_eq]
  generalize (lg_sl ([.ref g, .int d]) ++ List.replicate (2 - (lg_sl ([.ref g, .int d])).length) Slot.unset).toArray = ls at hl ⊢
  have hl : lv_has ls 2 [(0, .ref g), (1, .int d)] := hl
  unfold F_X0_switchSupply at hG
  refine lv_aload_n hx hb dX0_switchSupply_0 rfl (lv_at hl 0 rfl) ?_
  refine va_get (D := (dC, dI)) (ci := 0) (v := .ref r0) (C := RX0) (T := TX0) (N := 2) hx hb hts iA_0 hown hK hP 0 rfl rfl 0 (by decide) (hts (.fieldLink RX0 11 "HubTree$Bus" "row" "[I") (List.mem_cons_of_mem _ m_88)) (fun _ h9 => h9) rfl dX0_switchSupply_1 ?_
  refine lv_bipush (v := 72) hx hb dX0_switchSupply_4 (by decide) ?_
  refine lv_iload_n hx hb dX0_switchSupply_6 rfl (lv_at hl 1 rfl) ?_
  refine lv_iadd hx hb dX0_switchSupply_7 ?_
  refine lv_iconst (v := 1) hx hb dX0_switchSupply_8 (by decide) ?_
  refine lv_aload_n hx hb dX0_switchSupply_9 rfl (lv_at hl 0 rfl) ?_
  refine va_get (D := (dC, dI)) (ci := 0) (v := .ref r0) (C := RX0) (T := TX0) (N := 2) hx hb hts iA_0 hown hK hP 0 rfl rfl 0 (by decide) (hts (.fieldLink RX0 11 "HubTree$Bus" "row" "[I") (List.mem_cons_of_mem _ m_88)) (fun _ h9 => h9) rfl dX0_switchSupply_10 ?_
  refine lv_bipush (v := 72) hx hb dX0_switchSupply_13 (by decide) ?_
  refine lv_iload_n hx hb dX0_switchSupply_15 rfl (lv_at hl 1 rfl) ?_
  refine lv_iadd hx hb dX0_switchSupply_16 ?_
  obtain ⟨h_1, hG⟩ := q_ix hG
  refine va_iald hx hb hK hP 1 0 rfl rfl (i := (72 + d)) h_1 dX0_switchSupply_17 ?_
  refine q_top (y := (fr (72 + d).toNatClampNeg)) rfl ?_
  refine lv_isub hx hb dX0_switchSupply_18 ?_
  obtain ⟨h_2, hG⟩ := q_ix hG
  refine va_iast hx hb hK hP hD hS 1 0 rfl rfl (i := (72 + d)) (x := (1 - (fr (72 + d).toNatClampNeg))) h_2 dX0_switchSupply_19 (fun H locs hP hD hS => ?_)
  have hP : va_P (dC, dI) vwCl [(g, .inr (0, [.ref r0, .ref h])), (r0, .inl (c0, 98, .inl (upd fr (72 + d).toNatClampNeg (1 - (fr (72 + d).toNatClampNeg))))), (h, .inr (5, [.ref r1, .ref r2, .int dv])), (r1, .inl (c1, 8, .inl fu)), (r2, .inl (c2, 48, .inl fp))] H := hP
  have hD : va_D A [(g, .inr (0, [.ref r0, .ref h])), (r0, .inl (c0, 98, .inl (upd fr (72 + d).toNatClampNeg (1 - (fr (72 + d).toNatClampNeg))))), (h, .inr (5, [.ref r1, .ref r2, .int dv])), (r1, .inl (c1, 8, .inl fu)), (r2, .inl (c2, 48, .inl fp))] := hD
  refine lv_aload_n hx hb dX0_switchSupply_20 rfl (lv_at hl 0 rfl) ?_
  refine va_get (D := (dC, dI)) (ci := 0) (v := .ref r0) (C := RX0) (T := TX0) (N := 2) hx hb hts iA_0 hown hK hP 0 rfl rfl 0 (by decide) (hts (.fieldLink RX0 11 "HubTree$Bus" "row" "[I") (List.mem_cons_of_mem _ m_88)) (fun _ h9 => h9) rfl dX0_switchSupply_21 ?_
  refine lv_bipush (v := 72) hx hb dX0_switchSupply_24 (by decide) ?_
  refine lv_iload_n hx hb dX0_switchSupply_26 rfl (lv_at hl 1 rfl) ?_
  refine lv_iadd hx hb dX0_switchSupply_27 ?_
  obtain ⟨h_3, hG⟩ := q_ix hG
  refine va_iald hx hb hK hP 1 0 rfl rfl (i := (72 + d)) h_3 dX0_switchSupply_28 ?_
  refine q_top (y := ((upd fr (72 + d).toNatClampNeg (1 - (fr (72 + d).toNatClampNeg))) (72 + d).toNatClampNeg)) rfl ?_
  refine lv_iconst (v := 1) hx hb dX0_switchSupply_29 (by decide) ?_
  refine lv_icmp_ne (tgt := 34) hx hb dX0_switchSupply_30 (by decide) (fun c_4 => ?_) (fun c_4 => ?_)
  · have hG := q_ifn c_4 hG
    refine lv_aload_n hx hb dX0_switchSupply_34 rfl (lv_at hl 0 rfl) ?_
    refine va_get (D := (dC, dI)) (ci := 0) (v := .ref r0) (C := RX0) (T := TX0) (N := 2) hx hb hts iA_0 hown hK hP 0 rfl rfl 0 (by decide) (hts (.fieldLink RX0 11 "HubTree$Bus" "row" "[I") (List.mem_cons_of_mem _ m_88)) (fun _ h9 => h9) rfl dX0_switchSupply_35 ?_
    refine lv_iconst (v := 0) hx hb dX0_switchSupply_38 (by decide) ?_
    refine lv_iload_n hx hb dX0_switchSupply_39 rfl (lv_at hl 1 rfl) ?_
    refine lv_iadd hx hb dX0_switchSupply_40 ?_
    obtain ⟨h_5, hG⟩ := q_ix hG
    refine va_iald hx hb hK hP 1 0 rfl rfl (i := (0 + d)) h_5 dX0_switchSupply_41 ?_
    refine q_top (y := ((upd fr (72 + d).toNatClampNeg (1 - (fr (72 + d).toNatClampNeg))) (0 + d).toNatClampNeg)) rfl ?_
    refine lv_bipush (v := 6) hx hb dX0_switchSupply_42 (by decide) ?_
    refine lv_icmp_ne (tgt := 69) hx hb dX0_switchSupply_44 (by decide) (fun c_6 => ?_) (fun c_6 => ?_)
    · have hG := q_ifn c_6 hG
      refine lv_aload_n hx hb dX0_switchSupply_69 rfl (lv_at hl 0 rfl) ?_
      refine lv_iload_n hx hb dX0_switchSupply_70 rfl (lv_at hl 1 rfl) ?_
      obtain ⟨o_7, r_8, hG⟩ := q_bi hG
      refine q_gov2 (wr := []) (va_runV (As := [.int d]) (rest := []) ⟨hx, hb, hml, hown, hts⟩ (c_X0_shed l dC dI g r0 h r1 r2 dv c0 (upd fr (72 + d).toNatClampNeg (1 - (fr (72 + d).toNatClampNeg))) c1 c2 fu fp d (va_A [(g, .inr (0, [.ref r0, .ref h])), (r0, .inl (c0, 98, .inl (upd fr (72 + d).toNatClampNeg (1 - (fr (72 + d).toNatClampNeg))))), (h, .inr (5, [.ref r1, .ref r2, .int dv])), (r1, .inl (c1, 8, .inl fu)), (r2, .inl (c2, 48, .inl fp))] H.size) o_7 r_8) (cwV 1 hts (q_gV m_864 m_865 m_866 m_33 m_867) rfl rfl rfl hdV_yX0_shed_1 ⟨Nat.le_of_ble_eq_true rfl, Nat.le_of_ble_eq_true rfl⟩) (q_preWV hK hP hD (q := (RX0, TX0, 2)) (ci := 0) (q0 := 0) rfl rfl [0, 1, 2, 3, 4] (by decide) rfl rfl [0, 1, 2] rfl) rfl rfl hl.1 rfl (lv_room (Nat.le_of_ble_eq_true rfl)) dX0_switchSupply_71 ⟨Nat.le_of_ble_eq_true rfl, Nat.le_of_ble_eq_true rfl⟩) hK hP hD hS hA [0, 1, 2, 3, 4] [] rfl rfl (by decide) (by decide) (fun _ H locs _ hP hD hK9 hS => ?_)
      have hP : va_P (dC, dI) vwCl [(g, .inr (0, [.ref r0, .ref h])), (r0, .inl (c0, 98, .inl (o_7))), (h, .inr (5, [.ref r1, .ref r2, .int dv])), (r1, .inl (c1, 8, .inl fu)), (r2, .inl (c2, 48, .inl fp))] H := hP.sub [0, 1, 2, 3, 4] rfl
      have hD : va_D A [(g, .inr (0, [.ref r0, .ref h])), (r0, .inl (c0, 98, .inl (o_7))), (h, .inr (5, [.ref r1, .ref r2, .int dv])), (r1, .inl (c1, 8, .inl fu)), (r2, .inl (c2, 48, .inl fp))] := hD.sub [0, 1, 2, 3, 4] (by decide) rfl
      obtain rfl := Option.some.inj hG
      have hP9 := hP.sub (ws' := [(g, .inr (0, [.ref r0, .ref h])), (r0, .inl (c0, 98, .inl (o_7))), (h, .inr (5, [.ref r1, .ref r2, .int dv])), (r1, .inl (c1, 8, .inl fu)), (r2, .inl (c2, 48, .inl fp))]) [0, 1, 2, 3, 4] rfl
      have hD9 := hD.sub (ws' := [(g, .inr (0, [.ref r0, .ref h])), (r0, .inl (c0, 98, .inl (o_7))), (h, .inr (5, [.ref r1, .ref r2, .int dv])), (r1, .inl (c1, 8, .inl fu)), (r2, .inl (c2, 48, .inl fp))]) [0, 1, 2, 3, 4] (by decide) rfl
      have hK9 := hK.sub (tys' := [(c0, .int), (c1, .int), (c2, .int)]) [0, 1, 2] rfl
      exact W.vret hx hb hr (fun t ht hW => ⟨⟨(), rfl, trivial, by rw [ht]; exact hP9, va_K.moved hW.alike hK9, hD9⟩, hS.F ht⟩) hS.2.2 dX0_switchSupply_74
    · have hG := q_ifp c_6 hG
      refine lv_aload_n hx hb dX0_switchSupply_47 rfl (lv_at hl 0 rfl) ?_
      refine lv_iload_n hx hb dX0_switchSupply_48 rfl (lv_at hl 1 rfl) ?_
      refine lv_aload_n hx hb dX0_switchSupply_49 rfl (lv_at hl 0 rfl) ?_
      refine lv_iload_n hx hb dX0_switchSupply_50 rfl (lv_at hl 1 rfl) ?_
      obtain ⟨o_9, r_10, hG⟩ := q_bi hG
      refine q_goi (v := o_9) (va_runV (As := [.int d]) (rest := [.int d, .ref g]) ⟨hx, hb, hml, hown, hts⟩ (c_X0_takesOf l dC dI g r0 h r1 r2 dv c0 (upd fr (72 + d).toNatClampNeg (1 - (fr (72 + d).toNatClampNeg))) c1 c2 fu fp d o_9 r_10) (cwV 1 hts (q_gV m_591 m_492 m_493 m_33 m_494) rfl rfl rfl hdV_yX0_takesOf_1 ⟨Nat.le_of_ble_eq_true rfl, Nat.le_of_ble_eq_true rfl⟩) (q_preV hK hP (q := (RX0, TX0, 2)) (ci := 0) (q0 := 0) rfl rfl [0, 1, 2, 3, 4] rfl [0, 1, 2] rfl) rfl rfl hl.1 rfl (lv_room (Nat.le_of_ble_eq_true rfl)) dX0_switchSupply_51 ⟨Nat.le_of_ble_eq_true rfl, Nat.le_of_ble_eq_true rfl⟩) hP hS (fun H locs hP hS => ?_)
      obtain ⟨o_11, r_12, hG⟩ := q_bi hG
      refine q_goi (v := o_11) (va_runV (As := [.int d, .int o_9]) (rest := []) ⟨hx, hb, hml, hown, hts⟩ (c_X0_powerSuffices l dC dI g r0 h r1 r2 dv c0 (upd fr (72 + d).toNatClampNeg (1 - (fr (72 + d).toNatClampNeg))) c1 c2 fu fp d o_9 o_11 r_12) (cwV 2 hts (q_gV m_756 m_757 m_758 m_33 m_759) rfl rfl rfl hdV_yX0_powerSuffices_2 ⟨Nat.le_of_ble_eq_true rfl, Nat.le_of_ble_eq_true rfl⟩) (q_preV hK hP (q := (RX0, TX0, 2)) (ci := 0) (q0 := 0) rfl rfl [0, 1, 2, 3, 4] rfl [0, 1, 2] rfl) rfl rfl hl.1 rfl (lv_room (Nat.le_of_ble_eq_true rfl)) dX0_switchSupply_54 ⟨Nat.le_of_ble_eq_true rfl, Nat.le_of_ble_eq_true rfl⟩) hP hS (fun H locs hP hS => ?_)
      refine lv_if_ne (tgt := 69) hx hb dX0_switchSupply_57 (by decide) (fun c_13 => ?_) (fun c_13 => ?_)
      · have hG := q_ifn c_13 hG
        refine lv_aload_n hx hb dX0_switchSupply_69 rfl (lv_at hl 0 rfl) ?_
        refine lv_iload_n hx hb dX0_switchSupply_70 rfl (lv_at hl 1 rfl) ?_
        obtain ⟨o_14, r_15, hG⟩ := q_bi hG
        refine q_gov2 (wr := []) (va_runV (As := [.int d]) (rest := []) ⟨hx, hb, hml, hown, hts⟩ (c_X0_shed l dC dI g r0 h r1 r2 dv c0 (upd fr (72 + d).toNatClampNeg (1 - (fr (72 + d).toNatClampNeg))) c1 c2 fu fp d (va_A [(g, .inr (0, [.ref r0, .ref h])), (r0, .inl (c0, 98, .inl (upd fr (72 + d).toNatClampNeg (1 - (fr (72 + d).toNatClampNeg))))), (h, .inr (5, [.ref r1, .ref r2, .int dv])), (r1, .inl (c1, 8, .inl fu)), (r2, .inl (c2, 48, .inl fp))] H.size) o_14 r_15) (cwV 1 hts (q_gV m_864 m_865 m_866 m_33 m_867) rfl rfl rfl hdV_yX0_shed_1 ⟨Nat.le_of_ble_eq_true rfl, Nat.le_of_ble_eq_true rfl⟩) (q_preWV hK hP hD (q := (RX0, TX0, 2)) (ci := 0) (q0 := 0) rfl rfl [0, 1, 2, 3, 4] (by decide) rfl rfl [0, 1, 2] rfl) rfl rfl hl.1 rfl (lv_room (Nat.le_of_ble_eq_true rfl)) dX0_switchSupply_71 ⟨Nat.le_of_ble_eq_true rfl, Nat.le_of_ble_eq_true rfl⟩) hK hP hD hS hA [0, 1, 2, 3, 4] [] rfl rfl (by decide) (by decide) (fun _ H locs _ hP hD hK9 hS => ?_)
        have hP : va_P (dC, dI) vwCl [(g, .inr (0, [.ref r0, .ref h])), (r0, .inl (c0, 98, .inl (o_14))), (h, .inr (5, [.ref r1, .ref r2, .int dv])), (r1, .inl (c1, 8, .inl fu)), (r2, .inl (c2, 48, .inl fp))] H := hP.sub [0, 1, 2, 3, 4] rfl
        have hD : va_D A [(g, .inr (0, [.ref r0, .ref h])), (r0, .inl (c0, 98, .inl (o_14))), (h, .inr (5, [.ref r1, .ref r2, .int dv])), (r1, .inl (c1, 8, .inl fu)), (r2, .inl (c2, 48, .inl fp))] := hD.sub [0, 1, 2, 3, 4] (by decide) rfl
        obtain rfl := Option.some.inj hG
        have hP9 := hP.sub (ws' := [(g, .inr (0, [.ref r0, .ref h])), (r0, .inl (c0, 98, .inl (o_14))), (h, .inr (5, [.ref r1, .ref r2, .int dv])), (r1, .inl (c1, 8, .inl fu)), (r2, .inl (c2, 48, .inl fp))]) [0, 1, 2, 3, 4] rfl
        have hD9 := hD.sub (ws' := [(g, .inr (0, [.ref r0, .ref h])), (r0, .inl (c0, 98, .inl (o_14))), (h, .inr (5, [.ref r1, .ref r2, .int dv])), (r1, .inl (c1, 8, .inl fu)), (r2, .inl (c2, 48, .inl fp))]) [0, 1, 2, 3, 4] (by decide) rfl
        have hK9 := hK.sub (tys' := [(c0, .int), (c1, .int), (c2, .int)]) [0, 1, 2] rfl
        exact W.vret hx hb hr (fun t ht hW => ⟨⟨(), rfl, trivial, by rw [ht]; exact hP9, va_K.moved hW.alike hK9, hD9⟩, hS.F ht⟩) hS.2.2 dX0_switchSupply_74
      · have hG := q_ifp c_13 hG
        refine lv_aload_n hx hb dX0_switchSupply_60 rfl (lv_at hl 0 rfl) ?_
        refine lv_iload_n hx hb dX0_switchSupply_61 rfl (lv_at hl 1 rfl) ?_
        refine lv_iconst (v := 2) hx hb dX0_switchSupply_62 (by decide) ?_
        obtain ⟨o_16, r_17, hG⟩ := q_bi hG
        refine q_gov2 (wr := []) (va_runV (As := [.int d, .int 2]) (rest := []) ⟨hx, hb, hml, hown, hts⟩ (c_X0_refuse l dC dI g r0 h r1 r2 dv c0 (upd fr (72 + d).toNatClampNeg (1 - (fr (72 + d).toNatClampNeg))) c1 c2 fu fp d 2 (va_A [(g, .inr (0, [.ref r0, .ref h])), (r0, .inl (c0, 98, .inl (upd fr (72 + d).toNatClampNeg (1 - (fr (72 + d).toNatClampNeg))))), (h, .inr (5, [.ref r1, .ref r2, .int dv])), (r1, .inl (c1, 8, .inl fu)), (r2, .inl (c2, 48, .inl fp))] H.size) o_16 r_17) (cwV 2 hts (q_gV m_838 m_839 m_840 m_33 m_841) rfl rfl rfl hdV_yX0_refuse_2 ⟨Nat.le_of_ble_eq_true rfl, Nat.le_of_ble_eq_true rfl⟩) (q_preWV hK hP hD (q := (RX0, TX0, 2)) (ci := 0) (q0 := 0) rfl rfl [0, 1, 2, 3, 4] (by decide) rfl rfl [0, 1, 2] rfl) rfl rfl hl.1 rfl (lv_room (Nat.le_of_ble_eq_true rfl)) dX0_switchSupply_63 ⟨Nat.le_of_ble_eq_true rfl, Nat.le_of_ble_eq_true rfl⟩) hK hP hD hS hA [0, 1, 2, 3, 4] [] rfl rfl (by decide) (by decide) (fun _ H locs _ hP hD hK9 hS => ?_)
        have hP : va_P (dC, dI) vwCl [(g, .inr (0, [.ref r0, .ref h])), (r0, .inl (c0, 98, .inl (o_16))), (h, .inr (5, [.ref r1, .ref r2, .int dv])), (r1, .inl (c1, 8, .inl fu)), (r2, .inl (c2, 48, .inl fp))] H := hP.sub [0, 1, 2, 3, 4] rfl
        have hD : va_D A [(g, .inr (0, [.ref r0, .ref h])), (r0, .inl (c0, 98, .inl (o_16))), (h, .inr (5, [.ref r1, .ref r2, .int dv])), (r1, .inl (c1, 8, .inl fu)), (r2, .inl (c2, 48, .inl fp))] := hD.sub [0, 1, 2, 3, 4] (by decide) rfl
        refine lv_goto (tgt := 74) hx hb dX0_switchSupply_66 (by decide) ?_
        obtain rfl := Option.some.inj hG
        have hP9 := hP.sub (ws' := [(g, .inr (0, [.ref r0, .ref h])), (r0, .inl (c0, 98, .inl (o_16))), (h, .inr (5, [.ref r1, .ref r2, .int dv])), (r1, .inl (c1, 8, .inl fu)), (r2, .inl (c2, 48, .inl fp))]) [0, 1, 2, 3, 4] rfl
        have hD9 := hD.sub (ws' := [(g, .inr (0, [.ref r0, .ref h])), (r0, .inl (c0, 98, .inl (o_16))), (h, .inr (5, [.ref r1, .ref r2, .int dv])), (r1, .inl (c1, 8, .inl fu)), (r2, .inl (c2, 48, .inl fp))]) [0, 1, 2, 3, 4] (by decide) rfl
        have hK9 := hK.sub (tys' := [(c0, .int), (c1, .int), (c2, .int)]) [0, 1, 2] rfl
        exact W.vret hx hb hr (fun t ht hW => ⟨⟨(), rfl, trivial, by rw [ht]; exact hP9, va_K.moved hW.alike hK9, hD9⟩, hS.F ht⟩) hS.2.2 dX0_switchSupply_74
  · have hG := q_ifp c_4 hG
    obtain rfl := Option.some.inj hG
    have hP9 := hP.sub (ws' := [(g, .inr (0, [.ref r0, .ref h])), (r0, .inl (c0, 98, .inl (upd fr (72 + d).toNatClampNeg (1 - (fr (72 + d).toNatClampNeg))))), (h, .inr (5, [.ref r1, .ref r2, .int dv])), (r1, .inl (c1, 8, .inl fu)), (r2, .inl (c2, 48, .inl fp))]) [0, 1, 2, 3, 4] rfl
    have hD9 := hD.sub (ws' := [(g, .inr (0, [.ref r0, .ref h])), (r0, .inl (c0, 98, .inl (upd fr (72 + d).toNatClampNeg (1 - (fr (72 + d).toNatClampNeg))))), (h, .inr (5, [.ref r1, .ref r2, .int dv])), (r1, .inl (c1, 8, .inl fu)), (r2, .inl (c2, 48, .inl fp))]) [0, 1, 2, 3, 4] (by decide) rfl
    have hK9 := hK.sub (tys' := [(c0, .int), (c1, .int), (c2, .int)]) [0, 1, 2] rfl
    exact W.vret hx hb hr (fun t ht hW => ⟨⟨(), rfl, trivial, by rw [ht]; exact hP9, va_K.moved hW.alike hK9, hD9⟩, hS.F ht⟩) hS.2.2 dX0_switchSupply_33

def F_X0_queueAfresh (fr : Nat → Int32) (dv : Int32) (fu : Nat → Int32) (fp : Nat → Int32) (d : Int32) : Option ((Nat → Int32)) := (if (24 + d) < 0 ∨ 98 ≤ ((24 + d)).toNatClampNeg then none else ((F_X0_queue (upd fr (24 + d).toNatClampNeg 0) dv fu fp d).bind fun o_2 => some ((o_2))))
set_option maxHeartbeats 4000000 in
set_option maxRecDepth 100000 in
theorem c_X0_queueAfresh (l : Launch) (dC : Nat → ClassId) (dI : Nat → Nat → Nat) (g : Nat) (r0 : Nat) (h : Nat) (r1 : Nat) (r2 : Nat) (dv : Int32) (c0 : ClassId) (fr : Nat → Int32) (c1 : ClassId) (c2 : ClassId) (fu : Nat → Int32) (fp : Nat → Int32) (d : Int32) (A : Nat → Prop) (o : (Nat → Int32)) (hG : F_X0_queueAfresh fr dv fu fp d = some o) : Met l yX0_queueAfresh (.code yX0_queueAfresh cX0_queueAfresh 2 none :: wA) ({ frames := 2, cells := 0, slots := 0, locals := 43 }) (va_Pc [.ref g, .int d] (q_W (dC, dI) A [(g, .inr (0, [.ref r0, .ref h])), (r0, .inl (c0, 98, .inl fr)), (h, .inr (5, [.ref r1, .ref r2, .int dv])), (r1, .inl (c1, 8, .inl fu)), (r2, .inl (c2, 48, .inl fp))] [(c0, .int), (c1, .int), (c2, .int)])) (va_Qv (fun _ : Unit => True) (fun (_ : Unit) t => q_B (dC, dI) A [(g, .inr (0, [.ref r0, .ref h])), (r0, .inl (c0, 98, .inl (o))), (h, .inr (5, [.ref r1, .ref r2, .int dv])), (r1, .inl (c1, 8, .inl fu)), (r2, .inl (c2, 48, .inl fp))] [(c0, .int), (c1, .int), (c2, .int)] t) A) 0 0 A := by
  refine Met.ofW (cc := cX0_queueAfresh) (maxL := 2) (ret := none) (by decide) rfl ?_
  intro p e s m args below meth c s₁ B hml hv
  obtain ⟨rfl, hP, hK, hD, hA⟩ := hv
  have hx := B.exec
  have hb := B.bytes
  have hr := B.returns
  have hts := atoms_spec (ws := .code yX0_queueAfresh cX0_queueAfresh 2 none :: wA) B.pre
  have hown : s.vm.findClass RX0 = some m.cls := findClass_of_methodNamed B.named
  have hlocks := B.notSynchronized
  have hS : va_S A s.heap s.heap [] := va_S.rf
  have hl := lv_entry ([.ref g, .int d]) (n := 2) (Nat.le_of_ble_eq_true rfl)
  rw [lg_entry_eq]
  generalize (lg_sl ([.ref g, .int d]) ++ List.replicate (2 - (lg_sl ([.ref g, .int d])).length) Slot.unset).toArray = ls at hl ⊢
  have hl : lv_has ls 2 [(0, .ref g), (1, .int d)] := hl
  unfold F_X0_queueAfresh at hG
  refine lv_aload_n hx hb dX0_queueAfresh_0 rfl (lv_at hl 0 rfl) ?_
  refine va_get (D := (dC, dI)) (ci := 0) (v := .ref r0) (C := RX0) (T := TX0) (N := 2) hx hb hts iA_0 hown hK hP 0 rfl rfl 0 (by decide) (hts (.fieldLink RX0 11 "HubTree$Bus" "row" "[I") (List.mem_cons_of_mem _ m_88)) (fun _ h9 => h9) rfl dX0_queueAfresh_1 ?_
  refine lv_bipush (v := 24) hx hb dX0_queueAfresh_4 (by decide) ?_
  refine lv_iload_n hx hb dX0_queueAfresh_6 rfl (lv_at hl 1 rfl) ?_
  refine lv_iadd hx hb dX0_queueAfresh_7 ?_
  refine lv_iconst (v := 0) hx hb dX0_queueAfresh_8 (by decide) ?_
  obtain ⟨h_1, hG⟩ := q_ix hG
  refine va_iast hx hb hK hP hD hS 1 0 rfl rfl (i := (24 + d)) (x := 0) h_1 dX0_queueAfresh_9 (fun H locs hP hD hS => ?_)
  have hP : va_P (dC, dI) vwCl [(g, .inr (0, [.ref r0, .ref h])), (r0, .inl (c0, 98, .inl (upd fr (24 + d).toNatClampNeg 0))), (h, .inr (5, [.ref r1, .ref r2, .int dv])), (r1, .inl (c1, 8, .inl fu)), (r2, .inl (c2, 48, .inl fp))] H := hP
  have hD : va_D A [(g, .inr (0, [.ref r0, .ref h])), (r0, .inl (c0, 98, .inl (upd fr (24 + d).toNatClampNeg 0))), (h, .inr (5, [.ref r1, .ref r2, .int dv])), (r1, .inl (c1, 8, .inl fu)), (r2, .inl (c2, 48, .inl fp))] := hD
  refine lv_aload_n hx hb dX0_queueAfresh_10 rfl (lv_at hl 0 rfl) ?_
  refine lv_iload_n hx hb dX0_queueAfresh_11 rfl (lv_at hl 1 rfl) ?_
  obtain ⟨o_2, r_3, hG⟩ := q_bi hG
  refine q_gov2 (wr := []) (va_runV (As := [.int d]) (rest := []) ⟨hx, hb, hml, hown, hts⟩ (c_X0_queue l dC dI g r0 h r1 r2 dv c0 (upd fr (24 + d).toNatClampNeg 0) c1 c2 fu fp d (va_A [(g, .inr (0, [.ref r0, .ref h])), (r0, .inl (c0, 98, .inl (upd fr (24 + d).toNatClampNeg 0))), (h, .inr (5, [.ref r1, .ref r2, .int dv])), (r1, .inl (c1, 8, .inl fu)), (r2, .inl (c2, 48, .inl fp))] H.size) o_2 r_3) (cwV 1 hts (q_gV m_816 m_817 m_818 m_33 m_819) rfl rfl rfl hdV_yX0_queue_1 ⟨Nat.le_of_ble_eq_true rfl, Nat.le_of_ble_eq_true rfl⟩) (q_preWV hK hP hD (q := (RX0, TX0, 2)) (ci := 0) (q0 := 0) rfl rfl [0, 1, 2, 3, 4] (by decide) rfl rfl [0, 1, 2] rfl) rfl rfl hl.1 rfl (lv_room (Nat.le_of_ble_eq_true rfl)) dX0_queueAfresh_12 ⟨Nat.le_of_ble_eq_true rfl, Nat.le_of_ble_eq_true rfl⟩) hK hP hD hS hA [0, 1, 2, 3, 4] [] rfl rfl (by decide) (by decide) (fun _ H locs _ hP hD hK9 hS => ?_)
  have hP : va_P (dC, dI) vwCl [(g, .inr (0, [.ref r0, .ref h])), (r0, .inl (c0, 98, .inl (o_2))), (h, .inr (5, [.ref r1, .ref r2, .int dv])), (r1, .inl (c1, 8, .inl fu)), (r2, .inl (c2, 48, .inl fp))] H := hP.sub [0, 1, 2, 3, 4] rfl
  have hD : va_D A [(g, .inr (0, [.ref r0, .ref h])), (r0, .inl (c0, 98, .inl (o_2))), (h, .inr (5, [.ref r1, .ref r2, .int dv])), (r1, .inl (c1, 8, .inl fu)), (r2, .inl (c2, 48, .inl fp))] := hD.sub [0, 1, 2, 3, 4] (by decide) rfl
  obtain rfl := Option.some.inj hG
  have hP9 := hP.sub (ws' := [(g, .inr (0, [.ref r0, .ref h])), (r0, .inl (c0, 98, .inl (o_2))), (h, .inr (5, [.ref r1, .ref r2, .int dv])), (r1, .inl (c1, 8, .inl fu)), (r2, .inl (c2, 48, .inl fp))]) [0, 1, 2, 3, 4] rfl
  have hD9 := hD.sub (ws' := [(g, .inr (0, [.ref r0, .ref h])), (r0, .inl (c0, 98, .inl (o_2))), (h, .inr (5, [.ref r1, .ref r2, .int dv])), (r1, .inl (c1, 8, .inl fu)), (r2, .inl (c2, 48, .inl fp))]) [0, 1, 2, 3, 4] (by decide) rfl
  have hK9 := hK.sub (tys' := [(c0, .int), (c1, .int), (c2, .int)]) [0, 1, 2] rfl
  exact W.vret hx hb hr (fun t ht hW => ⟨⟨(), rfl, trivial, by rw [ht]; exact hP9, va_K.moved hW.alike hK9, hD9⟩, hS.F ht⟩) hS.2.2 dX0_queueAfresh_15

def FL_X0_settle_2 (fr : Nat → Int32) (dv : Int32) (fu : Nat → Int32) (fp : Nat → Int32) : Nat → Int32 → (Nat → Int32) → Option ((Nat → Int32))
  | 0, _, _ => none
  | n + 1, x1_2, fr_c => (if dv ≤ x1_2 then some (fr_c) else (if (0 + x1_2) < 0 ∨ 98 ≤ ((0 + x1_2)).toNatClampNeg then none else (if (fr_c (0 + x1_2).toNatClampNeg) = 1 then (if (8 + x1_2) < 0 ∨ 98 ≤ ((8 + x1_2)).toNatClampNeg then none else (if (8 + x1_2) < 0 ∨ 98 ≤ ((8 + x1_2)).toNatClampNeg then none else (if (8 + x1_2) < 0 ∨ 98 ≤ ((8 + x1_2)).toNatClampNeg then none else (if 0 < ((upd fr_c (8 + x1_2).toNatClampNeg ((fr_c (8 + x1_2).toNatClampNeg) - 1)) (8 + x1_2).toNatClampNeg) then (FL_X0_settle_2 fr dv fu fp n (x1_2 + 1) (upd fr_c (8 + x1_2).toNatClampNeg ((fr_c (8 + x1_2).toNatClampNeg) - 1))) else ((F_X0_queue (upd fr_c (8 + x1_2).toNatClampNeg ((fr_c (8 + x1_2).toNatClampNeg) - 1)) dv fu fp x1_2).bind fun o_8 => (FL_X0_settle_2 fr dv fu fp n (x1_2 + 1) (o_8))))))) else (FL_X0_settle_2 fr dv fu fp n (x1_2 + 1) fr_c))))

def F_X0_settle (fr : Nat → Int32) (dv : Int32) (fu : Nat → Int32) (fp : Nat → Int32) : Option ((Nat → Int32)) := (FL_X0_settle_2 fr dv fu fp 1000 0 fr)
set_option maxHeartbeats 4000000 in
set_option maxRecDepth 100000 in
theorem c_X0_settle (l : Launch) (dC : Nat → ClassId) (dI : Nat → Nat → Nat) (g : Nat) (r0 : Nat) (h : Nat) (r1 : Nat) (r2 : Nat) (dv : Int32) (c0 : ClassId) (fr : Nat → Int32) (c1 : ClassId) (c2 : ClassId) (fu : Nat → Int32) (fp : Nat → Int32) (A : Nat → Prop) (o : (Nat → Int32)) (hG : F_X0_settle fr dv fu fp = some o) : Met l yX0_settle (.code yX0_settle cX0_settle 2 none :: wA) ({ frames := 2, cells := 0, slots := 0, locals := 43 }) (va_Pc [.ref g] (q_W (dC, dI) A [(g, .inr (0, [.ref r0, .ref h])), (r0, .inl (c0, 98, .inl fr)), (h, .inr (5, [.ref r1, .ref r2, .int dv])), (r1, .inl (c1, 8, .inl fu)), (r2, .inl (c2, 48, .inl fp))] [(c0, .int), (c1, .int), (c2, .int)])) (va_Qv (fun _ : Unit => True) (fun (_ : Unit) t => q_B (dC, dI) A [(g, .inr (0, [.ref r0, .ref h])), (r0, .inl (c0, 98, .inl (o))), (h, .inr (5, [.ref r1, .ref r2, .int dv])), (r1, .inl (c1, 8, .inl fu)), (r2, .inl (c2, 48, .inl fp))] [(c0, .int), (c1, .int), (c2, .int)] t) A) 0 0 A := by
  refine Met.ofW (cc := cX0_settle) (maxL := 2) (ret := none) (by decide) rfl ?_
  intro p e s m args below meth c s₁ B hml hv
  obtain ⟨rfl, hP, hK, hD, hA⟩ := hv
  have hx := B.exec
  have hb := B.bytes
  have hr := B.returns
  have hts := atoms_spec (ws := .code yX0_settle cX0_settle 2 none :: wA) B.pre
  have hown : s.vm.findClass RX0 = some m.cls := findClass_of_methodNamed B.named
  have hlocks := B.notSynchronized
  have hS : va_S A s.heap s.heap [] := va_S.rf
  have hl := lv_entry ([.ref g]) (n := 2) (Nat.le_of_ble_eq_true rfl)
  rw [lg_entry_eq]
  generalize (lg_sl ([.ref g]) ++ List.replicate (2 - (lg_sl ([.ref g])).length) Slot.unset).toArray = ls at hl ⊢
  have hl : lv_has ls 2 [(0, .ref g)] := hl
  unfold F_X0_settle at hG
  refine lv_iconst (v := 0) hx hb dX0_settle_0 (by decide) ?_
  refine lv_istore_n (lv' := [(1, .int 0), (0, .ref g)]) hx hb dX0_settle_1 rfl hl (by decide) rfl (fun ls hl => ?_)
  have L_2 : ∀ (n_2 : Nat) (x1_2 : Int32) (fr_c : Nat → Int32) (H : Heap) (locs : List Loc) (ls : Array Slot), FL_X0_settle_2 fr dv fu fp n_2 x1_2 fr_c = some o → va_P (dC, dI) vwCl [(g, .inr (0, [.ref r0, .ref h])), (r0, .inl (c0, 98, .inl fr_c)), (h, .inr (5, [.ref r1, .ref r2, .int dv])), (r1, .inl (c1, 8, .inl fu)), (r2, .inl (c2, 48, .inl fp))] H → va_D A [(g, .inr (0, [.ref r0, .ref h])), (r0, .inl (c0, 98, .inl fr_c)), (h, .inr (5, [.ref r1, .ref r2, .int dv])), (r1, .inl (c1, 8, .inl fu)), (r2, .inl (c2, 48, .inl fp))] → va_S A s.heap H locs → lv_has ls 2 [(1, .int x1_2), (0, .ref g)] → W p l e (headSpec (.code yX0_settle cX0_settle 2 none :: wA) ({ frames := 2, cells := 0, slots := 0, locals := 43 })).room s m #[.ref g] below meth c H locs 0 0 (MQ below (va_Qv (fun _ : Unit => True) (fun (_ : Unit) t => q_B (dC, dI) A [(g, .inr (0, [.ref r0, .ref h])), (r0, .inl (c0, 98, .inl (o))), (h, .inr (5, [.ref r1, .ref r2, .int dv])), (r1, .inl (c1, 8, .inl fu)), (r2, .inl (c2, 48, .inl fp))] [(c0, .int), (c1, .int), (c2, .int)] t) A) #[.ref g] s 0 0 A) (F0 m 2 ls []) := by
    intro n_2
    induction n_2 with
    | zero =>
      intro x1_2 fr_c H locs ls hG
      exact q_no hG
    | succ n_2 ih_2 =>
      intro x1_2 fr_c H locs ls hG hP hD hS hl
      unfold FL_X0_settle_2 at hG
      refine lv_iload_n hx hb dX0_settle_2 rfl (lv_at hl 0 rfl) ?_
      refine lv_aload_n hx hb dX0_settle_3 rfl (lv_at hl 1 rfl) ?_
      refine va_get (D := (dC, dI)) (ci := 0) (v := .ref h) (C := RX0) (T := TX0) (N := 2) hx hb hts iA_0 hown hK hP 0 rfl rfl 1 (by decide) (hts (.fieldLink RX0 15 "HubTree$Bus" "plan" "LHubTree$Plan;") (List.mem_cons_of_mem _ m_89)) (fun _ h9 => h9) rfl dX0_settle_4 ?_
      refine va_get (D := (dC, dI)) (ci := 5) (v := .int dv) (C := RX5) (T := TX5) (N := 3) hx hb hts iA_5 hown hK hP 2 rfl rfl 2 (by decide) (hts (.fieldLink RX0 25 "HubTree$Plan" "devices" "I") (List.mem_cons_of_mem _ m_399)) (fun _ h9 => h9) rfl dX0_settle_7 ?_
      refine lv_icmp_ge (tgt := 61) hx hb dX0_settle_10 (by decide) (fun c_1 => ?_) (fun c_1 => ?_)
      · have hG := q_ifp c_1 hG
        obtain rfl := Option.some.inj hG
        have hP9 := hP.sub (ws' := [(g, .inr (0, [.ref r0, .ref h])), (r0, .inl (c0, 98, .inl fr_c)), (h, .inr (5, [.ref r1, .ref r2, .int dv])), (r1, .inl (c1, 8, .inl fu)), (r2, .inl (c2, 48, .inl fp))]) [0, 1, 2, 3, 4] rfl
        have hD9 := hD.sub (ws' := [(g, .inr (0, [.ref r0, .ref h])), (r0, .inl (c0, 98, .inl fr_c)), (h, .inr (5, [.ref r1, .ref r2, .int dv])), (r1, .inl (c1, 8, .inl fu)), (r2, .inl (c2, 48, .inl fp))]) [0, 1, 2, 3, 4] (by decide) rfl
        have hK9 := hK.sub (tys' := [(c0, .int), (c1, .int), (c2, .int)]) [0, 1, 2] rfl
        exact W.vret hx hb hr (fun t ht hW => ⟨⟨(), rfl, trivial, by rw [ht]; exact hP9, va_K.moved hW.alike hK9, hD9⟩, hS.F ht⟩) hS.2.2 dX0_settle_61
      · have hG := q_ifn c_1 hG
        refine lv_aload_n hx hb dX0_settle_13 rfl (lv_at hl 1 rfl) ?_
        refine va_get (D := (dC, dI)) (ci := 0) (v := .ref r0) (C := RX0) (T := TX0) (N := 2) hx hb hts iA_0 hown hK hP 0 rfl rfl 0 (by decide) (hts (.fieldLink RX0 11 "HubTree$Bus" "row" "[I") (List.mem_cons_of_mem _ m_88)) (fun _ h9 => h9) rfl dX0_settle_14 ?_
        refine lv_iconst (v := 0) hx hb dX0_settle_17 (by decide) ?_
        refine lv_iload_n hx hb dX0_settle_18 rfl (lv_at hl 0 rfl) ?_
        refine lv_iadd hx hb dX0_settle_19 ?_
        obtain ⟨h_2, hG⟩ := q_ix hG
        refine va_iald hx hb hK hP 1 0 rfl rfl (i := (0 + x1_2)) h_2 dX0_settle_20 ?_
        refine q_top (y := (fr_c (0 + x1_2).toNatClampNeg)) rfl ?_
        refine lv_iconst (v := 1) hx hb dX0_settle_21 (by decide) ?_
        refine lv_icmp_ne (tgt := 55) hx hb dX0_settle_22 (by decide) (fun c_3 => ?_) (fun c_3 => ?_)
        · have hG := q_ifn c_3 hG
          refine lv_iinc (v := (x1_2 + 1)) (lv' := [(1, .int (x1_2 + 1)), (0, .ref g)]) hx hb dX0_settle_55 hl (k := 0) rfl (rfl) (by decide) rfl (fun ls hl => ?_)
          refine lv_goto (tgt := 2) hx hb dX0_settle_58 (by decide) ?_
          exact ih_2 (x1_2 + 1) fr_c H locs ls hG hP hD hS (lv_sub hl [0, 1] rfl)
        · have hG := q_ifp c_3 hG
          refine lv_aload_n hx hb dX0_settle_25 rfl (lv_at hl 1 rfl) ?_
          refine va_get (D := (dC, dI)) (ci := 0) (v := .ref r0) (C := RX0) (T := TX0) (N := 2) hx hb hts iA_0 hown hK hP 0 rfl rfl 0 (by decide) (hts (.fieldLink RX0 11 "HubTree$Bus" "row" "[I") (List.mem_cons_of_mem _ m_88)) (fun _ h9 => h9) rfl dX0_settle_26 ?_
          refine lv_bipush (v := 8) hx hb dX0_settle_29 (by decide) ?_
          refine lv_iload_n hx hb dX0_settle_31 rfl (lv_at hl 0 rfl) ?_
          refine lv_iadd hx hb dX0_settle_32 ?_
          refine lv_dup2_11 hx hb dX0_settle_33 rfl rfl ?_
          obtain ⟨h_4, hG⟩ := q_ix hG
          refine va_iald hx hb hK hP 1 0 rfl rfl (i := (8 + x1_2)) h_4 dX0_settle_34 ?_
          refine q_top (y := (fr_c (8 + x1_2).toNatClampNeg)) rfl ?_
          refine lv_iconst (v := 1) hx hb dX0_settle_35 (by decide) ?_
          refine lv_isub hx hb dX0_settle_36 ?_
          obtain ⟨h_5, hG⟩ := q_ix hG
          refine va_iast hx hb hK hP hD hS 1 0 rfl rfl (i := (8 + x1_2)) (x := ((fr_c (8 + x1_2).toNatClampNeg) - 1)) h_5 dX0_settle_37 (fun H locs hP hD hS => ?_)
          have hP : va_P (dC, dI) vwCl [(g, .inr (0, [.ref r0, .ref h])), (r0, .inl (c0, 98, .inl (upd fr_c (8 + x1_2).toNatClampNeg ((fr_c (8 + x1_2).toNatClampNeg) - 1)))), (h, .inr (5, [.ref r1, .ref r2, .int dv])), (r1, .inl (c1, 8, .inl fu)), (r2, .inl (c2, 48, .inl fp))] H := hP
          have hD : va_D A [(g, .inr (0, [.ref r0, .ref h])), (r0, .inl (c0, 98, .inl (upd fr_c (8 + x1_2).toNatClampNeg ((fr_c (8 + x1_2).toNatClampNeg) - 1)))), (h, .inr (5, [.ref r1, .ref r2, .int dv])), (r1, .inl (c1, 8, .inl fu)), (r2, .inl (c2, 48, .inl fp))] := hD
          refine lv_aload_n hx hb dX0_settle_38 rfl (lv_at hl 1 rfl) ?_
          refine va_get (D := (dC, dI)) (ci := 0) (v := .ref r0) (C := RX0) (T := TX0) (N := 2) hx hb hts iA_0 hown hK hP 0 rfl rfl 0 (by decide) (hts (.fieldLink RX0 11 "HubTree$Bus" "row" "[I") (List.mem_cons_of_mem _ m_88)) (fun _ h9 => h9) rfl dX0_settle_39 ?_
          refine lv_bipush (v := 8) hx hb dX0_settle_42 (by decide) ?_
          refine lv_iload_n hx hb dX0_settle_44 rfl (lv_at hl 0 rfl) ?_
          refine lv_iadd hx hb dX0_settle_45 ?_
          obtain ⟨h_6, hG⟩ := q_ix hG
          refine va_iald hx hb hK hP 1 0 rfl rfl (i := (8 + x1_2)) h_6 dX0_settle_46 ?_
          refine q_top (y := ((upd fr_c (8 + x1_2).toNatClampNeg ((fr_c (8 + x1_2).toNatClampNeg) - 1)) (8 + x1_2).toNatClampNeg)) rfl ?_
          refine lv_if_gt (tgt := 55) hx hb dX0_settle_47 (by decide) (fun c_7 => ?_) (fun c_7 => ?_)
          · have hG := q_ifp c_7 hG
            refine lv_iinc (v := (x1_2 + 1)) (lv' := [(1, .int (x1_2 + 1)), (0, .ref g)]) hx hb dX0_settle_55 hl (k := 0) rfl (rfl) (by decide) rfl (fun ls hl => ?_)
            refine lv_goto (tgt := 2) hx hb dX0_settle_58 (by decide) ?_
            exact ih_2 (x1_2 + 1) (upd fr_c (8 + x1_2).toNatClampNeg ((fr_c (8 + x1_2).toNatClampNeg) - 1)) H locs ls hG hP hD hS (lv_sub hl [0, 1] rfl)
          · have hG := q_ifn c_7 hG
            refine lv_aload_n hx hb dX0_settle_50 rfl (lv_at hl 1 rfl) ?_
            refine lv_iload_n hx hb dX0_settle_51 rfl (lv_at hl 0 rfl) ?_
            obtain ⟨o_8, r_9, hG⟩ := q_bi hG
            refine q_gov2 (wr := []) (va_runV (As := [.int x1_2]) (rest := []) ⟨hx, hb, hml, hown, hts⟩ (c_X0_queue l dC dI g r0 h r1 r2 dv c0 (upd fr_c (8 + x1_2).toNatClampNeg ((fr_c (8 + x1_2).toNatClampNeg) - 1)) c1 c2 fu fp x1_2 (va_A [(g, .inr (0, [.ref r0, .ref h])), (r0, .inl (c0, 98, .inl (upd fr_c (8 + x1_2).toNatClampNeg ((fr_c (8 + x1_2).toNatClampNeg) - 1)))), (h, .inr (5, [.ref r1, .ref r2, .int dv])), (r1, .inl (c1, 8, .inl fu)), (r2, .inl (c2, 48, .inl fp))] H.size) o_8 r_9) (cwV 1 hts (q_gV m_816 m_817 m_818 m_33 m_819) rfl rfl rfl hdV_yX0_queue_1 ⟨Nat.le_of_ble_eq_true rfl, Nat.le_of_ble_eq_true rfl⟩) (q_preWV hK hP hD (q := (RX0, TX0, 2)) (ci := 0) (q0 := 0) rfl rfl [0, 1, 2, 3, 4] (by decide) rfl rfl [0, 1, 2] rfl) rfl rfl hl.1 rfl (lv_room (Nat.le_of_ble_eq_true rfl)) dX0_settle_52 ⟨Nat.le_of_ble_eq_true rfl, Nat.le_of_ble_eq_true rfl⟩) hK hP hD hS hA [0, 1, 2, 3, 4] [] rfl rfl (by decide) (by decide) (fun _ H locs _ hP hD hK9 hS => ?_)
            have hP : va_P (dC, dI) vwCl [(g, .inr (0, [.ref r0, .ref h])), (r0, .inl (c0, 98, .inl (o_8))), (h, .inr (5, [.ref r1, .ref r2, .int dv])), (r1, .inl (c1, 8, .inl fu)), (r2, .inl (c2, 48, .inl fp))] H := hP.sub [0, 1, 2, 3, 4] rfl
            have hD : va_D A [(g, .inr (0, [.ref r0, .ref h])), (r0, .inl (c0, 98, .inl (o_8))), (h, .inr (5, [.ref r1, .ref r2, .int dv])), (r1, .inl (c1, 8, .inl fu)), (r2, .inl (c2, 48, .inl fp))] := hD.sub [0, 1, 2, 3, 4] (by decide) rfl
            refine lv_iinc (v := (x1_2 + 1)) (lv' := [(1, .int (x1_2 + 1)), (0, .ref g)]) hx hb dX0_settle_55 hl (k := 0) rfl (rfl) (by decide) rfl (fun ls hl => ?_)
            refine lv_goto (tgt := 2) hx hb dX0_settle_58 (by decide) ?_
            exact ih_2 (x1_2 + 1) (o_8) H locs ls hG hP hD hS (lv_sub hl [0, 1] rfl)
  exact L_2 1000 0 fr s.heap [] ls hG hP hD hS hl

def F_X0_passes (fr : Nat → Int32) (dv : Int32) (fu : Nat → Int32) (fp : Nat → Int32) (d : Int32) : Option (Int32 × (Nat → Int32)) := (if (0 + d) < 0 ∨ 98 ≤ ((0 + d)).toNatClampNeg then none else (if (fr (0 + d).toNatClampNeg) = 5 then ((F_X0_isSound fr dv fu fp d).bind fun o_21 => (if o_21 = 0 ∨ o_21 = 1 then some (o_21, fr) else none)) else (if (0 + d) < 0 ∨ 98 ≤ ((0 + d)).toNatClampNeg then none else (if (fr (0 + d).toNatClampNeg) = 4 then ((F_X0_byteOf fr dv fu fp d 0).bind fun o_11 => (if o_11 < 8 then (if (0 + d) < 0 ∨ 98 ≤ ((0 + d)).toNatClampNeg then none else some (0, (upd fr (0 + d).toNatClampNeg 4))) else (if 12 < o_11 then (if (0 + d) < 0 ∨ 98 ≤ ((0 + d)).toNatClampNeg then none else some (0, (upd fr (0 + d).toNatClampNeg 4))) else (if (0 + d) < 0 ∨ 98 ≤ ((0 + d)).toNatClampNeg then none else some (1, (upd fr (0 + d).toNatClampNeg 5)))))) else (if (8 + d) < 0 ∨ 98 ≤ ((8 + d)).toNatClampNeg then none else (if (8 + d) < 0 ∨ 98 ≤ ((8 + d)).toNatClampNeg then none else (if (8 + d) < 0 ∨ 98 ≤ ((8 + d)).toNatClampNeg then none else (if ((upd fr (8 + d).toNatClampNeg ((fr (8 + d).toNatClampNeg) - 1)) (8 + d).toNatClampNeg) ≤ 0 then (if (0 + d) < 0 ∨ 98 ≤ ((0 + d)).toNatClampNeg then none else some (1, (upd (upd fr (8 + d).toNatClampNeg ((fr (8 + d).toNatClampNeg) - 1)) (0 + d).toNatClampNeg 4))) else (if (0 + d) < 0 ∨ 98 ≤ ((0 + d)).toNatClampNeg then none else some (1, (upd (upd fr (8 + d).toNatClampNeg ((fr (8 + d).toNatClampNeg) - 1)) (0 + d).toNatClampNeg 3)))))))))))
set_option maxHeartbeats 4000000 in
set_option maxRecDepth 100000 in
theorem c_X0_passes (l : Launch) (dC : Nat → ClassId) (dI : Nat → Nat → Nat) (g : Nat) (r0 : Nat) (h : Nat) (r1 : Nat) (r2 : Nat) (dv : Int32) (c0 : ClassId) (fr : Nat → Int32) (c1 : ClassId) (c2 : ClassId) (fu : Nat → Int32) (fp : Nat → Int32) (d : Int32) (A : Nat → Prop) (o : Int32 × (Nat → Int32)) (hG : F_X0_passes fr dv fu fp d = some o) : Met l yX0_passes (.code yX0_passes cX0_passes 4 (some .boolean) :: wA) ({ frames := 3, cells := 0, slots := 0, locals := 71 }) (va_Pc [.ref g, .int d] (q_W (dC, dI) A [(g, .inr (0, [.ref r0, .ref h])), (r0, .inl (c0, 98, .inl fr)), (h, .inr (5, [.ref r1, .ref r2, .int dv])), (r1, .inl (c1, 8, .inl fu)), (r2, .inl (c2, 48, .inl fp))] [(c0, .int), (c1, .int), (c2, .int)])) (va_Qi (fun (r : Int32) (_ : Unit) => r = o.1 ∧ True) (fun (_ : Unit) t => q_B (dC, dI) A [(g, .inr (0, [.ref r0, .ref h])), (r0, .inl (c0, 98, .inl (o.2))), (h, .inr (5, [.ref r1, .ref r2, .int dv])), (r1, .inl (c1, 8, .inl fu)), (r2, .inl (c2, 48, .inl fp))] [(c0, .int), (c1, .int), (c2, .int)] t) A) 0 0 A := by
  refine Met.ofW (cc := cX0_passes) (maxL := 4) (ret := (some .boolean)) (by decide) rfl ?_
  intro p e s m args below meth c s₁ B hml hv
  obtain ⟨rfl, hP, hK, hD, hA⟩ := hv
  have hx := B.exec
  have hb := B.bytes
  have hr := B.returns
  have hts := atoms_spec (ws := .code yX0_passes cX0_passes 4 (some .boolean) :: wA) B.pre
  have hown : s.vm.findClass RX0 = some m.cls := findClass_of_methodNamed B.named
  have hlocks := B.notSynchronized
  have hS : va_S A s.heap s.heap [] := va_S.rf
  have hl := lv_entry ([.ref g, .int d]) (n := 4) (Nat.le_of_ble_eq_true rfl)
  rw [lg_entry_eq]
  generalize (lg_sl ([.ref g, .int d]) ++ List.replicate (4 - (lg_sl ([.ref g, .int d])).length) Slot.unset).toArray = ls at hl ⊢
  have hl : lv_has ls 4 [(0, .ref g), (1, .int d)] := hl
  unfold F_X0_passes at hG
  refine lv_aload_n hx hb dX0_passes_0 rfl (lv_at hl 0 rfl) ?_
  refine va_get (D := (dC, dI)) (ci := 0) (v := .ref r0) (C := RX0) (T := TX0) (N := 2) hx hb hts iA_0 hown hK hP 0 rfl rfl 0 (by decide) (hts (.fieldLink RX0 11 "HubTree$Bus" "row" "[I") (List.mem_cons_of_mem _ m_88)) (fun _ h9 => h9) rfl dX0_passes_1 ?_
  refine lv_iconst (v := 0) hx hb dX0_passes_4 (by decide) ?_
  refine lv_iload_n hx hb dX0_passes_5 rfl (lv_at hl 1 rfl) ?_
  refine lv_iadd hx hb dX0_passes_6 ?_
  obtain ⟨h_1, hG⟩ := q_ix hG
  refine va_iald hx hb hK hP 1 0 rfl rfl (i := (0 + d)) h_1 dX0_passes_7 ?_
  refine q_top (y := (fr (0 + d).toNatClampNeg)) rfl ?_
  refine lv_iconst (v := 5) hx hb dX0_passes_8 (by decide) ?_
  refine lv_icmp_ne (tgt := 18) hx hb dX0_passes_9 (by decide) (fun c_2 => ?_) (fun c_2 => ?_)
  · have hG := q_ifn c_2 hG
    refine lv_aload_n hx hb dX0_passes_18 rfl (lv_at hl 0 rfl) ?_
    refine va_get (D := (dC, dI)) (ci := 0) (v := .ref r0) (C := RX0) (T := TX0) (N := 2) hx hb hts iA_0 hown hK hP 0 rfl rfl 0 (by decide) (hts (.fieldLink RX0 11 "HubTree$Bus" "row" "[I") (List.mem_cons_of_mem _ m_88)) (fun _ h9 => h9) rfl dX0_passes_19 ?_
    refine lv_iconst (v := 0) hx hb dX0_passes_22 (by decide) ?_
    refine lv_iload_n hx hb dX0_passes_23 rfl (lv_at hl 1 rfl) ?_
    refine lv_iadd hx hb dX0_passes_24 ?_
    obtain ⟨h_3, hG⟩ := q_ix hG
    refine va_iald hx hb hK hP 1 0 rfl rfl (i := (0 + d)) h_3 dX0_passes_25 ?_
    refine q_top (y := (fr (0 + d).toNatClampNeg)) rfl ?_
    refine lv_iconst (v := 4) hx hb dX0_passes_26 (by decide) ?_
    refine lv_icmp_ne (tgt := 74) hx hb dX0_passes_27 (by decide) (fun c_4 => ?_) (fun c_4 => ?_)
    · have hG := q_ifn c_4 hG
      refine lv_aload_n hx hb dX0_passes_74 rfl (lv_at hl 0 rfl) ?_
      refine va_get (D := (dC, dI)) (ci := 0) (v := .ref r0) (C := RX0) (T := TX0) (N := 2) hx hb hts iA_0 hown hK hP 0 rfl rfl 0 (by decide) (hts (.fieldLink RX0 11 "HubTree$Bus" "row" "[I") (List.mem_cons_of_mem _ m_88)) (fun _ h9 => h9) rfl dX0_passes_75 ?_
      refine lv_bipush (v := 8) hx hb dX0_passes_78 (by decide) ?_
      refine lv_iload_n hx hb dX0_passes_80 rfl (lv_at hl 1 rfl) ?_
      refine lv_iadd hx hb dX0_passes_81 ?_
      refine lv_dup2_11 hx hb dX0_passes_82 rfl rfl ?_
      obtain ⟨h_5, hG⟩ := q_ix hG
      refine va_iald hx hb hK hP 1 0 rfl rfl (i := (8 + d)) h_5 dX0_passes_83 ?_
      refine q_top (y := (fr (8 + d).toNatClampNeg)) rfl ?_
      refine lv_iconst (v := 1) hx hb dX0_passes_84 (by decide) ?_
      refine lv_isub hx hb dX0_passes_85 ?_
      obtain ⟨h_6, hG⟩ := q_ix hG
      refine va_iast hx hb hK hP hD hS 1 0 rfl rfl (i := (8 + d)) (x := ((fr (8 + d).toNatClampNeg) - 1)) h_6 dX0_passes_86 (fun H locs hP hD hS => ?_)
      have hP : va_P (dC, dI) vwCl [(g, .inr (0, [.ref r0, .ref h])), (r0, .inl (c0, 98, .inl (upd fr (8 + d).toNatClampNeg ((fr (8 + d).toNatClampNeg) - 1)))), (h, .inr (5, [.ref r1, .ref r2, .int dv])), (r1, .inl (c1, 8, .inl fu)), (r2, .inl (c2, 48, .inl fp))] H := hP
      have hD : va_D A [(g, .inr (0, [.ref r0, .ref h])), (r0, .inl (c0, 98, .inl (upd fr (8 + d).toNatClampNeg ((fr (8 + d).toNatClampNeg) - 1)))), (h, .inr (5, [.ref r1, .ref r2, .int dv])), (r1, .inl (c1, 8, .inl fu)), (r2, .inl (c2, 48, .inl fp))] := hD
      refine lv_aload_n hx hb dX0_passes_87 rfl (lv_at hl 0 rfl) ?_
      refine va_get (D := (dC, dI)) (ci := 0) (v := .ref r0) (C := RX0) (T := TX0) (N := 2) hx hb hts iA_0 hown hK hP 0 rfl rfl 0 (by decide) (hts (.fieldLink RX0 11 "HubTree$Bus" "row" "[I") (List.mem_cons_of_mem _ m_88)) (fun _ h9 => h9) rfl dX0_passes_88 ?_
      refine lv_iconst (v := 0) hx hb dX0_passes_91 (by decide) ?_
      refine lv_iload_n hx hb dX0_passes_92 rfl (lv_at hl 1 rfl) ?_
      refine lv_iadd hx hb dX0_passes_93 ?_
      refine lv_aload_n hx hb dX0_passes_94 rfl (lv_at hl 0 rfl) ?_
      refine va_get (D := (dC, dI)) (ci := 0) (v := .ref r0) (C := RX0) (T := TX0) (N := 2) hx hb hts iA_0 hown hK hP 0 rfl rfl 0 (by decide) (hts (.fieldLink RX0 11 "HubTree$Bus" "row" "[I") (List.mem_cons_of_mem _ m_88)) (fun _ h9 => h9) rfl dX0_passes_95 ?_
      refine lv_bipush (v := 8) hx hb dX0_passes_98 (by decide) ?_
      refine lv_iload_n hx hb dX0_passes_100 rfl (lv_at hl 1 rfl) ?_
      refine lv_iadd hx hb dX0_passes_101 ?_
      obtain ⟨h_7, hG⟩ := q_ix hG
      refine va_iald hx hb hK hP 1 0 rfl rfl (i := (8 + d)) h_7 dX0_passes_102 ?_
      refine q_top (y := ((upd fr (8 + d).toNatClampNeg ((fr (8 + d).toNatClampNeg) - 1)) (8 + d).toNatClampNeg)) rfl ?_
      refine lv_if_le (tgt := 110) hx hb dX0_passes_103 (by decide) (fun c_8 => ?_) (fun c_8 => ?_)
      · have hG := q_ifp c_8 hG
        refine lv_iconst (v := 4) hx hb dX0_passes_110 (by decide) ?_
        obtain ⟨h_9, hG⟩ := q_ix hG
        refine va_iast hx hb hK hP hD hS 1 0 rfl rfl (i := (0 + d)) (x := 4) h_9 dX0_passes_111 (fun H locs hP hD hS => ?_)
        have hP : va_P (dC, dI) vwCl [(g, .inr (0, [.ref r0, .ref h])), (r0, .inl (c0, 98, .inl (upd (upd fr (8 + d).toNatClampNeg ((fr (8 + d).toNatClampNeg) - 1)) (0 + d).toNatClampNeg 4))), (h, .inr (5, [.ref r1, .ref r2, .int dv])), (r1, .inl (c1, 8, .inl fu)), (r2, .inl (c2, 48, .inl fp))] H := hP
        have hD : va_D A [(g, .inr (0, [.ref r0, .ref h])), (r0, .inl (c0, 98, .inl (upd (upd fr (8 + d).toNatClampNeg ((fr (8 + d).toNatClampNeg) - 1)) (0 + d).toNatClampNeg 4))), (h, .inr (5, [.ref r1, .ref r2, .int dv])), (r1, .inl (c1, 8, .inl fu)), (r2, .inl (c2, 48, .inl fp))] := hD
        refine lv_iconst (v := 1) hx hb dX0_passes_112 (by decide) ?_
        obtain rfl := Option.some.inj hG
        have hP9 := hP.sub (ws' := [(g, .inr (0, [.ref r0, .ref h])), (r0, .inl (c0, 98, .inl (upd (upd fr (8 + d).toNatClampNeg ((fr (8 + d).toNatClampNeg) - 1)) (0 + d).toNatClampNeg 4))), (h, .inr (5, [.ref r1, .ref r2, .int dv])), (r1, .inl (c1, 8, .inl fu)), (r2, .inl (c2, 48, .inl fp))]) [0, 1, 2, 3, 4] rfl
        have hD9 := hD.sub (ws' := [(g, .inr (0, [.ref r0, .ref h])), (r0, .inl (c0, 98, .inl (upd (upd fr (8 + d).toNatClampNeg ((fr (8 + d).toNatClampNeg) - 1)) (0 + d).toNatClampNeg 4))), (h, .inr (5, [.ref r1, .ref r2, .int dv])), (r1, .inl (c1, 8, .inl fu)), (r2, .inl (c2, 48, .inl fp))]) [0, 1, 2, 3, 4] (by decide) rfl
        have hK9 := hK.sub (tys' := [(c0, .int), (c1, .int), (c2, .int)]) [0, 1, 2] rfl
        exact W.zret (v := 1) hx hb hr rfl (fun t ht hW => ⟨⟨1, (), rfl, ⟨rfl, trivial⟩, by rw [ht]; exact hP9, va_K.moved hW.alike hK9, hD9⟩, hS.F ht⟩) hS.2.2 dX0_passes_113
      · have hG := q_ifn c_8 hG
        refine lv_iconst (v := 3) hx hb dX0_passes_106 (by decide) ?_
        refine lv_goto (tgt := 111) hx hb dX0_passes_107 (by decide) ?_
        obtain ⟨h_10, hG⟩ := q_ix hG
        refine va_iast hx hb hK hP hD hS 1 0 rfl rfl (i := (0 + d)) (x := 3) h_10 dX0_passes_111 (fun H locs hP hD hS => ?_)
        have hP : va_P (dC, dI) vwCl [(g, .inr (0, [.ref r0, .ref h])), (r0, .inl (c0, 98, .inl (upd (upd fr (8 + d).toNatClampNeg ((fr (8 + d).toNatClampNeg) - 1)) (0 + d).toNatClampNeg 3))), (h, .inr (5, [.ref r1, .ref r2, .int dv])), (r1, .inl (c1, 8, .inl fu)), (r2, .inl (c2, 48, .inl fp))] H := hP
        have hD : va_D A [(g, .inr (0, [.ref r0, .ref h])), (r0, .inl (c0, 98, .inl (upd (upd fr (8 + d).toNatClampNeg ((fr (8 + d).toNatClampNeg) - 1)) (0 + d).toNatClampNeg 3))), (h, .inr (5, [.ref r1, .ref r2, .int dv])), (r1, .inl (c1, 8, .inl fu)), (r2, .inl (c2, 48, .inl fp))] := hD
        refine lv_iconst (v := 1) hx hb dX0_passes_112 (by decide) ?_
        obtain rfl := Option.some.inj hG
        have hP9 := hP.sub (ws' := [(g, .inr (0, [.ref r0, .ref h])), (r0, .inl (c0, 98, .inl (upd (upd fr (8 + d).toNatClampNeg ((fr (8 + d).toNatClampNeg) - 1)) (0 + d).toNatClampNeg 3))), (h, .inr (5, [.ref r1, .ref r2, .int dv])), (r1, .inl (c1, 8, .inl fu)), (r2, .inl (c2, 48, .inl fp))]) [0, 1, 2, 3, 4] rfl
        have hD9 := hD.sub (ws' := [(g, .inr (0, [.ref r0, .ref h])), (r0, .inl (c0, 98, .inl (upd (upd fr (8 + d).toNatClampNeg ((fr (8 + d).toNatClampNeg) - 1)) (0 + d).toNatClampNeg 3))), (h, .inr (5, [.ref r1, .ref r2, .int dv])), (r1, .inl (c1, 8, .inl fu)), (r2, .inl (c2, 48, .inl fp))]) [0, 1, 2, 3, 4] (by decide) rfl
        have hK9 := hK.sub (tys' := [(c0, .int), (c1, .int), (c2, .int)]) [0, 1, 2] rfl
        exact W.zret (v := 1) hx hb hr rfl (fun t ht hW => ⟨⟨1, (), rfl, ⟨rfl, trivial⟩, by rw [ht]; exact hP9, va_K.moved hW.alike hK9, hD9⟩, hS.F ht⟩) hS.2.2 dX0_passes_113
    · have hG := q_ifp c_4 hG
      refine lv_aload_n hx hb dX0_passes_30 rfl (lv_at hl 0 rfl) ?_
      refine lv_iload_n hx hb dX0_passes_31 rfl (lv_at hl 1 rfl) ?_
      refine lv_iconst (v := 0) hx hb dX0_passes_32 (by decide) ?_
      obtain ⟨o_11, r_12, hG⟩ := q_bi hG
      refine q_goi (v := o_11) (va_runV (As := [.int d, .int 0]) (rest := []) ⟨hx, hb, hml, hown, hts⟩ (c_X0_byteOf l dC dI g r0 h r1 r2 dv c0 fr c1 c2 fu fp d 0 o_11 r_12) (cwV 2 hts (q_gV m_833 m_670 m_671 m_33 m_672) rfl rfl rfl hdV_yX0_byteOf_2 ⟨Nat.le_of_ble_eq_true rfl, Nat.le_of_ble_eq_true rfl⟩) (q_preV hK hP (q := (RX0, TX0, 2)) (ci := 0) (q0 := 0) rfl rfl [0, 1, 2, 3, 4] rfl [0, 1, 2] rfl) rfl rfl hl.1 rfl (lv_room (Nat.le_of_ble_eq_true rfl)) dX0_passes_33 ⟨Nat.le_of_ble_eq_true rfl, Nat.le_of_ble_eq_true rfl⟩) hP hS (fun H locs hP hS => ?_)
      refine lv_istore_n (lv' := [(2, .int o_11), (0, .ref g), (1, .int d)]) hx hb dX0_passes_36 rfl hl (by decide) rfl (fun ls hl => ?_)
      refine lv_iload_n hx hb dX0_passes_37 rfl (lv_at hl 0 rfl) ?_
      refine lv_bipush (v := 8) hx hb dX0_passes_38 (by decide) ?_
      refine lv_icmp_lt (tgt := 53) hx hb dX0_passes_40 (by decide) (fun c_13 => ?_) (fun c_13 => ?_)
      · have hG := q_ifp c_13 hG
        refine lv_iconst (v := 0) hx hb dX0_passes_53 (by decide) ?_
        refine lv_istore_n (lv' := [(3, .int 0), (2, .int o_11), (0, .ref g), (1, .int d)]) hx hb dX0_passes_54 rfl hl (by decide) rfl (fun ls hl => ?_)
        refine lv_aload_n hx hb dX0_passes_55 rfl (lv_at hl 2 rfl) ?_
        refine va_get (D := (dC, dI)) (ci := 0) (v := .ref r0) (C := RX0) (T := TX0) (N := 2) hx hb hts iA_0 hown hK hP 0 rfl rfl 0 (by decide) (hts (.fieldLink RX0 11 "HubTree$Bus" "row" "[I") (List.mem_cons_of_mem _ m_88)) (fun _ h9 => h9) rfl dX0_passes_56 ?_
        refine lv_iconst (v := 0) hx hb dX0_passes_59 (by decide) ?_
        refine lv_iload_n hx hb dX0_passes_60 rfl (lv_at hl 3 rfl) ?_
        refine lv_iadd hx hb dX0_passes_61 ?_
        refine lv_iload_n hx hb dX0_passes_62 rfl (lv_at hl 0 rfl) ?_
        refine lv_if_eq (tgt := 70) hx hb dX0_passes_63 (by decide) (fun c_14 => ?_) (fun c_14 => ?_)
        rotate_left
        · exact absurd (by decide) c_14
        refine lv_iconst (v := 4) hx hb dX0_passes_70 (by decide) ?_
        obtain ⟨h_15, hG⟩ := q_ix hG
        refine va_iast hx hb hK hP hD hS 1 0 rfl rfl (i := (0 + d)) (x := 4) h_15 dX0_passes_71 (fun H locs hP hD hS => ?_)
        have hP : va_P (dC, dI) vwCl [(g, .inr (0, [.ref r0, .ref h])), (r0, .inl (c0, 98, .inl (upd fr (0 + d).toNatClampNeg 4))), (h, .inr (5, [.ref r1, .ref r2, .int dv])), (r1, .inl (c1, 8, .inl fu)), (r2, .inl (c2, 48, .inl fp))] H := hP
        have hD : va_D A [(g, .inr (0, [.ref r0, .ref h])), (r0, .inl (c0, 98, .inl (upd fr (0 + d).toNatClampNeg 4))), (h, .inr (5, [.ref r1, .ref r2, .int dv])), (r1, .inl (c1, 8, .inl fu)), (r2, .inl (c2, 48, .inl fp))] := hD
        refine lv_iload_n hx hb dX0_passes_72 rfl (lv_at hl 0 rfl) ?_
        obtain rfl := Option.some.inj hG
        have hP9 := hP.sub (ws' := [(g, .inr (0, [.ref r0, .ref h])), (r0, .inl (c0, 98, .inl (upd fr (0 + d).toNatClampNeg 4))), (h, .inr (5, [.ref r1, .ref r2, .int dv])), (r1, .inl (c1, 8, .inl fu)), (r2, .inl (c2, 48, .inl fp))]) [0, 1, 2, 3, 4] rfl
        have hD9 := hD.sub (ws' := [(g, .inr (0, [.ref r0, .ref h])), (r0, .inl (c0, 98, .inl (upd fr (0 + d).toNatClampNeg 4))), (h, .inr (5, [.ref r1, .ref r2, .int dv])), (r1, .inl (c1, 8, .inl fu)), (r2, .inl (c2, 48, .inl fp))]) [0, 1, 2, 3, 4] (by decide) rfl
        have hK9 := hK.sub (tys' := [(c0, .int), (c1, .int), (c2, .int)]) [0, 1, 2] rfl
        exact W.zret (v := 0) hx hb hr rfl (fun t ht hW => ⟨⟨0, (), rfl, ⟨rfl, trivial⟩, by rw [ht]; exact hP9, va_K.moved hW.alike hK9, hD9⟩, hS.F ht⟩) hS.2.2 dX0_passes_73
      · have hG := q_ifn c_13 hG
        refine lv_iload_n hx hb dX0_passes_43 rfl (lv_at hl 0 rfl) ?_
        refine lv_bipush (v := 12) hx hb dX0_passes_44 (by decide) ?_
        refine lv_icmp_gt (tgt := 53) hx hb dX0_passes_46 (by decide) (fun c_16 => ?_) (fun c_16 => ?_)
        · have hG := q_ifp c_16 hG
          refine lv_iconst (v := 0) hx hb dX0_passes_53 (by decide) ?_
          refine lv_istore_n (lv' := [(3, .int 0), (2, .int o_11), (0, .ref g), (1, .int d)]) hx hb dX0_passes_54 rfl hl (by decide) rfl (fun ls hl => ?_)
          refine lv_aload_n hx hb dX0_passes_55 rfl (lv_at hl 2 rfl) ?_
          refine va_get (D := (dC, dI)) (ci := 0) (v := .ref r0) (C := RX0) (T := TX0) (N := 2) hx hb hts iA_0 hown hK hP 0 rfl rfl 0 (by decide) (hts (.fieldLink RX0 11 "HubTree$Bus" "row" "[I") (List.mem_cons_of_mem _ m_88)) (fun _ h9 => h9) rfl dX0_passes_56 ?_
          refine lv_iconst (v := 0) hx hb dX0_passes_59 (by decide) ?_
          refine lv_iload_n hx hb dX0_passes_60 rfl (lv_at hl 3 rfl) ?_
          refine lv_iadd hx hb dX0_passes_61 ?_
          refine lv_iload_n hx hb dX0_passes_62 rfl (lv_at hl 0 rfl) ?_
          refine lv_if_eq (tgt := 70) hx hb dX0_passes_63 (by decide) (fun c_17 => ?_) (fun c_17 => ?_)
          rotate_left
          · exact absurd (by decide) c_17
          refine lv_iconst (v := 4) hx hb dX0_passes_70 (by decide) ?_
          obtain ⟨h_18, hG⟩ := q_ix hG
          refine va_iast hx hb hK hP hD hS 1 0 rfl rfl (i := (0 + d)) (x := 4) h_18 dX0_passes_71 (fun H locs hP hD hS => ?_)
          have hP : va_P (dC, dI) vwCl [(g, .inr (0, [.ref r0, .ref h])), (r0, .inl (c0, 98, .inl (upd fr (0 + d).toNatClampNeg 4))), (h, .inr (5, [.ref r1, .ref r2, .int dv])), (r1, .inl (c1, 8, .inl fu)), (r2, .inl (c2, 48, .inl fp))] H := hP
          have hD : va_D A [(g, .inr (0, [.ref r0, .ref h])), (r0, .inl (c0, 98, .inl (upd fr (0 + d).toNatClampNeg 4))), (h, .inr (5, [.ref r1, .ref r2, .int dv])), (r1, .inl (c1, 8, .inl fu)), (r2, .inl (c2, 48, .inl fp))] := hD
          refine lv_iload_n hx hb dX0_passes_72 rfl (lv_at hl 0 rfl) ?_
          obtain rfl := Option.some.inj hG
          have hP9 := hP.sub (ws' := [(g, .inr (0, [.ref r0, .ref h])), (r0, .inl (c0, 98, .inl (upd fr (0 + d).toNatClampNeg 4))), (h, .inr (5, [.ref r1, .ref r2, .int dv])), (r1, .inl (c1, 8, .inl fu)), (r2, .inl (c2, 48, .inl fp))]) [0, 1, 2, 3, 4] rfl
          have hD9 := hD.sub (ws' := [(g, .inr (0, [.ref r0, .ref h])), (r0, .inl (c0, 98, .inl (upd fr (0 + d).toNatClampNeg 4))), (h, .inr (5, [.ref r1, .ref r2, .int dv])), (r1, .inl (c1, 8, .inl fu)), (r2, .inl (c2, 48, .inl fp))]) [0, 1, 2, 3, 4] (by decide) rfl
          have hK9 := hK.sub (tys' := [(c0, .int), (c1, .int), (c2, .int)]) [0, 1, 2] rfl
          exact W.zret (v := 0) hx hb hr rfl (fun t ht hW => ⟨⟨0, (), rfl, ⟨rfl, trivial⟩, by rw [ht]; exact hP9, va_K.moved hW.alike hK9, hD9⟩, hS.F ht⟩) hS.2.2 dX0_passes_73
        · have hG := q_ifn c_16 hG
          refine lv_iconst (v := 1) hx hb dX0_passes_49 (by decide) ?_
          refine lv_goto (tgt := 54) hx hb dX0_passes_50 (by decide) ?_
          refine lv_istore_n (lv' := [(3, .int 1), (2, .int o_11), (0, .ref g), (1, .int d)]) hx hb dX0_passes_54 rfl hl (by decide) rfl (fun ls hl => ?_)
          refine lv_aload_n hx hb dX0_passes_55 rfl (lv_at hl 2 rfl) ?_
          refine va_get (D := (dC, dI)) (ci := 0) (v := .ref r0) (C := RX0) (T := TX0) (N := 2) hx hb hts iA_0 hown hK hP 0 rfl rfl 0 (by decide) (hts (.fieldLink RX0 11 "HubTree$Bus" "row" "[I") (List.mem_cons_of_mem _ m_88)) (fun _ h9 => h9) rfl dX0_passes_56 ?_
          refine lv_iconst (v := 0) hx hb dX0_passes_59 (by decide) ?_
          refine lv_iload_n hx hb dX0_passes_60 rfl (lv_at hl 3 rfl) ?_
          refine lv_iadd hx hb dX0_passes_61 ?_
          refine lv_iload_n hx hb dX0_passes_62 rfl (lv_at hl 0 rfl) ?_
          refine lv_if_eq (tgt := 70) hx hb dX0_passes_63 (by decide) (fun c_19 => ?_) (fun c_19 => ?_)
          · exact absurd c_19 (by decide)
          refine lv_iconst (v := 5) hx hb dX0_passes_66 (by decide) ?_
          refine lv_goto (tgt := 71) hx hb dX0_passes_67 (by decide) ?_
          obtain ⟨h_20, hG⟩ := q_ix hG
          refine va_iast hx hb hK hP hD hS 1 0 rfl rfl (i := (0 + d)) (x := 5) h_20 dX0_passes_71 (fun H locs hP hD hS => ?_)
          have hP : va_P (dC, dI) vwCl [(g, .inr (0, [.ref r0, .ref h])), (r0, .inl (c0, 98, .inl (upd fr (0 + d).toNatClampNeg 5))), (h, .inr (5, [.ref r1, .ref r2, .int dv])), (r1, .inl (c1, 8, .inl fu)), (r2, .inl (c2, 48, .inl fp))] H := hP
          have hD : va_D A [(g, .inr (0, [.ref r0, .ref h])), (r0, .inl (c0, 98, .inl (upd fr (0 + d).toNatClampNeg 5))), (h, .inr (5, [.ref r1, .ref r2, .int dv])), (r1, .inl (c1, 8, .inl fu)), (r2, .inl (c2, 48, .inl fp))] := hD
          refine lv_iload_n hx hb dX0_passes_72 rfl (lv_at hl 0 rfl) ?_
          obtain rfl := Option.some.inj hG
          have hP9 := hP.sub (ws' := [(g, .inr (0, [.ref r0, .ref h])), (r0, .inl (c0, 98, .inl (upd fr (0 + d).toNatClampNeg 5))), (h, .inr (5, [.ref r1, .ref r2, .int dv])), (r1, .inl (c1, 8, .inl fu)), (r2, .inl (c2, 48, .inl fp))]) [0, 1, 2, 3, 4] rfl
          have hD9 := hD.sub (ws' := [(g, .inr (0, [.ref r0, .ref h])), (r0, .inl (c0, 98, .inl (upd fr (0 + d).toNatClampNeg 5))), (h, .inr (5, [.ref r1, .ref r2, .int dv])), (r1, .inl (c1, 8, .inl fu)), (r2, .inl (c2, 48, .inl fp))]) [0, 1, 2, 3, 4] (by decide) rfl
          have hK9 := hK.sub (tys' := [(c0, .int), (c1, .int), (c2, .int)]) [0, 1, 2] rfl
          exact W.zret (v := 1) hx hb hr rfl (fun t ht hW => ⟨⟨1, (), rfl, ⟨rfl, trivial⟩, by rw [ht]; exact hP9, va_K.moved hW.alike hK9, hD9⟩, hS.F ht⟩) hS.2.2 dX0_passes_73
  · have hG := q_ifp c_2 hG
    refine lv_aload_n hx hb dX0_passes_12 rfl (lv_at hl 0 rfl) ?_
    refine lv_iload_n hx hb dX0_passes_13 rfl (lv_at hl 1 rfl) ?_
    obtain ⟨o_21, r_22, hG⟩ := q_bi hG
    refine q_goi (v := o_21) (va_runV (As := [.int d]) (rest := []) ⟨hx, hb, hml, hown, hts⟩ (c_X0_isSound l dC dI g r0 h r1 r2 dv c0 fr c1 c2 fu fp d o_21 r_22) (cwV 1 hts (q_gV m_828 m_829 m_830 m_33 m_831) rfl rfl rfl hdV_yX0_isSound_1 ⟨Nat.le_of_ble_eq_true rfl, Nat.le_of_ble_eq_true rfl⟩) (q_preV hK hP (q := (RX0, TX0, 2)) (ci := 0) (q0 := 0) rfl rfl [0, 1, 2, 3, 4] rfl [0, 1, 2] rfl) rfl rfl hl.1 rfl (lv_room (Nat.le_of_ble_eq_true rfl)) dX0_passes_14 ⟨Nat.le_of_ble_eq_true rfl, Nat.le_of_ble_eq_true rfl⟩) hP hS (fun H locs hP hS => ?_)
    obtain ⟨g_23, hG⟩ := q_gu hG
    obtain rfl := Option.some.inj hG
    have hP9 := hP.sub (ws' := [(g, .inr (0, [.ref r0, .ref h])), (r0, .inl (c0, 98, .inl fr)), (h, .inr (5, [.ref r1, .ref r2, .int dv])), (r1, .inl (c1, 8, .inl fu)), (r2, .inl (c2, 48, .inl fp))]) [0, 1, 2, 3, 4] rfl
    have hD9 := hD.sub (ws' := [(g, .inr (0, [.ref r0, .ref h])), (r0, .inl (c0, 98, .inl fr)), (h, .inr (5, [.ref r1, .ref r2, .int dv])), (r1, .inl (c1, 8, .inl fu)), (r2, .inl (c2, 48, .inl fp))]) [0, 1, 2, 3, 4] (by decide) rfl
    have hK9 := hK.sub (tys' := [(c0, .int), (c1, .int), (c2, .int)]) [0, 1, 2] rfl
    exact W.zret (v := o_21) hx hb hr (q_nbo g_23) (fun t ht hW => ⟨⟨o_21, (), rfl, ⟨rfl, trivial⟩, by rw [ht]; exact hP9, va_K.moved hW.alike hK9, hD9⟩, hS.F ht⟩) hS.2.2 dX0_passes_17

def F_X0_fail (fr : Nat → Int32) (dv : Int32) (fu : Nat → Int32) (fp : Nat → Int32) (d : Int32) : Option ((Nat → Int32)) := (if (24 + d) < 0 ∨ 98 ≤ ((24 + d)).toNatClampNeg then none else (if (24 + d) < 0 ∨ 98 ≤ ((24 + d)).toNatClampNeg then none else (if (24 + d) < 0 ∨ 98 ≤ ((24 + d)).toNatClampNeg then none else (if ((upd fr (24 + d).toNatClampNeg ((fr (24 + d).toNatClampNeg) + 1)) (24 + d).toNatClampNeg) < (fu 3) then ((F_X0_queue (upd fr (24 + d).toNatClampNeg ((fr (24 + d).toNatClampNeg) + 1)) dv fu fp d).bind fun o_5 => some ((o_5))) else ((F_X0_refuse (upd fr (24 + d).toNatClampNeg ((fr (24 + d).toNatClampNeg) + 1)) dv fu fp d 1).bind fun o_7 => some ((o_7)))))))
set_option maxHeartbeats 4000000 in
set_option maxRecDepth 100000 in
theorem c_X0_fail (l : Launch) (dC : Nat → ClassId) (dI : Nat → Nat → Nat) (g : Nat) (r0 : Nat) (h : Nat) (r1 : Nat) (r2 : Nat) (dv : Int32) (c0 : ClassId) (fr : Nat → Int32) (c1 : ClassId) (c2 : ClassId) (fu : Nat → Int32) (fp : Nat → Int32) (d : Int32) (A : Nat → Prop) (o : (Nat → Int32)) (hG : F_X0_fail fr dv fu fp d = some o) : Met l yX0_fail (.code yX0_fail cX0_fail 2 none :: wA) ({ frames := 3, cells := 0, slots := 0, locals := 66 }) (va_Pc [.ref g, .int d] (q_W (dC, dI) A [(g, .inr (0, [.ref r0, .ref h])), (r0, .inl (c0, 98, .inl fr)), (h, .inr (5, [.ref r1, .ref r2, .int dv])), (r1, .inl (c1, 8, .inl fu)), (r2, .inl (c2, 48, .inl fp))] [(c0, .int), (c1, .int), (c2, .int)])) (va_Qv (fun _ : Unit => True) (fun (_ : Unit) t => q_B (dC, dI) A [(g, .inr (0, [.ref r0, .ref h])), (r0, .inl (c0, 98, .inl (o))), (h, .inr (5, [.ref r1, .ref r2, .int dv])), (r1, .inl (c1, 8, .inl fu)), (r2, .inl (c2, 48, .inl fp))] [(c0, .int), (c1, .int), (c2, .int)] t) A) 0 0 A := by
  refine Met.ofW (cc := cX0_fail) (maxL := 2) (ret := none) (by decide) rfl ?_
  intro p e s m args below meth c s₁ B hml hv
  obtain ⟨rfl, hP, hK, hD, hA⟩ := hv
  have hx := B.exec
  have hb := B.bytes
  have hr := B.returns
  have hts := atoms_spec (ws := .code yX0_fail cX0_fail 2 none :: wA) B.pre
  have hown : s.vm.findClass RX0 = some m.cls := findClass_of_methodNamed B.named
  have hlocks := B.notSynchronized
  have hS : va_S A s.heap s.heap [] := va_S.rf
  have hl := lv_entry ([.ref g, .int d]) (n := 2) (Nat.le_of_ble_eq_true rfl)
  rw [lg_entry_eq]
  generalize (lg_sl ([.ref g, .int d]) ++ List.replicate (2 - (lg_sl ([.ref g, .int d])).length) Slot.unset).toArray = ls at hl ⊢
  have hl : lv_has ls 2 [(0, .ref g), (1, .int d)] := hl
  unfold F_X0_fail at hG
  refine lv_aload_n hx hb dX0_fail_0 rfl (lv_at hl 0 rfl) ?_
  refine va_get (D := (dC, dI)) (ci := 0) (v := .ref r0) (C := RX0) (T := TX0) (N := 2) hx hb hts iA_0 hown hK hP 0 rfl rfl 0 (by decide) (hts (.fieldLink RX0 11 "HubTree$Bus" "row" "[I") (List.mem_cons_of_mem _ m_88)) (fun _ h9 => h9) rfl dX0_fail_1 ?_
  refine lv_bipush (v := 24) hx hb dX0_fail_4 (by decide) ?_
  refine lv_iload_n hx hb dX0_fail_6 rfl (lv_at hl 1 rfl) ?_
  refine lv_iadd hx hb dX0_fail_7 ?_
  refine lv_dup2_11 hx hb dX0_fail_8 rfl rfl ?_
  obtain ⟨h_1, hG⟩ := q_ix hG
  refine va_iald hx hb hK hP 1 0 rfl rfl (i := (24 + d)) h_1 dX0_fail_9 ?_
  refine q_top (y := (fr (24 + d).toNatClampNeg)) rfl ?_
  refine lv_iconst (v := 1) hx hb dX0_fail_10 (by decide) ?_
  refine lv_iadd hx hb dX0_fail_11 ?_
  obtain ⟨h_2, hG⟩ := q_ix hG
  refine va_iast hx hb hK hP hD hS 1 0 rfl rfl (i := (24 + d)) (x := ((fr (24 + d).toNatClampNeg) + 1)) h_2 dX0_fail_12 (fun H locs hP hD hS => ?_)
  have hP : va_P (dC, dI) vwCl [(g, .inr (0, [.ref r0, .ref h])), (r0, .inl (c0, 98, .inl (upd fr (24 + d).toNatClampNeg ((fr (24 + d).toNatClampNeg) + 1)))), (h, .inr (5, [.ref r1, .ref r2, .int dv])), (r1, .inl (c1, 8, .inl fu)), (r2, .inl (c2, 48, .inl fp))] H := hP
  have hD : va_D A [(g, .inr (0, [.ref r0, .ref h])), (r0, .inl (c0, 98, .inl (upd fr (24 + d).toNatClampNeg ((fr (24 + d).toNatClampNeg) + 1)))), (h, .inr (5, [.ref r1, .ref r2, .int dv])), (r1, .inl (c1, 8, .inl fu)), (r2, .inl (c2, 48, .inl fp))] := hD
  refine lv_aload_n hx hb dX0_fail_13 rfl (lv_at hl 0 rfl) ?_
  refine va_get (D := (dC, dI)) (ci := 0) (v := .ref r0) (C := RX0) (T := TX0) (N := 2) hx hb hts iA_0 hown hK hP 0 rfl rfl 0 (by decide) (hts (.fieldLink RX0 11 "HubTree$Bus" "row" "[I") (List.mem_cons_of_mem _ m_88)) (fun _ h9 => h9) rfl dX0_fail_14 ?_
  refine lv_bipush (v := 24) hx hb dX0_fail_17 (by decide) ?_
  refine lv_iload_n hx hb dX0_fail_19 rfl (lv_at hl 1 rfl) ?_
  refine lv_iadd hx hb dX0_fail_20 ?_
  obtain ⟨h_3, hG⟩ := q_ix hG
  refine va_iald hx hb hK hP 1 0 rfl rfl (i := (24 + d)) h_3 dX0_fail_21 ?_
  refine q_top (y := ((upd fr (24 + d).toNatClampNeg ((fr (24 + d).toNatClampNeg) + 1)) (24 + d).toNatClampNeg)) rfl ?_
  refine lv_aload_n hx hb dX0_fail_22 rfl (lv_at hl 0 rfl) ?_
  refine va_get (D := (dC, dI)) (ci := 0) (v := .ref h) (C := RX0) (T := TX0) (N := 2) hx hb hts iA_0 hown hK hP 0 rfl rfl 1 (by decide) (hts (.fieldLink RX0 15 "HubTree$Bus" "plan" "LHubTree$Plan;") (List.mem_cons_of_mem _ m_89)) (fun _ h9 => h9) rfl dX0_fail_23 ?_
  refine va_get (D := (dC, dI)) (ci := 5) (v := .ref r1) (C := RX5) (T := TX5) (N := 3) hx hb hts iA_5 hown hK hP 2 rfl rfl 0 (by decide) (hts (.fieldLink RX0 84 "HubTree$Plan" "rules" "[I") (List.mem_cons_of_mem _ m_577)) (fun _ h9 => h9) rfl dX0_fail_26 ?_
  refine lv_iconst (v := 3) hx hb dX0_fail_29 (by decide) ?_
  refine va_iald hx hb hK hP 3 1 rfl rfl (i := 3) (vp_in_iff.mpr (by decide)) dX0_fail_30 ?_
  refine q_top (y := (fu 3)) rfl ?_
  refine lv_icmp_lt (tgt := 43) hx hb dX0_fail_31 (by decide) (fun c_4 => ?_) (fun c_4 => ?_)
  · have hG := q_ifp c_4 hG
    refine lv_aload_n hx hb dX0_fail_43 rfl (lv_at hl 0 rfl) ?_
    refine lv_iload_n hx hb dX0_fail_44 rfl (lv_at hl 1 rfl) ?_
    obtain ⟨o_5, r_6, hG⟩ := q_bi hG
    refine q_gov2 (wr := []) (va_runV (As := [.int d]) (rest := []) ⟨hx, hb, hml, hown, hts⟩ (c_X0_queue l dC dI g r0 h r1 r2 dv c0 (upd fr (24 + d).toNatClampNeg ((fr (24 + d).toNatClampNeg) + 1)) c1 c2 fu fp d (va_A [(g, .inr (0, [.ref r0, .ref h])), (r0, .inl (c0, 98, .inl (upd fr (24 + d).toNatClampNeg ((fr (24 + d).toNatClampNeg) + 1)))), (h, .inr (5, [.ref r1, .ref r2, .int dv])), (r1, .inl (c1, 8, .inl fu)), (r2, .inl (c2, 48, .inl fp))] H.size) o_5 r_6) (cwV 1 hts (q_gV m_816 m_817 m_818 m_33 m_819) rfl rfl rfl hdV_yX0_queue_1 ⟨Nat.le_of_ble_eq_true rfl, Nat.le_of_ble_eq_true rfl⟩) (q_preWV hK hP hD (q := (RX0, TX0, 2)) (ci := 0) (q0 := 0) rfl rfl [0, 1, 2, 3, 4] (by decide) rfl rfl [0, 1, 2] rfl) rfl rfl hl.1 rfl (lv_room (Nat.le_of_ble_eq_true rfl)) dX0_fail_45 ⟨Nat.le_of_ble_eq_true rfl, Nat.le_of_ble_eq_true rfl⟩) hK hP hD hS hA [0, 1, 2, 3, 4] [] rfl rfl (by decide) (by decide) (fun _ H locs _ hP hD hK9 hS => ?_)
    have hP : va_P (dC, dI) vwCl [(g, .inr (0, [.ref r0, .ref h])), (r0, .inl (c0, 98, .inl (o_5))), (h, .inr (5, [.ref r1, .ref r2, .int dv])), (r1, .inl (c1, 8, .inl fu)), (r2, .inl (c2, 48, .inl fp))] H := hP.sub [0, 1, 2, 3, 4] rfl
    have hD : va_D A [(g, .inr (0, [.ref r0, .ref h])), (r0, .inl (c0, 98, .inl (o_5))), (h, .inr (5, [.ref r1, .ref r2, .int dv])), (r1, .inl (c1, 8, .inl fu)), (r2, .inl (c2, 48, .inl fp))] := hD.sub [0, 1, 2, 3, 4] (by decide) rfl
    obtain rfl := Option.some.inj hG
    have hP9 := hP.sub (ws' := [(g, .inr (0, [.ref r0, .ref h])), (r0, .inl (c0, 98, .inl (o_5))), (h, .inr (5, [.ref r1, .ref r2, .int dv])), (r1, .inl (c1, 8, .inl fu)), (r2, .inl (c2, 48, .inl fp))]) [0, 1, 2, 3, 4] rfl
    have hD9 := hD.sub (ws' := [(g, .inr (0, [.ref r0, .ref h])), (r0, .inl (c0, 98, .inl (o_5))), (h, .inr (5, [.ref r1, .ref r2, .int dv])), (r1, .inl (c1, 8, .inl fu)), (r2, .inl (c2, 48, .inl fp))]) [0, 1, 2, 3, 4] (by decide) rfl
    have hK9 := hK.sub (tys' := [(c0, .int), (c1, .int), (c2, .int)]) [0, 1, 2] rfl
    exact W.vret hx hb hr (fun t ht hW => ⟨⟨(), rfl, trivial, by rw [ht]; exact hP9, va_K.moved hW.alike hK9, hD9⟩, hS.F ht⟩) hS.2.2 dX0_fail_48
  · have hG := q_ifn c_4 hG
    refine lv_aload_n hx hb dX0_fail_34 rfl (lv_at hl 0 rfl) ?_
    refine lv_iload_n hx hb dX0_fail_35 rfl (lv_at hl 1 rfl) ?_
    refine lv_iconst (v := 1) hx hb dX0_fail_36 (by decide) ?_
    obtain ⟨o_7, r_8, hG⟩ := q_bi hG
    refine q_gov2 (wr := []) (va_runV (As := [.int d, .int 1]) (rest := []) ⟨hx, hb, hml, hown, hts⟩ (c_X0_refuse l dC dI g r0 h r1 r2 dv c0 (upd fr (24 + d).toNatClampNeg ((fr (24 + d).toNatClampNeg) + 1)) c1 c2 fu fp d 1 (va_A [(g, .inr (0, [.ref r0, .ref h])), (r0, .inl (c0, 98, .inl (upd fr (24 + d).toNatClampNeg ((fr (24 + d).toNatClampNeg) + 1)))), (h, .inr (5, [.ref r1, .ref r2, .int dv])), (r1, .inl (c1, 8, .inl fu)), (r2, .inl (c2, 48, .inl fp))] H.size) o_7 r_8) (cwV 2 hts (q_gV m_838 m_839 m_840 m_33 m_841) rfl rfl rfl hdV_yX0_refuse_2 ⟨Nat.le_of_ble_eq_true rfl, Nat.le_of_ble_eq_true rfl⟩) (q_preWV hK hP hD (q := (RX0, TX0, 2)) (ci := 0) (q0 := 0) rfl rfl [0, 1, 2, 3, 4] (by decide) rfl rfl [0, 1, 2] rfl) rfl rfl hl.1 rfl (lv_room (Nat.le_of_ble_eq_true rfl)) dX0_fail_37 ⟨Nat.le_of_ble_eq_true rfl, Nat.le_of_ble_eq_true rfl⟩) hK hP hD hS hA [0, 1, 2, 3, 4] [] rfl rfl (by decide) (by decide) (fun _ H locs _ hP hD hK9 hS => ?_)
    have hP : va_P (dC, dI) vwCl [(g, .inr (0, [.ref r0, .ref h])), (r0, .inl (c0, 98, .inl (o_7))), (h, .inr (5, [.ref r1, .ref r2, .int dv])), (r1, .inl (c1, 8, .inl fu)), (r2, .inl (c2, 48, .inl fp))] H := hP.sub [0, 1, 2, 3, 4] rfl
    have hD : va_D A [(g, .inr (0, [.ref r0, .ref h])), (r0, .inl (c0, 98, .inl (o_7))), (h, .inr (5, [.ref r1, .ref r2, .int dv])), (r1, .inl (c1, 8, .inl fu)), (r2, .inl (c2, 48, .inl fp))] := hD.sub [0, 1, 2, 3, 4] (by decide) rfl
    refine lv_goto (tgt := 48) hx hb dX0_fail_40 (by decide) ?_
    obtain rfl := Option.some.inj hG
    have hP9 := hP.sub (ws' := [(g, .inr (0, [.ref r0, .ref h])), (r0, .inl (c0, 98, .inl (o_7))), (h, .inr (5, [.ref r1, .ref r2, .int dv])), (r1, .inl (c1, 8, .inl fu)), (r2, .inl (c2, 48, .inl fp))]) [0, 1, 2, 3, 4] rfl
    have hD9 := hD.sub (ws' := [(g, .inr (0, [.ref r0, .ref h])), (r0, .inl (c0, 98, .inl (o_7))), (h, .inr (5, [.ref r1, .ref r2, .int dv])), (r1, .inl (c1, 8, .inl fu)), (r2, .inl (c2, 48, .inl fp))]) [0, 1, 2, 3, 4] (by decide) rfl
    have hK9 := hK.sub (tys' := [(c0, .int), (c1, .int), (c2, .int)]) [0, 1, 2] rfl
    exact W.vret hx hb hr (fun t ht hW => ⟨⟨(), rfl, trivial, by rw [ht]; exact hP9, va_K.moved hW.alike hK9, hD9⟩, hS.F ht⟩) hS.2.2 dX0_fail_48

def F_X0_conclude (fr : Nat → Int32) (dv : Int32) (fu : Nat → Int32) (fp : Nat → Int32) (d : Int32) (ee : Int32) : Option ((Nat → Int32)) := (if ee = 0 then ((F_X0_lower fr dv fu fp d 6).bind fun o_2 => ((F_X0_freeAddress (o_2) dv fu fp).bind fun o_4 => (if (56 + d) < 0 ∨ 98 ≤ ((56 + d)).toNatClampNeg then none else ((F_X0_speedOf (upd (o_2) (56 + d).toNatClampNeg o_4) dv fu fp d).bind fun o_7 => (if (48 + d) < 0 ∨ 98 ≤ ((48 + d)).toNatClampNeg then none else some ((upd (upd (o_2) (56 + d).toNatClampNeg o_4) (48 + d).toNatClampNeg o_7))))))) else ((F_X0_refuse fr dv fu fp d ee).bind fun o_10 => some ((o_10))))
set_option maxHeartbeats 4000000 in
set_option maxRecDepth 100000 in
theorem c_X0_conclude (l : Launch) (dC : Nat → ClassId) (dI : Nat → Nat → Nat) (g : Nat) (r0 : Nat) (h : Nat) (r1 : Nat) (r2 : Nat) (dv : Int32) (c0 : ClassId) (fr : Nat → Int32) (c1 : ClassId) (c2 : ClassId) (fu : Nat → Int32) (fp : Nat → Int32) (d : Int32) (ee : Int32) (A : Nat → Prop) (o : (Nat → Int32)) (hG : F_X0_conclude fr dv fu fp d ee = some o) : Met l yX0_conclude (.code yX0_conclude cX0_conclude 3 none :: wA) ({ frames := 3, cells := 0, slots := 0, locals := 66 }) (va_Pc [.ref g, .int d, .int ee] (q_W (dC, dI) A [(g, .inr (0, [.ref r0, .ref h])), (r0, .inl (c0, 98, .inl fr)), (h, .inr (5, [.ref r1, .ref r2, .int dv])), (r1, .inl (c1, 8, .inl fu)), (r2, .inl (c2, 48, .inl fp))] [(c0, .int), (c1, .int), (c2, .int)])) (va_Qv (fun _ : Unit => True) (fun (_ : Unit) t => q_B (dC, dI) A [(g, .inr (0, [.ref r0, .ref h])), (r0, .inl (c0, 98, .inl (o))), (h, .inr (5, [.ref r1, .ref r2, .int dv])), (r1, .inl (c1, 8, .inl fu)), (r2, .inl (c2, 48, .inl fp))] [(c0, .int), (c1, .int), (c2, .int)] t) A) 0 0 A := by
  refine Met.ofW (cc := cX0_conclude) (maxL := 3) (ret := none) (by decide) rfl ?_
  intro p e s m args below meth c s₁ B hml hv
  obtain ⟨rfl, hP, hK, hD, hA⟩ := hv
  have hx := B.exec
  have hb := B.bytes
  have hr := B.returns
  have hts := atoms_spec (ws := .code yX0_conclude cX0_conclude 3 none :: wA) B.pre
  have hown : s.vm.findClass RX0 = some m.cls := findClass_of_methodNamed B.named
  have hlocks := B.notSynchronized
  have hS : va_S A s.heap s.heap [] := va_S.rf
  have hl := lv_entry ([.ref g, .int d, .int ee]) (n := 3) (Nat.le_of_ble_eq_true rfl)
  rw [lg_entry_eq]
  generalize (lg_sl ([.ref g, .int d, .int ee]) ++ List.replicate (3 - (lg_sl ([.ref g, .int d, .int ee])).length) Slot.unset).toArray = ls at hl ⊢
  have hl : lv_has ls 3 [(0, .ref g), (1, .int d), (2, .int ee)] := hl
  unfold F_X0_conclude at hG
  refine lv_iload_n hx hb dX0_conclude_0 rfl (lv_at hl 2 rfl) ?_
  refine lv_if_eq (tgt := 11) hx hb dX0_conclude_1 (by decide) (fun c_1 => ?_) (fun c_1 => ?_)
  · have hG := q_ifp c_1 hG
    refine lv_aload_n hx hb dX0_conclude_11 rfl (lv_at hl 0 rfl) ?_
    refine lv_iload_n hx hb dX0_conclude_12 rfl (lv_at hl 1 rfl) ?_
    refine lv_bipush (v := 6) hx hb dX0_conclude_13 (by decide) ?_
    obtain ⟨o_2, r_3, hG⟩ := q_bi hG
    refine q_gov2 (wr := []) (va_runV (As := [.int d, .int 6]) (rest := []) ⟨hx, hb, hml, hown, hts⟩ (c_X0_lower l dC dI g r0 h r1 r2 dv c0 fr c1 c2 fu fp d 6 (va_A [(g, .inr (0, [.ref r0, .ref h])), (r0, .inl (c0, 98, .inl fr)), (h, .inr (5, [.ref r1, .ref r2, .int dv])), (r1, .inl (c1, 8, .inl fu)), (r2, .inl (c2, 48, .inl fp))] s.heap.size) o_2 r_3) (cwV 2 hts (q_gV m_406 m_407 m_408 m_33 m_409) rfl rfl rfl hdV_yX0_lower_2 ⟨Nat.le_of_ble_eq_true rfl, Nat.le_of_ble_eq_true rfl⟩) (q_preWV hK hP hD (q := (RX0, TX0, 2)) (ci := 0) (q0 := 0) rfl rfl [0, 1, 2, 3, 4] (by decide) rfl rfl [0, 1, 2] rfl) rfl rfl hl.1 rfl (lv_room (Nat.le_of_ble_eq_true rfl)) dX0_conclude_15 ⟨Nat.le_of_ble_eq_true rfl, Nat.le_of_ble_eq_true rfl⟩) hK hP hD hS hA [0, 1, 2, 3, 4] [] rfl rfl (by decide) (by decide) (fun _ H locs _ hP hD hK9 hS => ?_)
    have hP : va_P (dC, dI) vwCl [(g, .inr (0, [.ref r0, .ref h])), (r0, .inl (c0, 98, .inl (o_2))), (h, .inr (5, [.ref r1, .ref r2, .int dv])), (r1, .inl (c1, 8, .inl fu)), (r2, .inl (c2, 48, .inl fp))] H := hP.sub [0, 1, 2, 3, 4] rfl
    have hD : va_D A [(g, .inr (0, [.ref r0, .ref h])), (r0, .inl (c0, 98, .inl (o_2))), (h, .inr (5, [.ref r1, .ref r2, .int dv])), (r1, .inl (c1, 8, .inl fu)), (r2, .inl (c2, 48, .inl fp))] := hD.sub [0, 1, 2, 3, 4] (by decide) rfl
    refine lv_aload_n hx hb dX0_conclude_18 rfl (lv_at hl 0 rfl) ?_
    refine va_get (D := (dC, dI)) (ci := 0) (v := .ref r0) (C := RX0) (T := TX0) (N := 2) hx hb hts iA_0 hown hK hP 0 rfl rfl 0 (by decide) (hts (.fieldLink RX0 11 "HubTree$Bus" "row" "[I") (List.mem_cons_of_mem _ m_88)) (fun _ h9 => h9) rfl dX0_conclude_19 ?_
    refine lv_bipush (v := 56) hx hb dX0_conclude_22 (by decide) ?_
    refine lv_iload_n hx hb dX0_conclude_24 rfl (lv_at hl 1 rfl) ?_
    refine lv_iadd hx hb dX0_conclude_25 ?_
    refine lv_aload_n hx hb dX0_conclude_26 rfl (lv_at hl 0 rfl) ?_
    obtain ⟨o_4, r_5, hG⟩ := q_bi hG
    refine q_goi (v := o_4) (va_runV (As := []) (rest := [.int (56 + d), .ref r0]) ⟨hx, hb, hml, hown, hts⟩ (c_X0_freeAddress l dC dI g r0 h r1 r2 dv c0 (o_2) c1 c2 fu fp o_4 r_5) (cwV 0 hts (q_gV m_847 m_848 m_849 m_33 m_850) rfl rfl rfl hdV_yX0_freeAddress_0 ⟨Nat.le_of_ble_eq_true rfl, Nat.le_of_ble_eq_true rfl⟩) (q_preV hK hP (q := (RX0, TX0, 2)) (ci := 0) (q0 := 0) rfl rfl [0, 1, 2, 3, 4] rfl [0, 1, 2] rfl) rfl rfl hl.1 rfl (lv_room (Nat.le_of_ble_eq_true rfl)) dX0_conclude_27 ⟨Nat.le_of_ble_eq_true rfl, Nat.le_of_ble_eq_true rfl⟩) hP hS (fun H locs hP hS => ?_)
    obtain ⟨h_6, hG⟩ := q_ix hG
    refine va_iast hx hb hK hP hD hS 1 0 rfl rfl (i := (56 + d)) (x := o_4) h_6 dX0_conclude_30 (fun H locs hP hD hS => ?_)
    have hP : va_P (dC, dI) vwCl [(g, .inr (0, [.ref r0, .ref h])), (r0, .inl (c0, 98, .inl (upd (o_2) (56 + d).toNatClampNeg o_4))), (h, .inr (5, [.ref r1, .ref r2, .int dv])), (r1, .inl (c1, 8, .inl fu)), (r2, .inl (c2, 48, .inl fp))] H := hP
    have hD : va_D A [(g, .inr (0, [.ref r0, .ref h])), (r0, .inl (c0, 98, .inl (upd (o_2) (56 + d).toNatClampNeg o_4))), (h, .inr (5, [.ref r1, .ref r2, .int dv])), (r1, .inl (c1, 8, .inl fu)), (r2, .inl (c2, 48, .inl fp))] := hD
    refine lv_aload_n hx hb dX0_conclude_31 rfl (lv_at hl 0 rfl) ?_
    refine va_get (D := (dC, dI)) (ci := 0) (v := .ref r0) (C := RX0) (T := TX0) (N := 2) hx hb hts iA_0 hown hK hP 0 rfl rfl 0 (by decide) (hts (.fieldLink RX0 11 "HubTree$Bus" "row" "[I") (List.mem_cons_of_mem _ m_88)) (fun _ h9 => h9) rfl dX0_conclude_32 ?_
    refine lv_bipush (v := 48) hx hb dX0_conclude_35 (by decide) ?_
    refine lv_iload_n hx hb dX0_conclude_37 rfl (lv_at hl 1 rfl) ?_
    refine lv_iadd hx hb dX0_conclude_38 ?_
    refine lv_aload_n hx hb dX0_conclude_39 rfl (lv_at hl 0 rfl) ?_
    refine lv_iload_n hx hb dX0_conclude_40 rfl (lv_at hl 1 rfl) ?_
    obtain ⟨o_7, r_8, hG⟩ := q_bi hG
    refine q_goi (v := o_7) (va_runV (As := [.int d]) (rest := [.int (48 + d), .ref r0]) ⟨hx, hb, hml, hown, hts⟩ (c_X0_speedOf l dC dI g r0 h r1 r2 dv c0 (upd (o_2) (56 + d).toNatClampNeg o_4) c1 c2 fu fp d o_7 r_8) (cwV 1 hts (q_gV m_766 m_767 m_768 m_33 m_769) rfl rfl rfl hdV_yX0_speedOf_1 ⟨Nat.le_of_ble_eq_true rfl, Nat.le_of_ble_eq_true rfl⟩) (q_preV hK hP (q := (RX0, TX0, 2)) (ci := 0) (q0 := 0) rfl rfl [0, 1, 2, 3, 4] rfl [0, 1, 2] rfl) rfl rfl hl.1 rfl (lv_room (Nat.le_of_ble_eq_true rfl)) dX0_conclude_41 ⟨Nat.le_of_ble_eq_true rfl, Nat.le_of_ble_eq_true rfl⟩) hP hS (fun H locs hP hS => ?_)
    obtain ⟨h_9, hG⟩ := q_ix hG
    refine va_iast hx hb hK hP hD hS 1 0 rfl rfl (i := (48 + d)) (x := o_7) h_9 dX0_conclude_44 (fun H locs hP hD hS => ?_)
    have hP : va_P (dC, dI) vwCl [(g, .inr (0, [.ref r0, .ref h])), (r0, .inl (c0, 98, .inl (upd (upd (o_2) (56 + d).toNatClampNeg o_4) (48 + d).toNatClampNeg o_7))), (h, .inr (5, [.ref r1, .ref r2, .int dv])), (r1, .inl (c1, 8, .inl fu)), (r2, .inl (c2, 48, .inl fp))] H := hP
    have hD : va_D A [(g, .inr (0, [.ref r0, .ref h])), (r0, .inl (c0, 98, .inl (upd (upd (o_2) (56 + d).toNatClampNeg o_4) (48 + d).toNatClampNeg o_7))), (h, .inr (5, [.ref r1, .ref r2, .int dv])), (r1, .inl (c1, 8, .inl fu)), (r2, .inl (c2, 48, .inl fp))] := hD
    obtain rfl := Option.some.inj hG
    have hP9 := hP.sub (ws' := [(g, .inr (0, [.ref r0, .ref h])), (r0, .inl (c0, 98, .inl (upd (upd (o_2) (56 + d).toNatClampNeg o_4) (48 + d).toNatClampNeg o_7))), (h, .inr (5, [.ref r1, .ref r2, .int dv])), (r1, .inl (c1, 8, .inl fu)), (r2, .inl (c2, 48, .inl fp))]) [0, 1, 2, 3, 4] rfl
    have hD9 := hD.sub (ws' := [(g, .inr (0, [.ref r0, .ref h])), (r0, .inl (c0, 98, .inl (upd (upd (o_2) (56 + d).toNatClampNeg o_4) (48 + d).toNatClampNeg o_7))), (h, .inr (5, [.ref r1, .ref r2, .int dv])), (r1, .inl (c1, 8, .inl fu)), (r2, .inl (c2, 48, .inl fp))]) [0, 1, 2, 3, 4] (by decide) rfl
    have hK9 := hK.sub (tys' := [(c0, .int), (c1, .int), (c2, .int)]) [0, 1, 2] rfl
    exact W.vret hx hb hr (fun t ht hW => ⟨⟨(), rfl, trivial, by rw [ht]; exact hP9, va_K.moved hW.alike hK9, hD9⟩, hS.F ht⟩) hS.2.2 dX0_conclude_45
  · have hG := q_ifn c_1 hG
    refine lv_aload_n hx hb dX0_conclude_4 rfl (lv_at hl 0 rfl) ?_
    refine lv_iload_n hx hb dX0_conclude_5 rfl (lv_at hl 1 rfl) ?_
    refine lv_iload_n hx hb dX0_conclude_6 rfl (lv_at hl 2 rfl) ?_
    obtain ⟨o_10, r_11, hG⟩ := q_bi hG
    refine q_gov2 (wr := []) (va_runV (As := [.int d, .int ee]) (rest := []) ⟨hx, hb, hml, hown, hts⟩ (c_X0_refuse l dC dI g r0 h r1 r2 dv c0 fr c1 c2 fu fp d ee (va_A [(g, .inr (0, [.ref r0, .ref h])), (r0, .inl (c0, 98, .inl fr)), (h, .inr (5, [.ref r1, .ref r2, .int dv])), (r1, .inl (c1, 8, .inl fu)), (r2, .inl (c2, 48, .inl fp))] s.heap.size) o_10 r_11) (cwV 2 hts (q_gV m_838 m_839 m_840 m_33 m_841) rfl rfl rfl hdV_yX0_refuse_2 ⟨Nat.le_of_ble_eq_true rfl, Nat.le_of_ble_eq_true rfl⟩) (q_preWV hK hP hD (q := (RX0, TX0, 2)) (ci := 0) (q0 := 0) rfl rfl [0, 1, 2, 3, 4] (by decide) rfl rfl [0, 1, 2] rfl) rfl rfl hl.1 rfl (lv_room (Nat.le_of_ble_eq_true rfl)) dX0_conclude_7 ⟨Nat.le_of_ble_eq_true rfl, Nat.le_of_ble_eq_true rfl⟩) hK hP hD hS hA [0, 1, 2, 3, 4] [] rfl rfl (by decide) (by decide) (fun _ H locs _ hP hD hK9 hS => ?_)
    have hP : va_P (dC, dI) vwCl [(g, .inr (0, [.ref r0, .ref h])), (r0, .inl (c0, 98, .inl (o_10))), (h, .inr (5, [.ref r1, .ref r2, .int dv])), (r1, .inl (c1, 8, .inl fu)), (r2, .inl (c2, 48, .inl fp))] H := hP.sub [0, 1, 2, 3, 4] rfl
    have hD : va_D A [(g, .inr (0, [.ref r0, .ref h])), (r0, .inl (c0, 98, .inl (o_10))), (h, .inr (5, [.ref r1, .ref r2, .int dv])), (r1, .inl (c1, 8, .inl fu)), (r2, .inl (c2, 48, .inl fp))] := hD.sub [0, 1, 2, 3, 4] (by decide) rfl
    obtain rfl := Option.some.inj hG
    have hP9 := hP.sub (ws' := [(g, .inr (0, [.ref r0, .ref h])), (r0, .inl (c0, 98, .inl (o_10))), (h, .inr (5, [.ref r1, .ref r2, .int dv])), (r1, .inl (c1, 8, .inl fu)), (r2, .inl (c2, 48, .inl fp))]) [0, 1, 2, 3, 4] rfl
    have hD9 := hD.sub (ws' := [(g, .inr (0, [.ref r0, .ref h])), (r0, .inl (c0, 98, .inl (o_10))), (h, .inr (5, [.ref r1, .ref r2, .int dv])), (r1, .inl (c1, 8, .inl fu)), (r2, .inl (c2, 48, .inl fp))]) [0, 1, 2, 3, 4] (by decide) rfl
    have hK9 := hK.sub (tys' := [(c0, .int), (c1, .int), (c2, .int)]) [0, 1, 2] rfl
    exact W.vret hx hb hr (fun t ht hW => ⟨⟨(), rfl, trivial, by rw [ht]; exact hP9, va_K.moved hW.alike hK9, hD9⟩, hS.F ht⟩) hS.2.2 dX0_conclude_10

def F_X0_passTick (fr : Nat → Int32) (dv : Int32) (fu : Nat → Int32) (fp : Nat → Int32) : Option ((Nat → Int32)) := ((F_X0_settle fr dv fu fp).bind fun o_1 => ((F_X0_standing (o_1) dv fu fp).bind fun o_3 => (if o_3 = (-1) then ((F_X0_standing (o_1) dv fu fp).bind fun o_6 => (if o_6 = (-1) then ((F_X0_firstInLine (o_1) dv fu fp).bind fun o_10 => (if o_10 = (-1) then some ((upd (o_1) 96 (if 9999 < (((o_1) 96) + 1) then 9999 else (((o_1) 96) + 1)))) else ((F_X0_lower (o_1) dv fu fp o_10 3).bind fun o_13 => (if (8 + o_10) < 0 ∨ 98 ≤ ((8 + o_10)).toNatClampNeg then none else some ((upd (upd (o_13) (8 + o_10).toNatClampNeg (fu 2)) 96 (if 9999 < (((upd (o_13) (8 + o_10).toNatClampNeg (fu 2)) 96) + 1) then 9999 else (((upd (o_13) (8 + o_10).toNatClampNeg (fu 2)) 96) + 1)))))))) else some ((upd (o_1) 96 (if 9999 < (((o_1) 96) + 1) then 9999 else (((o_1) 96) + 1)))))) else (if (0 + o_3) < 0 ∨ 98 ≤ ((0 + o_3)).toNatClampNeg then none else (if ((o_1) (0 + o_3).toNatClampNeg) = 5 then ((F_X0_passes (o_1) dv fu fp o_3).bind fun o_44 => (if o_44.1 = 0 then ((F_X0_fail (o_44.2) dv fu fp o_3).bind fun o_62 => ((F_X0_standing (o_62) dv fu fp).bind fun o_64 => (if o_64 = (-1) then ((F_X0_firstInLine (o_62) dv fu fp).bind fun o_68 => (if o_68 = (-1) then some ((upd (o_62) 96 (if 9999 < (((o_62) 96) + 1) then 9999 else (((o_62) 96) + 1)))) else ((F_X0_lower (o_62) dv fu fp o_68 3).bind fun o_71 => (if (8 + o_68) < 0 ∨ 98 ≤ ((8 + o_68)).toNatClampNeg then none else some ((upd (upd (o_71) (8 + o_68).toNatClampNeg (fu 2)) 96 (if 9999 < (((upd (o_71) (8 + o_68).toNatClampNeg (fu 2)) 96) + 1) then 9999 else (((upd (o_71) (8 + o_68).toNatClampNeg (fu 2)) 96) + 1)))))))) else some ((upd (o_62) 96 (if 9999 < (((o_62) 96) + 1) then 9999 else (((o_62) 96) + 1))))))) else ((F_X0_reasonAgainst (o_44.2) dv fu fp o_3).bind fun o_48 => ((F_X0_conclude (o_44.2) dv fu fp o_3 o_48).bind fun o_50 => ((F_X0_standing (o_50) dv fu fp).bind fun o_52 => (if o_52 = (-1) then ((F_X0_firstInLine (o_50) dv fu fp).bind fun o_56 => (if o_56 = (-1) then some ((upd (o_50) 96 (if 9999 < (((o_50) 96) + 1) then 9999 else (((o_50) 96) + 1)))) else ((F_X0_lower (o_50) dv fu fp o_56 3).bind fun o_59 => (if (8 + o_56) < 0 ∨ 98 ≤ ((8 + o_56)).toNatClampNeg then none else some ((upd (upd (o_59) (8 + o_56).toNatClampNeg (fu 2)) 96 (if 9999 < (((upd (o_59) (8 + o_56).toNatClampNeg (fu 2)) 96) + 1) then 9999 else (((upd (o_59) (8 + o_56).toNatClampNeg (fu 2)) 96) + 1)))))))) else some ((upd (o_50) 96 (if 9999 < (((o_50) 96) + 1) then 9999 else (((o_50) 96) + 1)))))))))) else ((F_X0_passes (o_1) dv fu fp o_3).bind fun o_18 => (if o_18.1 = 0 then ((F_X0_fail (o_18.2) dv fu fp o_3).bind fun o_32 => ((F_X0_standing (o_32) dv fu fp).bind fun o_34 => (if o_34 = (-1) then ((F_X0_firstInLine (o_32) dv fu fp).bind fun o_38 => (if o_38 = (-1) then some ((upd (o_32) 96 (if 9999 < (((o_32) 96) + 1) then 9999 else (((o_32) 96) + 1)))) else ((F_X0_lower (o_32) dv fu fp o_38 3).bind fun o_41 => (if (8 + o_38) < 0 ∨ 98 ≤ ((8 + o_38)).toNatClampNeg then none else some ((upd (upd (o_41) (8 + o_38).toNatClampNeg (fu 2)) 96 (if 9999 < (((upd (o_41) (8 + o_38).toNatClampNeg (fu 2)) 96) + 1) then 9999 else (((upd (o_41) (8 + o_38).toNatClampNeg (fu 2)) 96) + 1)))))))) else some ((upd (o_32) 96 (if 9999 < (((o_32) 96) + 1) then 9999 else (((o_32) 96) + 1))))))) else ((F_X0_standing (o_18.2) dv fu fp).bind fun o_22 => (if o_22 = (-1) then ((F_X0_firstInLine (o_18.2) dv fu fp).bind fun o_26 => (if o_26 = (-1) then some ((upd (o_18.2) 96 (if 9999 < (((o_18.2) 96) + 1) then 9999 else (((o_18.2) 96) + 1)))) else ((F_X0_lower (o_18.2) dv fu fp o_26 3).bind fun o_29 => (if (8 + o_26) < 0 ∨ 98 ≤ ((8 + o_26)).toNatClampNeg then none else some ((upd (upd (o_29) (8 + o_26).toNatClampNeg (fu 2)) 96 (if 9999 < (((upd (o_29) (8 + o_26).toNatClampNeg (fu 2)) 96) + 1) then 9999 else (((upd (o_29) (8 + o_26).toNatClampNeg (fu 2)) 96) + 1)))))))) else some ((upd (o_18.2) 96 (if 9999 < (((o_18.2) 96) + 1) then 9999 else (((o_18.2) 96) + 1)))))))))))))
set_option maxHeartbeats 4000000 in
set_option maxRecDepth 100000 in
theorem c_X0_passTick (l : Launch) (dC : Nat → ClassId) (dI : Nat → Nat → Nat) (g : Nat) (r0 : Nat) (h : Nat) (r1 : Nat) (r2 : Nat) (dv : Int32) (c0 : ClassId) (fr : Nat → Int32) (c1 : ClassId) (c2 : ClassId) (fu : Nat → Int32) (fp : Nat → Int32) (A : Nat → Prop) (o : (Nat → Int32)) (hG : F_X0_passTick fr dv fu fp = some o) : Met l yX0_passTick (.code yX0_passTick cX0_passTick 3 none :: wA) ({ frames := 4, cells := 0, slots := 0, locals := 94 }) (va_Pc [.ref g] (q_W (dC, dI) A [(g, .inr (0, [.ref r0, .ref h])), (r0, .inl (c0, 98, .inl fr)), (h, .inr (5, [.ref r1, .ref r2, .int dv])), (r1, .inl (c1, 8, .inl fu)), (r2, .inl (c2, 48, .inl fp))] [(c0, .int), (c1, .int), (c2, .int)])) (va_Qv (fun _ : Unit => True) (fun (_ : Unit) t => q_B (dC, dI) A [(g, .inr (0, [.ref r0, .ref h])), (r0, .inl (c0, 98, .inl (o))), (h, .inr (5, [.ref r1, .ref r2, .int dv])), (r1, .inl (c1, 8, .inl fu)), (r2, .inl (c2, 48, .inl fp))] [(c0, .int), (c1, .int), (c2, .int)] t) A) 0 0 A := by
  refine Met.ofW (cc := cX0_passTick) (maxL := 3) (ret := none) (by decide) rfl ?_
  intro p e s m args below meth c s₁ B hml hv
  obtain ⟨rfl, hP, hK, hD, hA⟩ := hv
  have hx := B.exec
  have hb := B.bytes
  have hr := B.returns
  have hts := atoms_spec (ws := .code yX0_passTick cX0_passTick 3 none :: wA) B.pre
  have hown : s.vm.findClass RX0 = some m.cls := findClass_of_methodNamed B.named
  have hlocks := B.notSynchronized
  have hS : va_S A s.heap s.heap [] := va_S.rf
  have hl := lv_entry ([.ref g]) (n := 3) (Nat.le_of_ble_eq_true rfl)
  rw [lg_entry_eq]
  generalize (lg_sl ([.ref g]) ++ List.replicate (3 - (lg_sl ([.ref g])).length) Slot.unset).toArray = ls at hl ⊢
  have hl : lv_has ls 3 [(0, .ref g)] := hl
  unfold F_X0_passTick at hG
  refine lv_aload_n hx hb dX0_passTick_0 rfl (lv_at hl 0 rfl) ?_
  obtain ⟨o_1, r_2, hG⟩ := q_bi hG
  refine q_gov2 (wr := []) (va_runV (As := []) (rest := []) ⟨hx, hb, hml, hown, hts⟩ (c_X0_settle l dC dI g r0 h r1 r2 dv c0 fr c1 c2 fu fp (va_A [(g, .inr (0, [.ref r0, .ref h])), (r0, .inl (c0, 98, .inl fr)), (h, .inr (5, [.ref r1, .ref r2, .int dv])), (r1, .inl (c1, 8, .inl fu)), (r2, .inl (c2, 48, .inl fp))] s.heap.size) o_1 r_2) (cwV 0 hts (q_gV m_812 m_813 m_814 m_33 m_815) rfl rfl rfl hdV_yX0_settle_0 ⟨Nat.le_of_ble_eq_true rfl, Nat.le_of_ble_eq_true rfl⟩) (q_preWV hK hP hD (q := (RX0, TX0, 2)) (ci := 0) (q0 := 0) rfl rfl [0, 1, 2, 3, 4] (by decide) rfl rfl [0, 1, 2] rfl) rfl rfl hl.1 rfl (lv_room (Nat.le_of_ble_eq_true rfl)) dX0_passTick_1 ⟨Nat.le_of_ble_eq_true rfl, Nat.le_of_ble_eq_true rfl⟩) hK hP hD hS hA [0, 1, 2, 3, 4] [] rfl rfl (by decide) (by decide) (fun _ H locs _ hP hD hK9 hS => ?_)
  have hP : va_P (dC, dI) vwCl [(g, .inr (0, [.ref r0, .ref h])), (r0, .inl (c0, 98, .inl (o_1))), (h, .inr (5, [.ref r1, .ref r2, .int dv])), (r1, .inl (c1, 8, .inl fu)), (r2, .inl (c2, 48, .inl fp))] H := hP.sub [0, 1, 2, 3, 4] rfl
  have hD : va_D A [(g, .inr (0, [.ref r0, .ref h])), (r0, .inl (c0, 98, .inl (o_1))), (h, .inr (5, [.ref r1, .ref r2, .int dv])), (r1, .inl (c1, 8, .inl fu)), (r2, .inl (c2, 48, .inl fp))] := hD.sub [0, 1, 2, 3, 4] (by decide) rfl
  refine lv_aload_n hx hb dX0_passTick_4 rfl (lv_at hl 0 rfl) ?_
  obtain ⟨o_3, r_4, hG⟩ := q_bi hG
  refine q_goi (v := o_3) (va_runV (As := []) (rest := []) ⟨hx, hb, hml, hown, hts⟩ (c_X0_standing l dC dI g r0 h r1 r2 dv c0 (o_1) c1 c2 fu fp o_3 r_4) (cwV 0 hts (q_gV m_820 m_821 m_822 m_33 m_823) rfl rfl rfl hdV_yX0_standing_0 ⟨Nat.le_of_ble_eq_true rfl, Nat.le_of_ble_eq_true rfl⟩) (q_preV hK hP (q := (RX0, TX0, 2)) (ci := 0) (q0 := 0) rfl rfl [0, 1, 2, 3, 4] rfl [0, 1, 2] rfl) rfl rfl hl.1 rfl (lv_room (Nat.le_of_ble_eq_true rfl)) dX0_passTick_5 ⟨Nat.le_of_ble_eq_true rfl, Nat.le_of_ble_eq_true rfl⟩) hP hS (fun H locs hP hS => ?_)
  refine lv_istore_n (lv' := [(1, .int o_3), (0, .ref g)]) hx hb dX0_passTick_8 rfl hl (by decide) rfl (fun ls hl => ?_)
  refine lv_iload_n hx hb dX0_passTick_9 rfl (lv_at hl 0 rfl) ?_
  refine lv_iconst (v := (-1)) hx hb dX0_passTick_10 (by decide) ?_
  refine lv_icmp_eq (tgt := 62) hx hb dX0_passTick_11 (by decide) (fun c_5 => ?_) (fun c_5 => ?_)
  · have hG := q_ifp c_5 hG
    refine lv_aload_n hx hb dX0_passTick_62 rfl (lv_at hl 1 rfl) ?_
    obtain ⟨o_6, r_7, hG⟩ := q_bi hG
    refine q_goi (v := o_6) (va_runV (As := []) (rest := []) ⟨hx, hb, hml, hown, hts⟩ (c_X0_standing l dC dI g r0 h r1 r2 dv c0 (o_1) c1 c2 fu fp o_6 r_7) (cwV 0 hts (q_gV m_820 m_821 m_822 m_33 m_823) rfl rfl rfl hdV_yX0_standing_0 ⟨Nat.le_of_ble_eq_true rfl, Nat.le_of_ble_eq_true rfl⟩) (q_preV hK hP (q := (RX0, TX0, 2)) (ci := 0) (q0 := 0) rfl rfl [0, 1, 2, 3, 4] rfl [0, 1, 2] rfl) rfl rfl hl.1 rfl (lv_room (Nat.le_of_ble_eq_true rfl)) dX0_passTick_63 ⟨Nat.le_of_ble_eq_true rfl, Nat.le_of_ble_eq_true rfl⟩) hP hS (fun H locs hP hS => ?_)
    refine lv_iconst (v := (-1)) hx hb dX0_passTick_66 (by decide) ?_
    refine lv_icmp_ne (tgt := 77) hx hb dX0_passTick_67 (by decide) (fun c_8 => ?_) (fun c_8 => ?_)
    · have hG := q_ifn c_8 hG
      refine lv_iconst (v := (-1)) hx hb dX0_passTick_77 (by decide) ?_
      refine lv_istore_n (lv' := [(2, .int (-1)), (1, .int o_3), (0, .ref g)]) hx hb dX0_passTick_78 rfl hl (by decide) rfl (fun ls hl => ?_)
      refine lv_iload_n hx hb dX0_passTick_79 rfl (lv_at hl 0 rfl) ?_
      refine lv_iconst (v := (-1)) hx hb dX0_passTick_80 (by decide) ?_
      refine lv_icmp_eq (tgt := 108) hx hb dX0_passTick_81 (by decide) (fun c_9 => ?_) (fun c_9 => ?_)
      rotate_left
      · exact absurd (by decide) c_9
      refine lv_aload_n hx hb dX0_passTick_108 rfl (lv_at hl 2 rfl) ?_
      refine va_get (D := (dC, dI)) (ci := 0) (v := .ref r0) (C := RX0) (T := TX0) (N := 2) hx hb hts iA_0 hown hK hP 0 rfl rfl 0 (by decide) (hts (.fieldLink RX0 11 "HubTree$Bus" "row" "[I") (List.mem_cons_of_mem _ m_88)) (fun _ h9 => h9) rfl dX0_passTick_109 ?_
      refine lv_bipush (v := 96) hx hb dX0_passTick_112 (by decide) ?_
      refine lv_aload_n hx hb dX0_passTick_114 rfl (lv_at hl 2 rfl) ?_
      refine va_get (D := (dC, dI)) (ci := 0) (v := .ref r0) (C := RX0) (T := TX0) (N := 2) hx hb hts iA_0 hown hK hP 0 rfl rfl 0 (by decide) (hts (.fieldLink RX0 11 "HubTree$Bus" "row" "[I") (List.mem_cons_of_mem _ m_88)) (fun _ h9 => h9) rfl dX0_passTick_115 ?_
      refine lv_bipush (v := 96) hx hb dX0_passTick_118 (by decide) ?_
      refine va_iald hx hb hK hP 1 0 rfl rfl (i := 96) (vp_in_iff.mpr (by decide)) dX0_passTick_120 ?_
      refine q_top (y := ((o_1) 96)) rfl ?_
      refine lv_iconst (v := 1) hx hb dX0_passTick_121 (by decide) ?_
      refine lv_iadd hx hb dX0_passTick_122 ?_
      refine lv_sipush (v := 9999) hx hb dX0_passTick_123 (by decide) ?_
      refine va_mmin hx hb (by rw [hml, hl.1]) hown (hts (.methodLink RX0 114 Lib.Math.min.name) (List.mem_cons_of_mem _ m_770)) (hts (.static Lib.Math.min.name) (List.mem_cons_of_mem _ m_227)) (hts (.initialized "java/lang/Math") (List.mem_cons_of_mem _ m_224)) (hts (.code Lib.Math.min.name Lib.Math.min.code 2 (some .int)) (List.mem_cons_of_mem _ m_228)) (Nat.le_of_ble_eq_true rfl) (Nat.le_of_ble_eq_true rfl) (Nat.zero_le _) (Nat.zero_le _) dX0_passTick_126 ?_
      refine va_iast hx hb hK hP hD hS 1 0 rfl rfl (i := 96) (x := (if 9999 < (((o_1) 96) + 1) then 9999 else (((o_1) 96) + 1))) (vp_in_iff.mpr (by decide)) dX0_passTick_129 (fun H locs hP hD hS => ?_)
      have hP : va_P (dC, dI) vwCl [(g, .inr (0, [.ref r0, .ref h])), (r0, .inl (c0, 98, .inl (upd (o_1) 96 (if 9999 < (((o_1) 96) + 1) then 9999 else (((o_1) 96) + 1))))), (h, .inr (5, [.ref r1, .ref r2, .int dv])), (r1, .inl (c1, 8, .inl fu)), (r2, .inl (c2, 48, .inl fp))] H := hP
      have hD : va_D A [(g, .inr (0, [.ref r0, .ref h])), (r0, .inl (c0, 98, .inl (upd (o_1) 96 (if 9999 < (((o_1) 96) + 1) then 9999 else (((o_1) 96) + 1))))), (h, .inr (5, [.ref r1, .ref r2, .int dv])), (r1, .inl (c1, 8, .inl fu)), (r2, .inl (c2, 48, .inl fp))] := hD
      obtain rfl := Option.some.inj hG
      have hP9 := hP.sub (ws' := [(g, .inr (0, [.ref r0, .ref h])), (r0, .inl (c0, 98, .inl (upd (o_1) 96 (if 9999 < (((o_1) 96) + 1) then 9999 else (((o_1) 96) + 1))))), (h, .inr (5, [.ref r1, .ref r2, .int dv])), (r1, .inl (c1, 8, .inl fu)), (r2, .inl (c2, 48, .inl fp))]) [0, 1, 2, 3, 4] rfl
      have hD9 := hD.sub (ws' := [(g, .inr (0, [.ref r0, .ref h])), (r0, .inl (c0, 98, .inl (upd (o_1) 96 (if 9999 < (((o_1) 96) + 1) then 9999 else (((o_1) 96) + 1))))), (h, .inr (5, [.ref r1, .ref r2, .int dv])), (r1, .inl (c1, 8, .inl fu)), (r2, .inl (c2, 48, .inl fp))]) [0, 1, 2, 3, 4] (by decide) rfl
      have hK9 := hK.sub (tys' := [(c0, .int), (c1, .int), (c2, .int)]) [0, 1, 2] rfl
      exact W.vret hx hb hr (fun t ht hW => ⟨⟨(), rfl, trivial, by rw [ht]; exact hP9, va_K.moved hW.alike hK9, hD9⟩, hS.F ht⟩) hS.2.2 dX0_passTick_130
    · have hG := q_ifp c_8 hG
      refine lv_aload_n hx hb dX0_passTick_70 rfl (lv_at hl 1 rfl) ?_
      obtain ⟨o_10, r_11, hG⟩ := q_bi hG
      refine q_goi (v := o_10) (va_runV (As := []) (rest := []) ⟨hx, hb, hml, hown, hts⟩ (c_X0_firstInLine l dC dI g r0 h r1 r2 dv c0 (o_1) c1 c2 fu fp o_10 r_11) (cwV 0 hts (q_gV m_856 m_857 m_858 m_33 m_859) rfl rfl rfl hdV_yX0_firstInLine_0 ⟨Nat.le_of_ble_eq_true rfl, Nat.le_of_ble_eq_true rfl⟩) (q_preV hK hP (q := (RX0, TX0, 2)) (ci := 0) (q0 := 0) rfl rfl [0, 1, 2, 3, 4] rfl [0, 1, 2] rfl) rfl rfl hl.1 rfl (lv_room (Nat.le_of_ble_eq_true rfl)) dX0_passTick_71 ⟨Nat.le_of_ble_eq_true rfl, Nat.le_of_ble_eq_true rfl⟩) hP hS (fun H locs hP hS => ?_)
      refine lv_goto (tgt := 78) hx hb dX0_passTick_74 (by decide) ?_
      refine lv_istore_n (lv' := [(2, .int o_10), (1, .int o_3), (0, .ref g)]) hx hb dX0_passTick_78 rfl hl (by decide) rfl (fun ls hl => ?_)
      refine lv_iload_n hx hb dX0_passTick_79 rfl (lv_at hl 0 rfl) ?_
      refine lv_iconst (v := (-1)) hx hb dX0_passTick_80 (by decide) ?_
      refine lv_icmp_eq (tgt := 108) hx hb dX0_passTick_81 (by decide) (fun c_12 => ?_) (fun c_12 => ?_)
      · have hG := q_ifp c_12 hG
        refine lv_aload_n hx hb dX0_passTick_108 rfl (lv_at hl 2 rfl) ?_
        refine va_get (D := (dC, dI)) (ci := 0) (v := .ref r0) (C := RX0) (T := TX0) (N := 2) hx hb hts iA_0 hown hK hP 0 rfl rfl 0 (by decide) (hts (.fieldLink RX0 11 "HubTree$Bus" "row" "[I") (List.mem_cons_of_mem _ m_88)) (fun _ h9 => h9) rfl dX0_passTick_109 ?_
        refine lv_bipush (v := 96) hx hb dX0_passTick_112 (by decide) ?_
        refine lv_aload_n hx hb dX0_passTick_114 rfl (lv_at hl 2 rfl) ?_
        refine va_get (D := (dC, dI)) (ci := 0) (v := .ref r0) (C := RX0) (T := TX0) (N := 2) hx hb hts iA_0 hown hK hP 0 rfl rfl 0 (by decide) (hts (.fieldLink RX0 11 "HubTree$Bus" "row" "[I") (List.mem_cons_of_mem _ m_88)) (fun _ h9 => h9) rfl dX0_passTick_115 ?_
        refine lv_bipush (v := 96) hx hb dX0_passTick_118 (by decide) ?_
        refine va_iald hx hb hK hP 1 0 rfl rfl (i := 96) (vp_in_iff.mpr (by decide)) dX0_passTick_120 ?_
        refine q_top (y := ((o_1) 96)) rfl ?_
        refine lv_iconst (v := 1) hx hb dX0_passTick_121 (by decide) ?_
        refine lv_iadd hx hb dX0_passTick_122 ?_
        refine lv_sipush (v := 9999) hx hb dX0_passTick_123 (by decide) ?_
        refine va_mmin hx hb (by rw [hml, hl.1]) hown (hts (.methodLink RX0 114 Lib.Math.min.name) (List.mem_cons_of_mem _ m_770)) (hts (.static Lib.Math.min.name) (List.mem_cons_of_mem _ m_227)) (hts (.initialized "java/lang/Math") (List.mem_cons_of_mem _ m_224)) (hts (.code Lib.Math.min.name Lib.Math.min.code 2 (some .int)) (List.mem_cons_of_mem _ m_228)) (Nat.le_of_ble_eq_true rfl) (Nat.le_of_ble_eq_true rfl) (Nat.zero_le _) (Nat.zero_le _) dX0_passTick_126 ?_
        refine va_iast hx hb hK hP hD hS 1 0 rfl rfl (i := 96) (x := (if 9999 < (((o_1) 96) + 1) then 9999 else (((o_1) 96) + 1))) (vp_in_iff.mpr (by decide)) dX0_passTick_129 (fun H locs hP hD hS => ?_)
        have hP : va_P (dC, dI) vwCl [(g, .inr (0, [.ref r0, .ref h])), (r0, .inl (c0, 98, .inl (upd (o_1) 96 (if 9999 < (((o_1) 96) + 1) then 9999 else (((o_1) 96) + 1))))), (h, .inr (5, [.ref r1, .ref r2, .int dv])), (r1, .inl (c1, 8, .inl fu)), (r2, .inl (c2, 48, .inl fp))] H := hP
        have hD : va_D A [(g, .inr (0, [.ref r0, .ref h])), (r0, .inl (c0, 98, .inl (upd (o_1) 96 (if 9999 < (((o_1) 96) + 1) then 9999 else (((o_1) 96) + 1))))), (h, .inr (5, [.ref r1, .ref r2, .int dv])), (r1, .inl (c1, 8, .inl fu)), (r2, .inl (c2, 48, .inl fp))] := hD
        obtain rfl := Option.some.inj hG
        have hP9 := hP.sub (ws' := [(g, .inr (0, [.ref r0, .ref h])), (r0, .inl (c0, 98, .inl (upd (o_1) 96 (if 9999 < (((o_1) 96) + 1) then 9999 else (((o_1) 96) + 1))))), (h, .inr (5, [.ref r1, .ref r2, .int dv])), (r1, .inl (c1, 8, .inl fu)), (r2, .inl (c2, 48, .inl fp))]) [0, 1, 2, 3, 4] rfl
        have hD9 := hD.sub (ws' := [(g, .inr (0, [.ref r0, .ref h])), (r0, .inl (c0, 98, .inl (upd (o_1) 96 (if 9999 < (((o_1) 96) + 1) then 9999 else (((o_1) 96) + 1))))), (h, .inr (5, [.ref r1, .ref r2, .int dv])), (r1, .inl (c1, 8, .inl fu)), (r2, .inl (c2, 48, .inl fp))]) [0, 1, 2, 3, 4] (by decide) rfl
        have hK9 := hK.sub (tys' := [(c0, .int), (c1, .int), (c2, .int)]) [0, 1, 2] rfl
        exact W.vret hx hb hr (fun t ht hW => ⟨⟨(), rfl, trivial, by rw [ht]; exact hP9, va_K.moved hW.alike hK9, hD9⟩, hS.F ht⟩) hS.2.2 dX0_passTick_130
      · have hG := q_ifn c_12 hG
        refine lv_aload_n hx hb dX0_passTick_84 rfl (lv_at hl 2 rfl) ?_
        refine lv_iload_n hx hb dX0_passTick_85 rfl (lv_at hl 0 rfl) ?_
        refine lv_iconst (v := 3) hx hb dX0_passTick_86 (by decide) ?_
        obtain ⟨o_13, r_14, hG⟩ := q_bi hG
        refine q_gov2 (wr := []) (va_runV (As := [.int o_10, .int 3]) (rest := []) ⟨hx, hb, hml, hown, hts⟩ (c_X0_lower l dC dI g r0 h r1 r2 dv c0 (o_1) c1 c2 fu fp o_10 3 (va_A [(g, .inr (0, [.ref r0, .ref h])), (r0, .inl (c0, 98, .inl (o_1))), (h, .inr (5, [.ref r1, .ref r2, .int dv])), (r1, .inl (c1, 8, .inl fu)), (r2, .inl (c2, 48, .inl fp))] H.size) o_13 r_14) (cwV 2 hts (q_gV m_406 m_407 m_408 m_33 m_409) rfl rfl rfl hdV_yX0_lower_2 ⟨Nat.le_of_ble_eq_true rfl, Nat.le_of_ble_eq_true rfl⟩) (q_preWV hK hP hD (q := (RX0, TX0, 2)) (ci := 0) (q0 := 0) rfl rfl [0, 1, 2, 3, 4] (by decide) rfl rfl [0, 1, 2] rfl) rfl rfl hl.1 rfl (lv_room (Nat.le_of_ble_eq_true rfl)) dX0_passTick_87 ⟨Nat.le_of_ble_eq_true rfl, Nat.le_of_ble_eq_true rfl⟩) hK hP hD hS hA [0, 1, 2, 3, 4] [] rfl rfl (by decide) (by decide) (fun _ H locs _ hP hD hK9 hS => ?_)
        have hP : va_P (dC, dI) vwCl [(g, .inr (0, [.ref r0, .ref h])), (r0, .inl (c0, 98, .inl (o_13))), (h, .inr (5, [.ref r1, .ref r2, .int dv])), (r1, .inl (c1, 8, .inl fu)), (r2, .inl (c2, 48, .inl fp))] H := hP.sub [0, 1, 2, 3, 4] rfl
        have hD : va_D A [(g, .inr (0, [.ref r0, .ref h])), (r0, .inl (c0, 98, .inl (o_13))), (h, .inr (5, [.ref r1, .ref r2, .int dv])), (r1, .inl (c1, 8, .inl fu)), (r2, .inl (c2, 48, .inl fp))] := hD.sub [0, 1, 2, 3, 4] (by decide) rfl
        refine lv_aload_n hx hb dX0_passTick_90 rfl (lv_at hl 2 rfl) ?_
        refine va_get (D := (dC, dI)) (ci := 0) (v := .ref r0) (C := RX0) (T := TX0) (N := 2) hx hb hts iA_0 hown hK hP 0 rfl rfl 0 (by decide) (hts (.fieldLink RX0 11 "HubTree$Bus" "row" "[I") (List.mem_cons_of_mem _ m_88)) (fun _ h9 => h9) rfl dX0_passTick_91 ?_
        refine lv_bipush (v := 8) hx hb dX0_passTick_94 (by decide) ?_
        refine lv_iload_n hx hb dX0_passTick_96 rfl (lv_at hl 0 rfl) ?_
        refine lv_iadd hx hb dX0_passTick_97 ?_
        refine lv_aload_n hx hb dX0_passTick_98 rfl (lv_at hl 2 rfl) ?_
        refine va_get (D := (dC, dI)) (ci := 0) (v := .ref h) (C := RX0) (T := TX0) (N := 2) hx hb hts iA_0 hown hK hP 0 rfl rfl 1 (by decide) (hts (.fieldLink RX0 15 "HubTree$Bus" "plan" "LHubTree$Plan;") (List.mem_cons_of_mem _ m_89)) (fun _ h9 => h9) rfl dX0_passTick_99 ?_
        refine va_get (D := (dC, dI)) (ci := 5) (v := .ref r1) (C := RX5) (T := TX5) (N := 3) hx hb hts iA_5 hown hK hP 2 rfl rfl 0 (by decide) (hts (.fieldLink RX0 84 "HubTree$Plan" "rules" "[I") (List.mem_cons_of_mem _ m_577)) (fun _ h9 => h9) rfl dX0_passTick_102 ?_
        refine lv_iconst (v := 2) hx hb dX0_passTick_105 (by decide) ?_
        refine va_iald hx hb hK hP 3 1 rfl rfl (i := 2) (vp_in_iff.mpr (by decide)) dX0_passTick_106 ?_
        refine q_top (y := (fu 2)) rfl ?_
        obtain ⟨h_15, hG⟩ := q_ix hG
        refine va_iast hx hb hK hP hD hS 1 0 rfl rfl (i := (8 + o_10)) (x := (fu 2)) h_15 dX0_passTick_107 (fun H locs hP hD hS => ?_)
        have hP : va_P (dC, dI) vwCl [(g, .inr (0, [.ref r0, .ref h])), (r0, .inl (c0, 98, .inl (upd (o_13) (8 + o_10).toNatClampNeg (fu 2)))), (h, .inr (5, [.ref r1, .ref r2, .int dv])), (r1, .inl (c1, 8, .inl fu)), (r2, .inl (c2, 48, .inl fp))] H := hP
        have hD : va_D A [(g, .inr (0, [.ref r0, .ref h])), (r0, .inl (c0, 98, .inl (upd (o_13) (8 + o_10).toNatClampNeg (fu 2)))), (h, .inr (5, [.ref r1, .ref r2, .int dv])), (r1, .inl (c1, 8, .inl fu)), (r2, .inl (c2, 48, .inl fp))] := hD
        refine lv_aload_n hx hb dX0_passTick_108 rfl (lv_at hl 2 rfl) ?_
        refine va_get (D := (dC, dI)) (ci := 0) (v := .ref r0) (C := RX0) (T := TX0) (N := 2) hx hb hts iA_0 hown hK hP 0 rfl rfl 0 (by decide) (hts (.fieldLink RX0 11 "HubTree$Bus" "row" "[I") (List.mem_cons_of_mem _ m_88)) (fun _ h9 => h9) rfl dX0_passTick_109 ?_
        refine lv_bipush (v := 96) hx hb dX0_passTick_112 (by decide) ?_
        refine lv_aload_n hx hb dX0_passTick_114 rfl (lv_at hl 2 rfl) ?_
        refine va_get (D := (dC, dI)) (ci := 0) (v := .ref r0) (C := RX0) (T := TX0) (N := 2) hx hb hts iA_0 hown hK hP 0 rfl rfl 0 (by decide) (hts (.fieldLink RX0 11 "HubTree$Bus" "row" "[I") (List.mem_cons_of_mem _ m_88)) (fun _ h9 => h9) rfl dX0_passTick_115 ?_
        refine lv_bipush (v := 96) hx hb dX0_passTick_118 (by decide) ?_
        refine va_iald hx hb hK hP 1 0 rfl rfl (i := 96) (vp_in_iff.mpr (by decide)) dX0_passTick_120 ?_
        refine q_top (y := ((upd (o_13) (8 + o_10).toNatClampNeg (fu 2)) 96)) rfl ?_
        refine lv_iconst (v := 1) hx hb dX0_passTick_121 (by decide) ?_
        refine lv_iadd hx hb dX0_passTick_122 ?_
        refine lv_sipush (v := 9999) hx hb dX0_passTick_123 (by decide) ?_
        refine va_mmin hx hb (by rw [hml, hl.1]) hown (hts (.methodLink RX0 114 Lib.Math.min.name) (List.mem_cons_of_mem _ m_770)) (hts (.static Lib.Math.min.name) (List.mem_cons_of_mem _ m_227)) (hts (.initialized "java/lang/Math") (List.mem_cons_of_mem _ m_224)) (hts (.code Lib.Math.min.name Lib.Math.min.code 2 (some .int)) (List.mem_cons_of_mem _ m_228)) (Nat.le_of_ble_eq_true rfl) (Nat.le_of_ble_eq_true rfl) (Nat.zero_le _) (Nat.zero_le _) dX0_passTick_126 ?_
        refine va_iast hx hb hK hP hD hS 1 0 rfl rfl (i := 96) (x := (if 9999 < (((upd (o_13) (8 + o_10).toNatClampNeg (fu 2)) 96) + 1) then 9999 else (((upd (o_13) (8 + o_10).toNatClampNeg (fu 2)) 96) + 1))) (vp_in_iff.mpr (by decide)) dX0_passTick_129 (fun H locs hP hD hS => ?_)
        have hP : va_P (dC, dI) vwCl [(g, .inr (0, [.ref r0, .ref h])), (r0, .inl (c0, 98, .inl (upd (upd (o_13) (8 + o_10).toNatClampNeg (fu 2)) 96 (if 9999 < (((upd (o_13) (8 + o_10).toNatClampNeg (fu 2)) 96) + 1) then 9999 else (((upd (o_13) (8 + o_10).toNatClampNeg (fu 2)) 96) + 1))))), (h, .inr (5, [.ref r1, .ref r2, .int dv])), (r1, .inl (c1, 8, .inl fu)), (r2, .inl (c2, 48, .inl fp))] H := hP
        have hD : va_D A [(g, .inr (0, [.ref r0, .ref h])), (r0, .inl (c0, 98, .inl (upd (upd (o_13) (8 + o_10).toNatClampNeg (fu 2)) 96 (if 9999 < (((upd (o_13) (8 + o_10).toNatClampNeg (fu 2)) 96) + 1) then 9999 else (((upd (o_13) (8 + o_10).toNatClampNeg (fu 2)) 96) + 1))))), (h, .inr (5, [.ref r1, .ref r2, .int dv])), (r1, .inl (c1, 8, .inl fu)), (r2, .inl (c2, 48, .inl fp))] := hD
        obtain rfl := Option.some.inj hG
        have hP9 := hP.sub (ws' := [(g, .inr (0, [.ref r0, .ref h])), (r0, .inl (c0, 98, .inl (upd (upd (o_13) (8 + o_10).toNatClampNeg (fu 2)) 96 (if 9999 < (((upd (o_13) (8 + o_10).toNatClampNeg (fu 2)) 96) + 1) then 9999 else (((upd (o_13) (8 + o_10).toNatClampNeg (fu 2)) 96) + 1))))), (h, .inr (5, [.ref r1, .ref r2, .int dv])), (r1, .inl (c1, 8, .inl fu)), (r2, .inl (c2, 48, .inl fp))]) [0, 1, 2, 3, 4] rfl
        have hD9 := hD.sub (ws' := [(g, .inr (0, [.ref r0, .ref h])), (r0, .inl (c0, 98, .inl (upd (upd (o_13) (8 + o_10).toNatClampNeg (fu 2)) 96 (if 9999 < (((upd (o_13) (8 + o_10).toNatClampNeg (fu 2)) 96) + 1) then 9999 else (((upd (o_13) (8 + o_10).toNatClampNeg (fu 2)) 96) + 1))))), (h, .inr (5, [.ref r1, .ref r2, .int dv])), (r1, .inl (c1, 8, .inl fu)), (r2, .inl (c2, 48, .inl fp))]) [0, 1, 2, 3, 4] (by decide) rfl
        have hK9 := hK.sub (tys' := [(c0, .int), (c1, .int), (c2, .int)]) [0, 1, 2] rfl
        exact W.vret hx hb hr (fun t ht hW => ⟨⟨(), rfl, trivial, by rw [ht]; exact hP9, va_K.moved hW.alike hK9, hD9⟩, hS.F ht⟩) hS.2.2 dX0_passTick_130
  · have hG := q_ifn c_5 hG
    refine lv_aload_n hx hb dX0_passTick_14 rfl (lv_at hl 1 rfl) ?_
    refine va_get (D := (dC, dI)) (ci := 0) (v := .ref r0) (C := RX0) (T := TX0) (N := 2) hx hb hts iA_0 hown hK hP 0 rfl rfl 0 (by decide) (hts (.fieldLink RX0 11 "HubTree$Bus" "row" "[I") (List.mem_cons_of_mem _ m_88)) (fun _ h9 => h9) rfl dX0_passTick_15 ?_
    refine lv_iconst (v := 0) hx hb dX0_passTick_18 (by decide) ?_
    refine lv_iload_n hx hb dX0_passTick_19 rfl (lv_at hl 0 rfl) ?_
    refine lv_iadd hx hb dX0_passTick_20 ?_
    obtain ⟨h_16, hG⟩ := q_ix hG
    refine va_iald hx hb hK hP 1 0 rfl rfl (i := (0 + o_3)) h_16 dX0_passTick_21 ?_
    refine q_top (y := ((o_1) (0 + o_3).toNatClampNeg)) rfl ?_
    refine lv_iconst (v := 5) hx hb dX0_passTick_22 (by decide) ?_
    refine lv_icmp_ne (tgt := 30) hx hb dX0_passTick_23 (by decide) (fun c_17 => ?_) (fun c_17 => ?_)
    · have hG := q_ifn c_17 hG
      refine lv_iconst (v := 0) hx hb dX0_passTick_30 (by decide) ?_
      refine lv_istore_n (lv' := [(2, .int 0), (1, .int o_3), (0, .ref g)]) hx hb dX0_passTick_31 rfl hl (by decide) rfl (fun ls hl => ?_)
      refine lv_aload_n hx hb dX0_passTick_32 rfl (lv_at hl 2 rfl) ?_
      refine lv_iload_n hx hb dX0_passTick_33 rfl (lv_at hl 1 rfl) ?_
      obtain ⟨o_18, r_19, hG⟩ := q_bi hG
      refine q_goi2 (v := o_18.1) (wr := []) (va_runV (As := [.int o_3]) (rest := []) ⟨hx, hb, hml, hown, hts⟩ (c_X0_passes l dC dI g r0 h r1 r2 dv c0 (o_1) c1 c2 fu fp o_3 (va_A [(g, .inr (0, [.ref r0, .ref h])), (r0, .inl (c0, 98, .inl (o_1))), (h, .inr (5, [.ref r1, .ref r2, .int dv])), (r1, .inl (c1, 8, .inl fu)), (r2, .inl (c2, 48, .inl fp))] H.size) o_18 r_19) (cwV 1 hts (q_gV m_824 m_825 m_826 m_33 m_827) rfl rfl rfl hdV_yX0_passes_1 ⟨Nat.le_of_ble_eq_true rfl, Nat.le_of_ble_eq_true rfl⟩) (q_preWV hK hP hD (q := (RX0, TX0, 2)) (ci := 0) (q0 := 0) rfl rfl [0, 1, 2, 3, 4] (by decide) rfl rfl [0, 1, 2] rfl) rfl rfl hl.1 rfl (lv_room (Nat.le_of_ble_eq_true rfl)) dX0_passTick_34 ⟨Nat.le_of_ble_eq_true rfl, Nat.le_of_ble_eq_true rfl⟩) hK hP hD hS hA [0, 1, 2, 3, 4] [] rfl rfl (by decide) (by decide) (fun _ H locs _ hP hD hK9 hS => ?_)
      have hP : va_P (dC, dI) vwCl [(g, .inr (0, [.ref r0, .ref h])), (r0, .inl (c0, 98, .inl (o_18.2))), (h, .inr (5, [.ref r1, .ref r2, .int dv])), (r1, .inl (c1, 8, .inl fu)), (r2, .inl (c2, 48, .inl fp))] H := hP.sub [0, 1, 2, 3, 4] rfl
      have hD : va_D A [(g, .inr (0, [.ref r0, .ref h])), (r0, .inl (c0, 98, .inl (o_18.2))), (h, .inr (5, [.ref r1, .ref r2, .int dv])), (r1, .inl (c1, 8, .inl fu)), (r2, .inl (c2, 48, .inl fp))] := hD.sub [0, 1, 2, 3, 4] (by decide) rfl
      refine lv_if_ne (tgt := 48) hx hb dX0_passTick_37 (by decide) (fun c_20 => ?_) (fun c_20 => ?_)
      · have hG := q_ifn c_20 hG
        refine lv_iload_n hx hb dX0_passTick_48 rfl (lv_at hl 0 rfl) ?_
        refine lv_if_eq (tgt := 62) hx hb dX0_passTick_49 (by decide) (fun c_21 => ?_) (fun c_21 => ?_)
        rotate_left
        · exact absurd (by decide) c_21
        refine lv_aload_n hx hb dX0_passTick_62 rfl (lv_at hl 2 rfl) ?_
        obtain ⟨o_22, r_23, hG⟩ := q_bi hG
        refine q_goi (v := o_22) (va_runV (As := []) (rest := []) ⟨hx, hb, hml, hown, hts⟩ (c_X0_standing l dC dI g r0 h r1 r2 dv c0 (o_18.2) c1 c2 fu fp o_22 r_23) (cwV 0 hts (q_gV m_820 m_821 m_822 m_33 m_823) rfl rfl rfl hdV_yX0_standing_0 ⟨Nat.le_of_ble_eq_true rfl, Nat.le_of_ble_eq_true rfl⟩) (q_preV hK hP (q := (RX0, TX0, 2)) (ci := 0) (q0 := 0) rfl rfl [0, 1, 2, 3, 4] rfl [0, 1, 2] rfl) rfl rfl hl.1 rfl (lv_room (Nat.le_of_ble_eq_true rfl)) dX0_passTick_63 ⟨Nat.le_of_ble_eq_true rfl, Nat.le_of_ble_eq_true rfl⟩) hP hS (fun H locs hP hS => ?_)
        refine lv_iconst (v := (-1)) hx hb dX0_passTick_66 (by decide) ?_
        refine lv_icmp_ne (tgt := 77) hx hb dX0_passTick_67 (by decide) (fun c_24 => ?_) (fun c_24 => ?_)
        · have hG := q_ifn c_24 hG
          refine lv_iconst (v := (-1)) hx hb dX0_passTick_77 (by decide) ?_
          refine lv_istore_n (lv' := [(2, .int (-1)), (1, .int o_3), (0, .ref g)]) hx hb dX0_passTick_78 rfl hl (by decide) rfl (fun ls hl => ?_)
          refine lv_iload_n hx hb dX0_passTick_79 rfl (lv_at hl 0 rfl) ?_
          refine lv_iconst (v := (-1)) hx hb dX0_passTick_80 (by decide) ?_
          refine lv_icmp_eq (tgt := 108) hx hb dX0_passTick_81 (by decide) (fun c_25 => ?_) (fun c_25 => ?_)
          rotate_left
          · exact absurd (by decide) c_25
          refine lv_aload_n hx hb dX0_passTick_108 rfl (lv_at hl 2 rfl) ?_
          refine va_get (D := (dC, dI)) (ci := 0) (v := .ref r0) (C := RX0) (T := TX0) (N := 2) hx hb hts iA_0 hown hK hP 0 rfl rfl 0 (by decide) (hts (.fieldLink RX0 11 "HubTree$Bus" "row" "[I") (List.mem_cons_of_mem _ m_88)) (fun _ h9 => h9) rfl dX0_passTick_109 ?_
          refine lv_bipush (v := 96) hx hb dX0_passTick_112 (by decide) ?_
          refine lv_aload_n hx hb dX0_passTick_114 rfl (lv_at hl 2 rfl) ?_
          refine va_get (D := (dC, dI)) (ci := 0) (v := .ref r0) (C := RX0) (T := TX0) (N := 2) hx hb hts iA_0 hown hK hP 0 rfl rfl 0 (by decide) (hts (.fieldLink RX0 11 "HubTree$Bus" "row" "[I") (List.mem_cons_of_mem _ m_88)) (fun _ h9 => h9) rfl dX0_passTick_115 ?_
          refine lv_bipush (v := 96) hx hb dX0_passTick_118 (by decide) ?_
          refine va_iald hx hb hK hP 1 0 rfl rfl (i := 96) (vp_in_iff.mpr (by decide)) dX0_passTick_120 ?_
          refine q_top (y := ((o_18.2) 96)) rfl ?_
          refine lv_iconst (v := 1) hx hb dX0_passTick_121 (by decide) ?_
          refine lv_iadd hx hb dX0_passTick_122 ?_
          refine lv_sipush (v := 9999) hx hb dX0_passTick_123 (by decide) ?_
          refine va_mmin hx hb (by rw [hml, hl.1]) hown (hts (.methodLink RX0 114 Lib.Math.min.name) (List.mem_cons_of_mem _ m_770)) (hts (.static Lib.Math.min.name) (List.mem_cons_of_mem _ m_227)) (hts (.initialized "java/lang/Math") (List.mem_cons_of_mem _ m_224)) (hts (.code Lib.Math.min.name Lib.Math.min.code 2 (some .int)) (List.mem_cons_of_mem _ m_228)) (Nat.le_of_ble_eq_true rfl) (Nat.le_of_ble_eq_true rfl) (Nat.zero_le _) (Nat.zero_le _) dX0_passTick_126 ?_
          refine va_iast hx hb hK hP hD hS 1 0 rfl rfl (i := 96) (x := (if 9999 < (((o_18.2) 96) + 1) then 9999 else (((o_18.2) 96) + 1))) (vp_in_iff.mpr (by decide)) dX0_passTick_129 (fun H locs hP hD hS => ?_)
          have hP : va_P (dC, dI) vwCl [(g, .inr (0, [.ref r0, .ref h])), (r0, .inl (c0, 98, .inl (upd (o_18.2) 96 (if 9999 < (((o_18.2) 96) + 1) then 9999 else (((o_18.2) 96) + 1))))), (h, .inr (5, [.ref r1, .ref r2, .int dv])), (r1, .inl (c1, 8, .inl fu)), (r2, .inl (c2, 48, .inl fp))] H := hP
          have hD : va_D A [(g, .inr (0, [.ref r0, .ref h])), (r0, .inl (c0, 98, .inl (upd (o_18.2) 96 (if 9999 < (((o_18.2) 96) + 1) then 9999 else (((o_18.2) 96) + 1))))), (h, .inr (5, [.ref r1, .ref r2, .int dv])), (r1, .inl (c1, 8, .inl fu)), (r2, .inl (c2, 48, .inl fp))] := hD
          obtain rfl := Option.some.inj hG
          have hP9 := hP.sub (ws' := [(g, .inr (0, [.ref r0, .ref h])), (r0, .inl (c0, 98, .inl (upd (o_18.2) 96 (if 9999 < (((o_18.2) 96) + 1) then 9999 else (((o_18.2) 96) + 1))))), (h, .inr (5, [.ref r1, .ref r2, .int dv])), (r1, .inl (c1, 8, .inl fu)), (r2, .inl (c2, 48, .inl fp))]) [0, 1, 2, 3, 4] rfl
          have hD9 := hD.sub (ws' := [(g, .inr (0, [.ref r0, .ref h])), (r0, .inl (c0, 98, .inl (upd (o_18.2) 96 (if 9999 < (((o_18.2) 96) + 1) then 9999 else (((o_18.2) 96) + 1))))), (h, .inr (5, [.ref r1, .ref r2, .int dv])), (r1, .inl (c1, 8, .inl fu)), (r2, .inl (c2, 48, .inl fp))]) [0, 1, 2, 3, 4] (by decide) rfl
          have hK9 := hK.sub (tys' := [(c0, .int), (c1, .int), (c2, .int)]) [0, 1, 2] rfl
          exact W.vret hx hb hr (fun t ht hW => ⟨⟨(), rfl, trivial, by rw [ht]; exact hP9, va_K.moved hW.alike hK9, hD9⟩, hS.F ht⟩) hS.2.2 dX0_passTick_130
        · have hG := q_ifp c_24 hG
          refine lv_aload_n hx hb dX0_passTick_70 rfl (lv_at hl 2 rfl) ?_
          obtain ⟨o_26, r_27, hG⟩ := q_bi hG
          refine q_goi (v := o_26) (va_runV (As := []) (rest := []) ⟨hx, hb, hml, hown, hts⟩ (c_X0_firstInLine l dC dI g r0 h r1 r2 dv c0 (o_18.2) c1 c2 fu fp o_26 r_27) (cwV 0 hts (q_gV m_856 m_857 m_858 m_33 m_859) rfl rfl rfl hdV_yX0_firstInLine_0 ⟨Nat.le_of_ble_eq_true rfl, Nat.le_of_ble_eq_true rfl⟩) (q_preV hK hP (q := (RX0, TX0, 2)) (ci := 0) (q0 := 0) rfl rfl [0, 1, 2, 3, 4] rfl [0, 1, 2] rfl) rfl rfl hl.1 rfl (lv_room (Nat.le_of_ble_eq_true rfl)) dX0_passTick_71 ⟨Nat.le_of_ble_eq_true rfl, Nat.le_of_ble_eq_true rfl⟩) hP hS (fun H locs hP hS => ?_)
          refine lv_goto (tgt := 78) hx hb dX0_passTick_74 (by decide) ?_
          refine lv_istore_n (lv' := [(2, .int o_26), (1, .int o_3), (0, .ref g)]) hx hb dX0_passTick_78 rfl hl (by decide) rfl (fun ls hl => ?_)
          refine lv_iload_n hx hb dX0_passTick_79 rfl (lv_at hl 0 rfl) ?_
          refine lv_iconst (v := (-1)) hx hb dX0_passTick_80 (by decide) ?_
          refine lv_icmp_eq (tgt := 108) hx hb dX0_passTick_81 (by decide) (fun c_28 => ?_) (fun c_28 => ?_)
          · have hG := q_ifp c_28 hG
            refine lv_aload_n hx hb dX0_passTick_108 rfl (lv_at hl 2 rfl) ?_
            refine va_get (D := (dC, dI)) (ci := 0) (v := .ref r0) (C := RX0) (T := TX0) (N := 2) hx hb hts iA_0 hown hK hP 0 rfl rfl 0 (by decide) (hts (.fieldLink RX0 11 "HubTree$Bus" "row" "[I") (List.mem_cons_of_mem _ m_88)) (fun _ h9 => h9) rfl dX0_passTick_109 ?_
            refine lv_bipush (v := 96) hx hb dX0_passTick_112 (by decide) ?_
            refine lv_aload_n hx hb dX0_passTick_114 rfl (lv_at hl 2 rfl) ?_
            refine va_get (D := (dC, dI)) (ci := 0) (v := .ref r0) (C := RX0) (T := TX0) (N := 2) hx hb hts iA_0 hown hK hP 0 rfl rfl 0 (by decide) (hts (.fieldLink RX0 11 "HubTree$Bus" "row" "[I") (List.mem_cons_of_mem _ m_88)) (fun _ h9 => h9) rfl dX0_passTick_115 ?_
            refine lv_bipush (v := 96) hx hb dX0_passTick_118 (by decide) ?_
            refine va_iald hx hb hK hP 1 0 rfl rfl (i := 96) (vp_in_iff.mpr (by decide)) dX0_passTick_120 ?_
            refine q_top (y := ((o_18.2) 96)) rfl ?_
            refine lv_iconst (v := 1) hx hb dX0_passTick_121 (by decide) ?_
            refine lv_iadd hx hb dX0_passTick_122 ?_
            refine lv_sipush (v := 9999) hx hb dX0_passTick_123 (by decide) ?_
            refine va_mmin hx hb (by rw [hml, hl.1]) hown (hts (.methodLink RX0 114 Lib.Math.min.name) (List.mem_cons_of_mem _ m_770)) (hts (.static Lib.Math.min.name) (List.mem_cons_of_mem _ m_227)) (hts (.initialized "java/lang/Math") (List.mem_cons_of_mem _ m_224)) (hts (.code Lib.Math.min.name Lib.Math.min.code 2 (some .int)) (List.mem_cons_of_mem _ m_228)) (Nat.le_of_ble_eq_true rfl) (Nat.le_of_ble_eq_true rfl) (Nat.zero_le _) (Nat.zero_le _) dX0_passTick_126 ?_
            refine va_iast hx hb hK hP hD hS 1 0 rfl rfl (i := 96) (x := (if 9999 < (((o_18.2) 96) + 1) then 9999 else (((o_18.2) 96) + 1))) (vp_in_iff.mpr (by decide)) dX0_passTick_129 (fun H locs hP hD hS => ?_)
            have hP : va_P (dC, dI) vwCl [(g, .inr (0, [.ref r0, .ref h])), (r0, .inl (c0, 98, .inl (upd (o_18.2) 96 (if 9999 < (((o_18.2) 96) + 1) then 9999 else (((o_18.2) 96) + 1))))), (h, .inr (5, [.ref r1, .ref r2, .int dv])), (r1, .inl (c1, 8, .inl fu)), (r2, .inl (c2, 48, .inl fp))] H := hP
            have hD : va_D A [(g, .inr (0, [.ref r0, .ref h])), (r0, .inl (c0, 98, .inl (upd (o_18.2) 96 (if 9999 < (((o_18.2) 96) + 1) then 9999 else (((o_18.2) 96) + 1))))), (h, .inr (5, [.ref r1, .ref r2, .int dv])), (r1, .inl (c1, 8, .inl fu)), (r2, .inl (c2, 48, .inl fp))] := hD
            obtain rfl := Option.some.inj hG
            have hP9 := hP.sub (ws' := [(g, .inr (0, [.ref r0, .ref h])), (r0, .inl (c0, 98, .inl (upd (o_18.2) 96 (if 9999 < (((o_18.2) 96) + 1) then 9999 else (((o_18.2) 96) + 1))))), (h, .inr (5, [.ref r1, .ref r2, .int dv])), (r1, .inl (c1, 8, .inl fu)), (r2, .inl (c2, 48, .inl fp))]) [0, 1, 2, 3, 4] rfl
            have hD9 := hD.sub (ws' := [(g, .inr (0, [.ref r0, .ref h])), (r0, .inl (c0, 98, .inl (upd (o_18.2) 96 (if 9999 < (((o_18.2) 96) + 1) then 9999 else (((o_18.2) 96) + 1))))), (h, .inr (5, [.ref r1, .ref r2, .int dv])), (r1, .inl (c1, 8, .inl fu)), (r2, .inl (c2, 48, .inl fp))]) [0, 1, 2, 3, 4] (by decide) rfl
            have hK9 := hK.sub (tys' := [(c0, .int), (c1, .int), (c2, .int)]) [0, 1, 2] rfl
            exact W.vret hx hb hr (fun t ht hW => ⟨⟨(), rfl, trivial, by rw [ht]; exact hP9, va_K.moved hW.alike hK9, hD9⟩, hS.F ht⟩) hS.2.2 dX0_passTick_130
          · have hG := q_ifn c_28 hG
            refine lv_aload_n hx hb dX0_passTick_84 rfl (lv_at hl 2 rfl) ?_
            refine lv_iload_n hx hb dX0_passTick_85 rfl (lv_at hl 0 rfl) ?_
            refine lv_iconst (v := 3) hx hb dX0_passTick_86 (by decide) ?_
            obtain ⟨o_29, r_30, hG⟩ := q_bi hG
            refine q_gov2 (wr := []) (va_runV (As := [.int o_26, .int 3]) (rest := []) ⟨hx, hb, hml, hown, hts⟩ (c_X0_lower l dC dI g r0 h r1 r2 dv c0 (o_18.2) c1 c2 fu fp o_26 3 (va_A [(g, .inr (0, [.ref r0, .ref h])), (r0, .inl (c0, 98, .inl (o_18.2))), (h, .inr (5, [.ref r1, .ref r2, .int dv])), (r1, .inl (c1, 8, .inl fu)), (r2, .inl (c2, 48, .inl fp))] H.size) o_29 r_30) (cwV 2 hts (q_gV m_406 m_407 m_408 m_33 m_409) rfl rfl rfl hdV_yX0_lower_2 ⟨Nat.le_of_ble_eq_true rfl, Nat.le_of_ble_eq_true rfl⟩) (q_preWV hK hP hD (q := (RX0, TX0, 2)) (ci := 0) (q0 := 0) rfl rfl [0, 1, 2, 3, 4] (by decide) rfl rfl [0, 1, 2] rfl) rfl rfl hl.1 rfl (lv_room (Nat.le_of_ble_eq_true rfl)) dX0_passTick_87 ⟨Nat.le_of_ble_eq_true rfl, Nat.le_of_ble_eq_true rfl⟩) hK hP hD hS hA [0, 1, 2, 3, 4] [] rfl rfl (by decide) (by decide) (fun _ H locs _ hP hD hK9 hS => ?_)
            have hP : va_P (dC, dI) vwCl [(g, .inr (0, [.ref r0, .ref h])), (r0, .inl (c0, 98, .inl (o_29))), (h, .inr (5, [.ref r1, .ref r2, .int dv])), (r1, .inl (c1, 8, .inl fu)), (r2, .inl (c2, 48, .inl fp))] H := hP.sub [0, 1, 2, 3, 4] rfl
            have hD : va_D A [(g, .inr (0, [.ref r0, .ref h])), (r0, .inl (c0, 98, .inl (o_29))), (h, .inr (5, [.ref r1, .ref r2, .int dv])), (r1, .inl (c1, 8, .inl fu)), (r2, .inl (c2, 48, .inl fp))] := hD.sub [0, 1, 2, 3, 4] (by decide) rfl
            refine lv_aload_n hx hb dX0_passTick_90 rfl (lv_at hl 2 rfl) ?_
            refine va_get (D := (dC, dI)) (ci := 0) (v := .ref r0) (C := RX0) (T := TX0) (N := 2) hx hb hts iA_0 hown hK hP 0 rfl rfl 0 (by decide) (hts (.fieldLink RX0 11 "HubTree$Bus" "row" "[I") (List.mem_cons_of_mem _ m_88)) (fun _ h9 => h9) rfl dX0_passTick_91 ?_
            refine lv_bipush (v := 8) hx hb dX0_passTick_94 (by decide) ?_
            refine lv_iload_n hx hb dX0_passTick_96 rfl (lv_at hl 0 rfl) ?_
            refine lv_iadd hx hb dX0_passTick_97 ?_
            refine lv_aload_n hx hb dX0_passTick_98 rfl (lv_at hl 2 rfl) ?_
            refine va_get (D := (dC, dI)) (ci := 0) (v := .ref h) (C := RX0) (T := TX0) (N := 2) hx hb hts iA_0 hown hK hP 0 rfl rfl 1 (by decide) (hts (.fieldLink RX0 15 "HubTree$Bus" "plan" "LHubTree$Plan;") (List.mem_cons_of_mem _ m_89)) (fun _ h9 => h9) rfl dX0_passTick_99 ?_
            refine va_get (D := (dC, dI)) (ci := 5) (v := .ref r1) (C := RX5) (T := TX5) (N := 3) hx hb hts iA_5 hown hK hP 2 rfl rfl 0 (by decide) (hts (.fieldLink RX0 84 "HubTree$Plan" "rules" "[I") (List.mem_cons_of_mem _ m_577)) (fun _ h9 => h9) rfl dX0_passTick_102 ?_
            refine lv_iconst (v := 2) hx hb dX0_passTick_105 (by decide) ?_
            refine va_iald hx hb hK hP 3 1 rfl rfl (i := 2) (vp_in_iff.mpr (by decide)) dX0_passTick_106 ?_
            refine q_top (y := (fu 2)) rfl ?_
            obtain ⟨h_31, hG⟩ := q_ix hG
            refine va_iast hx hb hK hP hD hS 1 0 rfl rfl (i := (8 + o_26)) (x := (fu 2)) h_31 dX0_passTick_107 (fun H locs hP hD hS => ?_)
            have hP : va_P (dC, dI) vwCl [(g, .inr (0, [.ref r0, .ref h])), (r0, .inl (c0, 98, .inl (upd (o_29) (8 + o_26).toNatClampNeg (fu 2)))), (h, .inr (5, [.ref r1, .ref r2, .int dv])), (r1, .inl (c1, 8, .inl fu)), (r2, .inl (c2, 48, .inl fp))] H := hP
            have hD : va_D A [(g, .inr (0, [.ref r0, .ref h])), (r0, .inl (c0, 98, .inl (upd (o_29) (8 + o_26).toNatClampNeg (fu 2)))), (h, .inr (5, [.ref r1, .ref r2, .int dv])), (r1, .inl (c1, 8, .inl fu)), (r2, .inl (c2, 48, .inl fp))] := hD
            refine lv_aload_n hx hb dX0_passTick_108 rfl (lv_at hl 2 rfl) ?_
            refine va_get (D := (dC, dI)) (ci := 0) (v := .ref r0) (C := RX0) (T := TX0) (N := 2) hx hb hts iA_0 hown hK hP 0 rfl rfl 0 (by decide) (hts (.fieldLink RX0 11 "HubTree$Bus" "row" "[I") (List.mem_cons_of_mem _ m_88)) (fun _ h9 => h9) rfl dX0_passTick_109 ?_
            refine lv_bipush (v := 96) hx hb dX0_passTick_112 (by decide) ?_
            refine lv_aload_n hx hb dX0_passTick_114 rfl (lv_at hl 2 rfl) ?_
            refine va_get (D := (dC, dI)) (ci := 0) (v := .ref r0) (C := RX0) (T := TX0) (N := 2) hx hb hts iA_0 hown hK hP 0 rfl rfl 0 (by decide) (hts (.fieldLink RX0 11 "HubTree$Bus" "row" "[I") (List.mem_cons_of_mem _ m_88)) (fun _ h9 => h9) rfl dX0_passTick_115 ?_
            refine lv_bipush (v := 96) hx hb dX0_passTick_118 (by decide) ?_
            refine va_iald hx hb hK hP 1 0 rfl rfl (i := 96) (vp_in_iff.mpr (by decide)) dX0_passTick_120 ?_
            refine q_top (y := ((upd (o_29) (8 + o_26).toNatClampNeg (fu 2)) 96)) rfl ?_
            refine lv_iconst (v := 1) hx hb dX0_passTick_121 (by decide) ?_
            refine lv_iadd hx hb dX0_passTick_122 ?_
            refine lv_sipush (v := 9999) hx hb dX0_passTick_123 (by decide) ?_
            refine va_mmin hx hb (by rw [hml, hl.1]) hown (hts (.methodLink RX0 114 Lib.Math.min.name) (List.mem_cons_of_mem _ m_770)) (hts (.static Lib.Math.min.name) (List.mem_cons_of_mem _ m_227)) (hts (.initialized "java/lang/Math") (List.mem_cons_of_mem _ m_224)) (hts (.code Lib.Math.min.name Lib.Math.min.code 2 (some .int)) (List.mem_cons_of_mem _ m_228)) (Nat.le_of_ble_eq_true rfl) (Nat.le_of_ble_eq_true rfl) (Nat.zero_le _) (Nat.zero_le _) dX0_passTick_126 ?_
            refine va_iast hx hb hK hP hD hS 1 0 rfl rfl (i := 96) (x := (if 9999 < (((upd (o_29) (8 + o_26).toNatClampNeg (fu 2)) 96) + 1) then 9999 else (((upd (o_29) (8 + o_26).toNatClampNeg (fu 2)) 96) + 1))) (vp_in_iff.mpr (by decide)) dX0_passTick_129 (fun H locs hP hD hS => ?_)
            have hP : va_P (dC, dI) vwCl [(g, .inr (0, [.ref r0, .ref h])), (r0, .inl (c0, 98, .inl (upd (upd (o_29) (8 + o_26).toNatClampNeg (fu 2)) 96 (if 9999 < (((upd (o_29) (8 + o_26).toNatClampNeg (fu 2)) 96) + 1) then 9999 else (((upd (o_29) (8 + o_26).toNatClampNeg (fu 2)) 96) + 1))))), (h, .inr (5, [.ref r1, .ref r2, .int dv])), (r1, .inl (c1, 8, .inl fu)), (r2, .inl (c2, 48, .inl fp))] H := hP
            have hD : va_D A [(g, .inr (0, [.ref r0, .ref h])), (r0, .inl (c0, 98, .inl (upd (upd (o_29) (8 + o_26).toNatClampNeg (fu 2)) 96 (if 9999 < (((upd (o_29) (8 + o_26).toNatClampNeg (fu 2)) 96) + 1) then 9999 else (((upd (o_29) (8 + o_26).toNatClampNeg (fu 2)) 96) + 1))))), (h, .inr (5, [.ref r1, .ref r2, .int dv])), (r1, .inl (c1, 8, .inl fu)), (r2, .inl (c2, 48, .inl fp))] := hD
            obtain rfl := Option.some.inj hG
            have hP9 := hP.sub (ws' := [(g, .inr (0, [.ref r0, .ref h])), (r0, .inl (c0, 98, .inl (upd (upd (o_29) (8 + o_26).toNatClampNeg (fu 2)) 96 (if 9999 < (((upd (o_29) (8 + o_26).toNatClampNeg (fu 2)) 96) + 1) then 9999 else (((upd (o_29) (8 + o_26).toNatClampNeg (fu 2)) 96) + 1))))), (h, .inr (5, [.ref r1, .ref r2, .int dv])), (r1, .inl (c1, 8, .inl fu)), (r2, .inl (c2, 48, .inl fp))]) [0, 1, 2, 3, 4] rfl
            have hD9 := hD.sub (ws' := [(g, .inr (0, [.ref r0, .ref h])), (r0, .inl (c0, 98, .inl (upd (upd (o_29) (8 + o_26).toNatClampNeg (fu 2)) 96 (if 9999 < (((upd (o_29) (8 + o_26).toNatClampNeg (fu 2)) 96) + 1) then 9999 else (((upd (o_29) (8 + o_26).toNatClampNeg (fu 2)) 96) + 1))))), (h, .inr (5, [.ref r1, .ref r2, .int dv])), (r1, .inl (c1, 8, .inl fu)), (r2, .inl (c2, 48, .inl fp))]) [0, 1, 2, 3, 4] (by decide) rfl
            have hK9 := hK.sub (tys' := [(c0, .int), (c1, .int), (c2, .int)]) [0, 1, 2] rfl
            exact W.vret hx hb hr (fun t ht hW => ⟨⟨(), rfl, trivial, by rw [ht]; exact hP9, va_K.moved hW.alike hK9, hD9⟩, hS.F ht⟩) hS.2.2 dX0_passTick_130
      · have hG := q_ifp c_20 hG
        refine lv_aload_n hx hb dX0_passTick_40 rfl (lv_at hl 2 rfl) ?_
        refine lv_iload_n hx hb dX0_passTick_41 rfl (lv_at hl 1 rfl) ?_
        obtain ⟨o_32, r_33, hG⟩ := q_bi hG
        refine q_gov2 (wr := []) (va_runV (As := [.int o_3]) (rest := []) ⟨hx, hb, hml, hown, hts⟩ (c_X0_fail l dC dI g r0 h r1 r2 dv c0 (o_18.2) c1 c2 fu fp o_3 (va_A [(g, .inr (0, [.ref r0, .ref h])), (r0, .inl (c0, 98, .inl (o_18.2))), (h, .inr (5, [.ref r1, .ref r2, .int dv])), (r1, .inl (c1, 8, .inl fu)), (r2, .inl (c2, 48, .inl fp))] H.size) o_32 r_33) (cwV 1 hts (q_gV m_834 m_835 m_836 m_33 m_837) rfl rfl rfl hdV_yX0_fail_1 ⟨Nat.le_of_ble_eq_true rfl, Nat.le_of_ble_eq_true rfl⟩) (q_preWV hK hP hD (q := (RX0, TX0, 2)) (ci := 0) (q0 := 0) rfl rfl [0, 1, 2, 3, 4] (by decide) rfl rfl [0, 1, 2] rfl) rfl rfl hl.1 rfl (lv_room (Nat.le_of_ble_eq_true rfl)) dX0_passTick_42 ⟨Nat.le_of_ble_eq_true rfl, Nat.le_of_ble_eq_true rfl⟩) hK hP hD hS hA [0, 1, 2, 3, 4] [] rfl rfl (by decide) (by decide) (fun _ H locs _ hP hD hK9 hS => ?_)
        have hP : va_P (dC, dI) vwCl [(g, .inr (0, [.ref r0, .ref h])), (r0, .inl (c0, 98, .inl (o_32))), (h, .inr (5, [.ref r1, .ref r2, .int dv])), (r1, .inl (c1, 8, .inl fu)), (r2, .inl (c2, 48, .inl fp))] H := hP.sub [0, 1, 2, 3, 4] rfl
        have hD : va_D A [(g, .inr (0, [.ref r0, .ref h])), (r0, .inl (c0, 98, .inl (o_32))), (h, .inr (5, [.ref r1, .ref r2, .int dv])), (r1, .inl (c1, 8, .inl fu)), (r2, .inl (c2, 48, .inl fp))] := hD.sub [0, 1, 2, 3, 4] (by decide) rfl
        refine lv_goto (tgt := 62) hx hb dX0_passTick_45 (by decide) ?_
        refine lv_aload_n hx hb dX0_passTick_62 rfl (lv_at hl 2 rfl) ?_
        obtain ⟨o_34, r_35, hG⟩ := q_bi hG
        refine q_goi (v := o_34) (va_runV (As := []) (rest := []) ⟨hx, hb, hml, hown, hts⟩ (c_X0_standing l dC dI g r0 h r1 r2 dv c0 (o_32) c1 c2 fu fp o_34 r_35) (cwV 0 hts (q_gV m_820 m_821 m_822 m_33 m_823) rfl rfl rfl hdV_yX0_standing_0 ⟨Nat.le_of_ble_eq_true rfl, Nat.le_of_ble_eq_true rfl⟩) (q_preV hK hP (q := (RX0, TX0, 2)) (ci := 0) (q0 := 0) rfl rfl [0, 1, 2, 3, 4] rfl [0, 1, 2] rfl) rfl rfl hl.1 rfl (lv_room (Nat.le_of_ble_eq_true rfl)) dX0_passTick_63 ⟨Nat.le_of_ble_eq_true rfl, Nat.le_of_ble_eq_true rfl⟩) hP hS (fun H locs hP hS => ?_)
        refine lv_iconst (v := (-1)) hx hb dX0_passTick_66 (by decide) ?_
        refine lv_icmp_ne (tgt := 77) hx hb dX0_passTick_67 (by decide) (fun c_36 => ?_) (fun c_36 => ?_)
        · have hG := q_ifn c_36 hG
          refine lv_iconst (v := (-1)) hx hb dX0_passTick_77 (by decide) ?_
          refine lv_istore_n (lv' := [(2, .int (-1)), (1, .int o_3), (0, .ref g)]) hx hb dX0_passTick_78 rfl hl (by decide) rfl (fun ls hl => ?_)
          refine lv_iload_n hx hb dX0_passTick_79 rfl (lv_at hl 0 rfl) ?_
          refine lv_iconst (v := (-1)) hx hb dX0_passTick_80 (by decide) ?_
          refine lv_icmp_eq (tgt := 108) hx hb dX0_passTick_81 (by decide) (fun c_37 => ?_) (fun c_37 => ?_)
          rotate_left
          · exact absurd (by decide) c_37
          refine lv_aload_n hx hb dX0_passTick_108 rfl (lv_at hl 2 rfl) ?_
          refine va_get (D := (dC, dI)) (ci := 0) (v := .ref r0) (C := RX0) (T := TX0) (N := 2) hx hb hts iA_0 hown hK hP 0 rfl rfl 0 (by decide) (hts (.fieldLink RX0 11 "HubTree$Bus" "row" "[I") (List.mem_cons_of_mem _ m_88)) (fun _ h9 => h9) rfl dX0_passTick_109 ?_
          refine lv_bipush (v := 96) hx hb dX0_passTick_112 (by decide) ?_
          refine lv_aload_n hx hb dX0_passTick_114 rfl (lv_at hl 2 rfl) ?_
          refine va_get (D := (dC, dI)) (ci := 0) (v := .ref r0) (C := RX0) (T := TX0) (N := 2) hx hb hts iA_0 hown hK hP 0 rfl rfl 0 (by decide) (hts (.fieldLink RX0 11 "HubTree$Bus" "row" "[I") (List.mem_cons_of_mem _ m_88)) (fun _ h9 => h9) rfl dX0_passTick_115 ?_
          refine lv_bipush (v := 96) hx hb dX0_passTick_118 (by decide) ?_
          refine va_iald hx hb hK hP 1 0 rfl rfl (i := 96) (vp_in_iff.mpr (by decide)) dX0_passTick_120 ?_
          refine q_top (y := ((o_32) 96)) rfl ?_
          refine lv_iconst (v := 1) hx hb dX0_passTick_121 (by decide) ?_
          refine lv_iadd hx hb dX0_passTick_122 ?_
          refine lv_sipush (v := 9999) hx hb dX0_passTick_123 (by decide) ?_
          refine va_mmin hx hb (by rw [hml, hl.1]) hown (hts (.methodLink RX0 114 Lib.Math.min.name) (List.mem_cons_of_mem _ m_770)) (hts (.static Lib.Math.min.name) (List.mem_cons_of_mem _ m_227)) (hts (.initialized "java/lang/Math") (List.mem_cons_of_mem _ m_224)) (hts (.code Lib.Math.min.name Lib.Math.min.code 2 (some .int)) (List.mem_cons_of_mem _ m_228)) (Nat.le_of_ble_eq_true rfl) (Nat.le_of_ble_eq_true rfl) (Nat.zero_le _) (Nat.zero_le _) dX0_passTick_126 ?_
          refine va_iast hx hb hK hP hD hS 1 0 rfl rfl (i := 96) (x := (if 9999 < (((o_32) 96) + 1) then 9999 else (((o_32) 96) + 1))) (vp_in_iff.mpr (by decide)) dX0_passTick_129 (fun H locs hP hD hS => ?_)
          have hP : va_P (dC, dI) vwCl [(g, .inr (0, [.ref r0, .ref h])), (r0, .inl (c0, 98, .inl (upd (o_32) 96 (if 9999 < (((o_32) 96) + 1) then 9999 else (((o_32) 96) + 1))))), (h, .inr (5, [.ref r1, .ref r2, .int dv])), (r1, .inl (c1, 8, .inl fu)), (r2, .inl (c2, 48, .inl fp))] H := hP
          have hD : va_D A [(g, .inr (0, [.ref r0, .ref h])), (r0, .inl (c0, 98, .inl (upd (o_32) 96 (if 9999 < (((o_32) 96) + 1) then 9999 else (((o_32) 96) + 1))))), (h, .inr (5, [.ref r1, .ref r2, .int dv])), (r1, .inl (c1, 8, .inl fu)), (r2, .inl (c2, 48, .inl fp))] := hD
          obtain rfl := Option.some.inj hG
          have hP9 := hP.sub (ws' := [(g, .inr (0, [.ref r0, .ref h])), (r0, .inl (c0, 98, .inl (upd (o_32) 96 (if 9999 < (((o_32) 96) + 1) then 9999 else (((o_32) 96) + 1))))), (h, .inr (5, [.ref r1, .ref r2, .int dv])), (r1, .inl (c1, 8, .inl fu)), (r2, .inl (c2, 48, .inl fp))]) [0, 1, 2, 3, 4] rfl
          have hD9 := hD.sub (ws' := [(g, .inr (0, [.ref r0, .ref h])), (r0, .inl (c0, 98, .inl (upd (o_32) 96 (if 9999 < (((o_32) 96) + 1) then 9999 else (((o_32) 96) + 1))))), (h, .inr (5, [.ref r1, .ref r2, .int dv])), (r1, .inl (c1, 8, .inl fu)), (r2, .inl (c2, 48, .inl fp))]) [0, 1, 2, 3, 4] (by decide) rfl
          have hK9 := hK.sub (tys' := [(c0, .int), (c1, .int), (c2, .int)]) [0, 1, 2] rfl
          exact W.vret hx hb hr (fun t ht hW => ⟨⟨(), rfl, trivial, by rw [ht]; exact hP9, va_K.moved hW.alike hK9, hD9⟩, hS.F ht⟩) hS.2.2 dX0_passTick_130
        · have hG := q_ifp c_36 hG
          refine lv_aload_n hx hb dX0_passTick_70 rfl (lv_at hl 2 rfl) ?_
          obtain ⟨o_38, r_39, hG⟩ := q_bi hG
          refine q_goi (v := o_38) (va_runV (As := []) (rest := []) ⟨hx, hb, hml, hown, hts⟩ (c_X0_firstInLine l dC dI g r0 h r1 r2 dv c0 (o_32) c1 c2 fu fp o_38 r_39) (cwV 0 hts (q_gV m_856 m_857 m_858 m_33 m_859) rfl rfl rfl hdV_yX0_firstInLine_0 ⟨Nat.le_of_ble_eq_true rfl, Nat.le_of_ble_eq_true rfl⟩) (q_preV hK hP (q := (RX0, TX0, 2)) (ci := 0) (q0 := 0) rfl rfl [0, 1, 2, 3, 4] rfl [0, 1, 2] rfl) rfl rfl hl.1 rfl (lv_room (Nat.le_of_ble_eq_true rfl)) dX0_passTick_71 ⟨Nat.le_of_ble_eq_true rfl, Nat.le_of_ble_eq_true rfl⟩) hP hS (fun H locs hP hS => ?_)
          refine lv_goto (tgt := 78) hx hb dX0_passTick_74 (by decide) ?_
          refine lv_istore_n (lv' := [(2, .int o_38), (1, .int o_3), (0, .ref g)]) hx hb dX0_passTick_78 rfl hl (by decide) rfl (fun ls hl => ?_)
          refine lv_iload_n hx hb dX0_passTick_79 rfl (lv_at hl 0 rfl) ?_
          refine lv_iconst (v := (-1)) hx hb dX0_passTick_80 (by decide) ?_
          refine lv_icmp_eq (tgt := 108) hx hb dX0_passTick_81 (by decide) (fun c_40 => ?_) (fun c_40 => ?_)
          · have hG := q_ifp c_40 hG
            refine lv_aload_n hx hb dX0_passTick_108 rfl (lv_at hl 2 rfl) ?_
            refine va_get (D := (dC, dI)) (ci := 0) (v := .ref r0) (C := RX0) (T := TX0) (N := 2) hx hb hts iA_0 hown hK hP 0 rfl rfl 0 (by decide) (hts (.fieldLink RX0 11 "HubTree$Bus" "row" "[I") (List.mem_cons_of_mem _ m_88)) (fun _ h9 => h9) rfl dX0_passTick_109 ?_
            refine lv_bipush (v := 96) hx hb dX0_passTick_112 (by decide) ?_
            refine lv_aload_n hx hb dX0_passTick_114 rfl (lv_at hl 2 rfl) ?_
            refine va_get (D := (dC, dI)) (ci := 0) (v := .ref r0) (C := RX0) (T := TX0) (N := 2) hx hb hts iA_0 hown hK hP 0 rfl rfl 0 (by decide) (hts (.fieldLink RX0 11 "HubTree$Bus" "row" "[I") (List.mem_cons_of_mem _ m_88)) (fun _ h9 => h9) rfl dX0_passTick_115 ?_
            refine lv_bipush (v := 96) hx hb dX0_passTick_118 (by decide) ?_
            refine va_iald hx hb hK hP 1 0 rfl rfl (i := 96) (vp_in_iff.mpr (by decide)) dX0_passTick_120 ?_
            refine q_top (y := ((o_32) 96)) rfl ?_
            refine lv_iconst (v := 1) hx hb dX0_passTick_121 (by decide) ?_
            refine lv_iadd hx hb dX0_passTick_122 ?_
            refine lv_sipush (v := 9999) hx hb dX0_passTick_123 (by decide) ?_
            refine va_mmin hx hb (by rw [hml, hl.1]) hown (hts (.methodLink RX0 114 Lib.Math.min.name) (List.mem_cons_of_mem _ m_770)) (hts (.static Lib.Math.min.name) (List.mem_cons_of_mem _ m_227)) (hts (.initialized "java/lang/Math") (List.mem_cons_of_mem _ m_224)) (hts (.code Lib.Math.min.name Lib.Math.min.code 2 (some .int)) (List.mem_cons_of_mem _ m_228)) (Nat.le_of_ble_eq_true rfl) (Nat.le_of_ble_eq_true rfl) (Nat.zero_le _) (Nat.zero_le _) dX0_passTick_126 ?_
            refine va_iast hx hb hK hP hD hS 1 0 rfl rfl (i := 96) (x := (if 9999 < (((o_32) 96) + 1) then 9999 else (((o_32) 96) + 1))) (vp_in_iff.mpr (by decide)) dX0_passTick_129 (fun H locs hP hD hS => ?_)
            have hP : va_P (dC, dI) vwCl [(g, .inr (0, [.ref r0, .ref h])), (r0, .inl (c0, 98, .inl (upd (o_32) 96 (if 9999 < (((o_32) 96) + 1) then 9999 else (((o_32) 96) + 1))))), (h, .inr (5, [.ref r1, .ref r2, .int dv])), (r1, .inl (c1, 8, .inl fu)), (r2, .inl (c2, 48, .inl fp))] H := hP
            have hD : va_D A [(g, .inr (0, [.ref r0, .ref h])), (r0, .inl (c0, 98, .inl (upd (o_32) 96 (if 9999 < (((o_32) 96) + 1) then 9999 else (((o_32) 96) + 1))))), (h, .inr (5, [.ref r1, .ref r2, .int dv])), (r1, .inl (c1, 8, .inl fu)), (r2, .inl (c2, 48, .inl fp))] := hD
            obtain rfl := Option.some.inj hG
            have hP9 := hP.sub (ws' := [(g, .inr (0, [.ref r0, .ref h])), (r0, .inl (c0, 98, .inl (upd (o_32) 96 (if 9999 < (((o_32) 96) + 1) then 9999 else (((o_32) 96) + 1))))), (h, .inr (5, [.ref r1, .ref r2, .int dv])), (r1, .inl (c1, 8, .inl fu)), (r2, .inl (c2, 48, .inl fp))]) [0, 1, 2, 3, 4] rfl
            have hD9 := hD.sub (ws' := [(g, .inr (0, [.ref r0, .ref h])), (r0, .inl (c0, 98, .inl (upd (o_32) 96 (if 9999 < (((o_32) 96) + 1) then 9999 else (((o_32) 96) + 1))))), (h, .inr (5, [.ref r1, .ref r2, .int dv])), (r1, .inl (c1, 8, .inl fu)), (r2, .inl (c2, 48, .inl fp))]) [0, 1, 2, 3, 4] (by decide) rfl
            have hK9 := hK.sub (tys' := [(c0, .int), (c1, .int), (c2, .int)]) [0, 1, 2] rfl
            exact W.vret hx hb hr (fun t ht hW => ⟨⟨(), rfl, trivial, by rw [ht]; exact hP9, va_K.moved hW.alike hK9, hD9⟩, hS.F ht⟩) hS.2.2 dX0_passTick_130
          · have hG := q_ifn c_40 hG
            refine lv_aload_n hx hb dX0_passTick_84 rfl (lv_at hl 2 rfl) ?_
            refine lv_iload_n hx hb dX0_passTick_85 rfl (lv_at hl 0 rfl) ?_
            refine lv_iconst (v := 3) hx hb dX0_passTick_86 (by decide) ?_
            obtain ⟨o_41, r_42, hG⟩ := q_bi hG
            refine q_gov2 (wr := []) (va_runV (As := [.int o_38, .int 3]) (rest := []) ⟨hx, hb, hml, hown, hts⟩ (c_X0_lower l dC dI g r0 h r1 r2 dv c0 (o_32) c1 c2 fu fp o_38 3 (va_A [(g, .inr (0, [.ref r0, .ref h])), (r0, .inl (c0, 98, .inl (o_32))), (h, .inr (5, [.ref r1, .ref r2, .int dv])), (r1, .inl (c1, 8, .inl fu)), (r2, .inl (c2, 48, .inl fp))] H.size) o_41 r_42) (cwV 2 hts (q_gV m_406 m_407 m_408 m_33 m_409) rfl rfl rfl hdV_yX0_lower_2 ⟨Nat.le_of_ble_eq_true rfl, Nat.le_of_ble_eq_true rfl⟩) (q_preWV hK hP hD (q := (RX0, TX0, 2)) (ci := 0) (q0 := 0) rfl rfl [0, 1, 2, 3, 4] (by decide) rfl rfl [0, 1, 2] rfl) rfl rfl hl.1 rfl (lv_room (Nat.le_of_ble_eq_true rfl)) dX0_passTick_87 ⟨Nat.le_of_ble_eq_true rfl, Nat.le_of_ble_eq_true rfl⟩) hK hP hD hS hA [0, 1, 2, 3, 4] [] rfl rfl (by decide) (by decide) (fun _ H locs _ hP hD hK9 hS => ?_)
            have hP : va_P (dC, dI) vwCl [(g, .inr (0, [.ref r0, .ref h])), (r0, .inl (c0, 98, .inl (o_41))), (h, .inr (5, [.ref r1, .ref r2, .int dv])), (r1, .inl (c1, 8, .inl fu)), (r2, .inl (c2, 48, .inl fp))] H := hP.sub [0, 1, 2, 3, 4] rfl
            have hD : va_D A [(g, .inr (0, [.ref r0, .ref h])), (r0, .inl (c0, 98, .inl (o_41))), (h, .inr (5, [.ref r1, .ref r2, .int dv])), (r1, .inl (c1, 8, .inl fu)), (r2, .inl (c2, 48, .inl fp))] := hD.sub [0, 1, 2, 3, 4] (by decide) rfl
            refine lv_aload_n hx hb dX0_passTick_90 rfl (lv_at hl 2 rfl) ?_
            refine va_get (D := (dC, dI)) (ci := 0) (v := .ref r0) (C := RX0) (T := TX0) (N := 2) hx hb hts iA_0 hown hK hP 0 rfl rfl 0 (by decide) (hts (.fieldLink RX0 11 "HubTree$Bus" "row" "[I") (List.mem_cons_of_mem _ m_88)) (fun _ h9 => h9) rfl dX0_passTick_91 ?_
            refine lv_bipush (v := 8) hx hb dX0_passTick_94 (by decide) ?_
            refine lv_iload_n hx hb dX0_passTick_96 rfl (lv_at hl 0 rfl) ?_
            refine lv_iadd hx hb dX0_passTick_97 ?_
            refine lv_aload_n hx hb dX0_passTick_98 rfl (lv_at hl 2 rfl) ?_
            refine va_get (D := (dC, dI)) (ci := 0) (v := .ref h) (C := RX0) (T := TX0) (N := 2) hx hb hts iA_0 hown hK hP 0 rfl rfl 1 (by decide) (hts (.fieldLink RX0 15 "HubTree$Bus" "plan" "LHubTree$Plan;") (List.mem_cons_of_mem _ m_89)) (fun _ h9 => h9) rfl dX0_passTick_99 ?_
            refine va_get (D := (dC, dI)) (ci := 5) (v := .ref r1) (C := RX5) (T := TX5) (N := 3) hx hb hts iA_5 hown hK hP 2 rfl rfl 0 (by decide) (hts (.fieldLink RX0 84 "HubTree$Plan" "rules" "[I") (List.mem_cons_of_mem _ m_577)) (fun _ h9 => h9) rfl dX0_passTick_102 ?_
            refine lv_iconst (v := 2) hx hb dX0_passTick_105 (by decide) ?_
            refine va_iald hx hb hK hP 3 1 rfl rfl (i := 2) (vp_in_iff.mpr (by decide)) dX0_passTick_106 ?_
            refine q_top (y := (fu 2)) rfl ?_
            obtain ⟨h_43, hG⟩ := q_ix hG
            refine va_iast hx hb hK hP hD hS 1 0 rfl rfl (i := (8 + o_38)) (x := (fu 2)) h_43 dX0_passTick_107 (fun H locs hP hD hS => ?_)
            have hP : va_P (dC, dI) vwCl [(g, .inr (0, [.ref r0, .ref h])), (r0, .inl (c0, 98, .inl (upd (o_41) (8 + o_38).toNatClampNeg (fu 2)))), (h, .inr (5, [.ref r1, .ref r2, .int dv])), (r1, .inl (c1, 8, .inl fu)), (r2, .inl (c2, 48, .inl fp))] H := hP
            have hD : va_D A [(g, .inr (0, [.ref r0, .ref h])), (r0, .inl (c0, 98, .inl (upd (o_41) (8 + o_38).toNatClampNeg (fu 2)))), (h, .inr (5, [.ref r1, .ref r2, .int dv])), (r1, .inl (c1, 8, .inl fu)), (r2, .inl (c2, 48, .inl fp))] := hD
            refine lv_aload_n hx hb dX0_passTick_108 rfl (lv_at hl 2 rfl) ?_
            refine va_get (D := (dC, dI)) (ci := 0) (v := .ref r0) (C := RX0) (T := TX0) (N := 2) hx hb hts iA_0 hown hK hP 0 rfl rfl 0 (by decide) (hts (.fieldLink RX0 11 "HubTree$Bus" "row" "[I") (List.mem_cons_of_mem _ m_88)) (fun _ h9 => h9) rfl dX0_passTick_109 ?_
            refine lv_bipush (v := 96) hx hb dX0_passTick_112 (by decide) ?_
            refine lv_aload_n hx hb dX0_passTick_114 rfl (lv_at hl 2 rfl) ?_
            refine va_get (D := (dC, dI)) (ci := 0) (v := .ref r0) (C := RX0) (T := TX0) (N := 2) hx hb hts iA_0 hown hK hP 0 rfl rfl 0 (by decide) (hts (.fieldLink RX0 11 "HubTree$Bus" "row" "[I") (List.mem_cons_of_mem _ m_88)) (fun _ h9 => h9) rfl dX0_passTick_115 ?_
            refine lv_bipush (v := 96) hx hb dX0_passTick_118 (by decide) ?_
            refine va_iald hx hb hK hP 1 0 rfl rfl (i := 96) (vp_in_iff.mpr (by decide)) dX0_passTick_120 ?_
            refine q_top (y := ((upd (o_41) (8 + o_38).toNatClampNeg (fu 2)) 96)) rfl ?_
            refine lv_iconst (v := 1) hx hb dX0_passTick_121 (by decide) ?_
            refine lv_iadd hx hb dX0_passTick_122 ?_
            refine lv_sipush (v := 9999) hx hb dX0_passTick_123 (by decide) ?_
            refine va_mmin hx hb (by rw [hml, hl.1]) hown (hts (.methodLink RX0 114 Lib.Math.min.name) (List.mem_cons_of_mem _ m_770)) (hts (.static Lib.Math.min.name) (List.mem_cons_of_mem _ m_227)) (hts (.initialized "java/lang/Math") (List.mem_cons_of_mem _ m_224)) (hts (.code Lib.Math.min.name Lib.Math.min.code 2 (some .int)) (List.mem_cons_of_mem _ m_228)) (Nat.le_of_ble_eq_true rfl) (Nat.le_of_ble_eq_true rfl) (Nat.zero_le _) (Nat.zero_le _) dX0_passTick_126 ?_
            refine va_iast hx hb hK hP hD hS 1 0 rfl rfl (i := 96) (x := (if 9999 < (((upd (o_41) (8 + o_38).toNatClampNeg (fu 2)) 96) + 1) then 9999 else (((upd (o_41) (8 + o_38).toNatClampNeg (fu 2)) 96) + 1))) (vp_in_iff.mpr (by decide)) dX0_passTick_129 (fun H locs hP hD hS => ?_)
            have hP : va_P (dC, dI) vwCl [(g, .inr (0, [.ref r0, .ref h])), (r0, .inl (c0, 98, .inl (upd (upd (o_41) (8 + o_38).toNatClampNeg (fu 2)) 96 (if 9999 < (((upd (o_41) (8 + o_38).toNatClampNeg (fu 2)) 96) + 1) then 9999 else (((upd (o_41) (8 + o_38).toNatClampNeg (fu 2)) 96) + 1))))), (h, .inr (5, [.ref r1, .ref r2, .int dv])), (r1, .inl (c1, 8, .inl fu)), (r2, .inl (c2, 48, .inl fp))] H := hP
            have hD : va_D A [(g, .inr (0, [.ref r0, .ref h])), (r0, .inl (c0, 98, .inl (upd (upd (o_41) (8 + o_38).toNatClampNeg (fu 2)) 96 (if 9999 < (((upd (o_41) (8 + o_38).toNatClampNeg (fu 2)) 96) + 1) then 9999 else (((upd (o_41) (8 + o_38).toNatClampNeg (fu 2)) 96) + 1))))), (h, .inr (5, [.ref r1, .ref r2, .int dv])), (r1, .inl (c1, 8, .inl fu)), (r2, .inl (c2, 48, .inl fp))] := hD
            obtain rfl := Option.some.inj hG
            have hP9 := hP.sub (ws' := [(g, .inr (0, [.ref r0, .ref h])), (r0, .inl (c0, 98, .inl (upd (upd (o_41) (8 + o_38).toNatClampNeg (fu 2)) 96 (if 9999 < (((upd (o_41) (8 + o_38).toNatClampNeg (fu 2)) 96) + 1) then 9999 else (((upd (o_41) (8 + o_38).toNatClampNeg (fu 2)) 96) + 1))))), (h, .inr (5, [.ref r1, .ref r2, .int dv])), (r1, .inl (c1, 8, .inl fu)), (r2, .inl (c2, 48, .inl fp))]) [0, 1, 2, 3, 4] rfl
            have hD9 := hD.sub (ws' := [(g, .inr (0, [.ref r0, .ref h])), (r0, .inl (c0, 98, .inl (upd (upd (o_41) (8 + o_38).toNatClampNeg (fu 2)) 96 (if 9999 < (((upd (o_41) (8 + o_38).toNatClampNeg (fu 2)) 96) + 1) then 9999 else (((upd (o_41) (8 + o_38).toNatClampNeg (fu 2)) 96) + 1))))), (h, .inr (5, [.ref r1, .ref r2, .int dv])), (r1, .inl (c1, 8, .inl fu)), (r2, .inl (c2, 48, .inl fp))]) [0, 1, 2, 3, 4] (by decide) rfl
            have hK9 := hK.sub (tys' := [(c0, .int), (c1, .int), (c2, .int)]) [0, 1, 2] rfl
            exact W.vret hx hb hr (fun t ht hW => ⟨⟨(), rfl, trivial, by rw [ht]; exact hP9, va_K.moved hW.alike hK9, hD9⟩, hS.F ht⟩) hS.2.2 dX0_passTick_130
    · have hG := q_ifp c_17 hG
      refine lv_iconst (v := 1) hx hb dX0_passTick_26 (by decide) ?_
      refine lv_goto (tgt := 31) hx hb dX0_passTick_27 (by decide) ?_
      refine lv_istore_n (lv' := [(2, .int 1), (1, .int o_3), (0, .ref g)]) hx hb dX0_passTick_31 rfl hl (by decide) rfl (fun ls hl => ?_)
      refine lv_aload_n hx hb dX0_passTick_32 rfl (lv_at hl 2 rfl) ?_
      refine lv_iload_n hx hb dX0_passTick_33 rfl (lv_at hl 1 rfl) ?_
      obtain ⟨o_44, r_45, hG⟩ := q_bi hG
      refine q_goi2 (v := o_44.1) (wr := []) (va_runV (As := [.int o_3]) (rest := []) ⟨hx, hb, hml, hown, hts⟩ (c_X0_passes l dC dI g r0 h r1 r2 dv c0 (o_1) c1 c2 fu fp o_3 (va_A [(g, .inr (0, [.ref r0, .ref h])), (r0, .inl (c0, 98, .inl (o_1))), (h, .inr (5, [.ref r1, .ref r2, .int dv])), (r1, .inl (c1, 8, .inl fu)), (r2, .inl (c2, 48, .inl fp))] H.size) o_44 r_45) (cwV 1 hts (q_gV m_824 m_825 m_826 m_33 m_827) rfl rfl rfl hdV_yX0_passes_1 ⟨Nat.le_of_ble_eq_true rfl, Nat.le_of_ble_eq_true rfl⟩) (q_preWV hK hP hD (q := (RX0, TX0, 2)) (ci := 0) (q0 := 0) rfl rfl [0, 1, 2, 3, 4] (by decide) rfl rfl [0, 1, 2] rfl) rfl rfl hl.1 rfl (lv_room (Nat.le_of_ble_eq_true rfl)) dX0_passTick_34 ⟨Nat.le_of_ble_eq_true rfl, Nat.le_of_ble_eq_true rfl⟩) hK hP hD hS hA [0, 1, 2, 3, 4] [] rfl rfl (by decide) (by decide) (fun _ H locs _ hP hD hK9 hS => ?_)
      have hP : va_P (dC, dI) vwCl [(g, .inr (0, [.ref r0, .ref h])), (r0, .inl (c0, 98, .inl (o_44.2))), (h, .inr (5, [.ref r1, .ref r2, .int dv])), (r1, .inl (c1, 8, .inl fu)), (r2, .inl (c2, 48, .inl fp))] H := hP.sub [0, 1, 2, 3, 4] rfl
      have hD : va_D A [(g, .inr (0, [.ref r0, .ref h])), (r0, .inl (c0, 98, .inl (o_44.2))), (h, .inr (5, [.ref r1, .ref r2, .int dv])), (r1, .inl (c1, 8, .inl fu)), (r2, .inl (c2, 48, .inl fp))] := hD.sub [0, 1, 2, 3, 4] (by decide) rfl
      refine lv_if_ne (tgt := 48) hx hb dX0_passTick_37 (by decide) (fun c_46 => ?_) (fun c_46 => ?_)
      · have hG := q_ifn c_46 hG
        refine lv_iload_n hx hb dX0_passTick_48 rfl (lv_at hl 0 rfl) ?_
        refine lv_if_eq (tgt := 62) hx hb dX0_passTick_49 (by decide) (fun c_47 => ?_) (fun c_47 => ?_)
        · exact absurd c_47 (by decide)
        refine lv_aload_n hx hb dX0_passTick_52 rfl (lv_at hl 2 rfl) ?_
        refine lv_iload_n hx hb dX0_passTick_53 rfl (lv_at hl 1 rfl) ?_
        refine lv_aload_n hx hb dX0_passTick_54 rfl (lv_at hl 2 rfl) ?_
        refine lv_iload_n hx hb dX0_passTick_55 rfl (lv_at hl 1 rfl) ?_
        obtain ⟨o_48, r_49, hG⟩ := q_bi hG
        refine q_goi (v := o_48) (va_runV (As := [.int o_3]) (rest := [.int o_3, .ref g]) ⟨hx, hb, hml, hown, hts⟩ (c_X0_reasonAgainst l dC dI g r0 h r1 r2 dv c0 (o_44.2) c1 c2 fu fp o_3 o_48 r_49) (cwV 1 hts (q_gV m_842 m_843 m_844 m_33 m_845) rfl rfl rfl hdV_yX0_reasonAgainst_1 ⟨Nat.le_of_ble_eq_true rfl, Nat.le_of_ble_eq_true rfl⟩) (q_preV hK hP (q := (RX0, TX0, 2)) (ci := 0) (q0 := 0) rfl rfl [0, 1, 2, 3, 4] rfl [0, 1, 2] rfl) rfl rfl hl.1 rfl (lv_room (Nat.le_of_ble_eq_true rfl)) dX0_passTick_56 ⟨Nat.le_of_ble_eq_true rfl, Nat.le_of_ble_eq_true rfl⟩) hP hS (fun H locs hP hS => ?_)
        obtain ⟨o_50, r_51, hG⟩ := q_bi hG
        refine q_gov2 (wr := []) (va_runV (As := [.int o_3, .int o_48]) (rest := []) ⟨hx, hb, hml, hown, hts⟩ (c_X0_conclude l dC dI g r0 h r1 r2 dv c0 (o_44.2) c1 c2 fu fp o_3 o_48 (va_A [(g, .inr (0, [.ref r0, .ref h])), (r0, .inl (c0, 98, .inl (o_44.2))), (h, .inr (5, [.ref r1, .ref r2, .int dv])), (r1, .inl (c1, 8, .inl fu)), (r2, .inl (c2, 48, .inl fp))] H.size) o_50 r_51) (cwV 2 hts (q_gV m_852 m_853 m_854 m_33 m_855) rfl rfl rfl hdV_yX0_conclude_2 ⟨Nat.le_of_ble_eq_true rfl, Nat.le_of_ble_eq_true rfl⟩) (q_preWV hK hP hD (q := (RX0, TX0, 2)) (ci := 0) (q0 := 0) rfl rfl [0, 1, 2, 3, 4] (by decide) rfl rfl [0, 1, 2] rfl) rfl rfl hl.1 rfl (lv_room (Nat.le_of_ble_eq_true rfl)) dX0_passTick_59 ⟨Nat.le_of_ble_eq_true rfl, Nat.le_of_ble_eq_true rfl⟩) hK hP hD hS hA [0, 1, 2, 3, 4] [] rfl rfl (by decide) (by decide) (fun _ H locs _ hP hD hK9 hS => ?_)
        have hP : va_P (dC, dI) vwCl [(g, .inr (0, [.ref r0, .ref h])), (r0, .inl (c0, 98, .inl (o_50))), (h, .inr (5, [.ref r1, .ref r2, .int dv])), (r1, .inl (c1, 8, .inl fu)), (r2, .inl (c2, 48, .inl fp))] H := hP.sub [0, 1, 2, 3, 4] rfl
        have hD : va_D A [(g, .inr (0, [.ref r0, .ref h])), (r0, .inl (c0, 98, .inl (o_50))), (h, .inr (5, [.ref r1, .ref r2, .int dv])), (r1, .inl (c1, 8, .inl fu)), (r2, .inl (c2, 48, .inl fp))] := hD.sub [0, 1, 2, 3, 4] (by decide) rfl
        refine lv_aload_n hx hb dX0_passTick_62 rfl (lv_at hl 2 rfl) ?_
        obtain ⟨o_52, r_53, hG⟩ := q_bi hG
        refine q_goi (v := o_52) (va_runV (As := []) (rest := []) ⟨hx, hb, hml, hown, hts⟩ (c_X0_standing l dC dI g r0 h r1 r2 dv c0 (o_50) c1 c2 fu fp o_52 r_53) (cwV 0 hts (q_gV m_820 m_821 m_822 m_33 m_823) rfl rfl rfl hdV_yX0_standing_0 ⟨Nat.le_of_ble_eq_true rfl, Nat.le_of_ble_eq_true rfl⟩) (q_preV hK hP (q := (RX0, TX0, 2)) (ci := 0) (q0 := 0) rfl rfl [0, 1, 2, 3, 4] rfl [0, 1, 2] rfl) rfl rfl hl.1 rfl (lv_room (Nat.le_of_ble_eq_true rfl)) dX0_passTick_63 ⟨Nat.le_of_ble_eq_true rfl, Nat.le_of_ble_eq_true rfl⟩) hP hS (fun H locs hP hS => ?_)
        refine lv_iconst (v := (-1)) hx hb dX0_passTick_66 (by decide) ?_
        refine lv_icmp_ne (tgt := 77) hx hb dX0_passTick_67 (by decide) (fun c_54 => ?_) (fun c_54 => ?_)
        · have hG := q_ifn c_54 hG
          refine lv_iconst (v := (-1)) hx hb dX0_passTick_77 (by decide) ?_
          refine lv_istore_n (lv' := [(2, .int (-1)), (1, .int o_3), (0, .ref g)]) hx hb dX0_passTick_78 rfl hl (by decide) rfl (fun ls hl => ?_)
          refine lv_iload_n hx hb dX0_passTick_79 rfl (lv_at hl 0 rfl) ?_
          refine lv_iconst (v := (-1)) hx hb dX0_passTick_80 (by decide) ?_
          refine lv_icmp_eq (tgt := 108) hx hb dX0_passTick_81 (by decide) (fun c_55 => ?_) (fun c_55 => ?_)
          rotate_left
          · exact absurd (by decide) c_55
          refine lv_aload_n hx hb dX0_passTick_108 rfl (lv_at hl 2 rfl) ?_
          refine va_get (D := (dC, dI)) (ci := 0) (v := .ref r0) (C := RX0) (T := TX0) (N := 2) hx hb hts iA_0 hown hK hP 0 rfl rfl 0 (by decide) (hts (.fieldLink RX0 11 "HubTree$Bus" "row" "[I") (List.mem_cons_of_mem _ m_88)) (fun _ h9 => h9) rfl dX0_passTick_109 ?_
          refine lv_bipush (v := 96) hx hb dX0_passTick_112 (by decide) ?_
          refine lv_aload_n hx hb dX0_passTick_114 rfl (lv_at hl 2 rfl) ?_
          refine va_get (D := (dC, dI)) (ci := 0) (v := .ref r0) (C := RX0) (T := TX0) (N := 2) hx hb hts iA_0 hown hK hP 0 rfl rfl 0 (by decide) (hts (.fieldLink RX0 11 "HubTree$Bus" "row" "[I") (List.mem_cons_of_mem _ m_88)) (fun _ h9 => h9) rfl dX0_passTick_115 ?_
          refine lv_bipush (v := 96) hx hb dX0_passTick_118 (by decide) ?_
          refine va_iald hx hb hK hP 1 0 rfl rfl (i := 96) (vp_in_iff.mpr (by decide)) dX0_passTick_120 ?_
          refine q_top (y := ((o_50) 96)) rfl ?_
          refine lv_iconst (v := 1) hx hb dX0_passTick_121 (by decide) ?_
          refine lv_iadd hx hb dX0_passTick_122 ?_
          refine lv_sipush (v := 9999) hx hb dX0_passTick_123 (by decide) ?_
          refine va_mmin hx hb (by rw [hml, hl.1]) hown (hts (.methodLink RX0 114 Lib.Math.min.name) (List.mem_cons_of_mem _ m_770)) (hts (.static Lib.Math.min.name) (List.mem_cons_of_mem _ m_227)) (hts (.initialized "java/lang/Math") (List.mem_cons_of_mem _ m_224)) (hts (.code Lib.Math.min.name Lib.Math.min.code 2 (some .int)) (List.mem_cons_of_mem _ m_228)) (Nat.le_of_ble_eq_true rfl) (Nat.le_of_ble_eq_true rfl) (Nat.zero_le _) (Nat.zero_le _) dX0_passTick_126 ?_
          refine va_iast hx hb hK hP hD hS 1 0 rfl rfl (i := 96) (x := (if 9999 < (((o_50) 96) + 1) then 9999 else (((o_50) 96) + 1))) (vp_in_iff.mpr (by decide)) dX0_passTick_129 (fun H locs hP hD hS => ?_)
          have hP : va_P (dC, dI) vwCl [(g, .inr (0, [.ref r0, .ref h])), (r0, .inl (c0, 98, .inl (upd (o_50) 96 (if 9999 < (((o_50) 96) + 1) then 9999 else (((o_50) 96) + 1))))), (h, .inr (5, [.ref r1, .ref r2, .int dv])), (r1, .inl (c1, 8, .inl fu)), (r2, .inl (c2, 48, .inl fp))] H := hP
          have hD : va_D A [(g, .inr (0, [.ref r0, .ref h])), (r0, .inl (c0, 98, .inl (upd (o_50) 96 (if 9999 < (((o_50) 96) + 1) then 9999 else (((o_50) 96) + 1))))), (h, .inr (5, [.ref r1, .ref r2, .int dv])), (r1, .inl (c1, 8, .inl fu)), (r2, .inl (c2, 48, .inl fp))] := hD
          obtain rfl := Option.some.inj hG
          have hP9 := hP.sub (ws' := [(g, .inr (0, [.ref r0, .ref h])), (r0, .inl (c0, 98, .inl (upd (o_50) 96 (if 9999 < (((o_50) 96) + 1) then 9999 else (((o_50) 96) + 1))))), (h, .inr (5, [.ref r1, .ref r2, .int dv])), (r1, .inl (c1, 8, .inl fu)), (r2, .inl (c2, 48, .inl fp))]) [0, 1, 2, 3, 4] rfl
          have hD9 := hD.sub (ws' := [(g, .inr (0, [.ref r0, .ref h])), (r0, .inl (c0, 98, .inl (upd (o_50) 96 (if 9999 < (((o_50) 96) + 1) then 9999 else (((o_50) 96) + 1))))), (h, .inr (5, [.ref r1, .ref r2, .int dv])), (r1, .inl (c1, 8, .inl fu)), (r2, .inl (c2, 48, .inl fp))]) [0, 1, 2, 3, 4] (by decide) rfl
          have hK9 := hK.sub (tys' := [(c0, .int), (c1, .int), (c2, .int)]) [0, 1, 2] rfl
          exact W.vret hx hb hr (fun t ht hW => ⟨⟨(), rfl, trivial, by rw [ht]; exact hP9, va_K.moved hW.alike hK9, hD9⟩, hS.F ht⟩) hS.2.2 dX0_passTick_130
        · have hG := q_ifp c_54 hG
          refine lv_aload_n hx hb dX0_passTick_70 rfl (lv_at hl 2 rfl) ?_
          obtain ⟨o_56, r_57, hG⟩ := q_bi hG
          refine q_goi (v := o_56) (va_runV (As := []) (rest := []) ⟨hx, hb, hml, hown, hts⟩ (c_X0_firstInLine l dC dI g r0 h r1 r2 dv c0 (o_50) c1 c2 fu fp o_56 r_57) (cwV 0 hts (q_gV m_856 m_857 m_858 m_33 m_859) rfl rfl rfl hdV_yX0_firstInLine_0 ⟨Nat.le_of_ble_eq_true rfl, Nat.le_of_ble_eq_true rfl⟩) (q_preV hK hP (q := (RX0, TX0, 2)) (ci := 0) (q0 := 0) rfl rfl [0, 1, 2, 3, 4] rfl [0, 1, 2] rfl) rfl rfl hl.1 rfl (lv_room (Nat.le_of_ble_eq_true rfl)) dX0_passTick_71 ⟨Nat.le_of_ble_eq_true rfl, Nat.le_of_ble_eq_true rfl⟩) hP hS (fun H locs hP hS => ?_)
          refine lv_goto (tgt := 78) hx hb dX0_passTick_74 (by decide) ?_
          refine lv_istore_n (lv' := [(2, .int o_56), (1, .int o_3), (0, .ref g)]) hx hb dX0_passTick_78 rfl hl (by decide) rfl (fun ls hl => ?_)
          refine lv_iload_n hx hb dX0_passTick_79 rfl (lv_at hl 0 rfl) ?_
          refine lv_iconst (v := (-1)) hx hb dX0_passTick_80 (by decide) ?_
          refine lv_icmp_eq (tgt := 108) hx hb dX0_passTick_81 (by decide) (fun c_58 => ?_) (fun c_58 => ?_)
          · have hG := q_ifp c_58 hG
            refine lv_aload_n hx hb dX0_passTick_108 rfl (lv_at hl 2 rfl) ?_
            refine va_get (D := (dC, dI)) (ci := 0) (v := .ref r0) (C := RX0) (T := TX0) (N := 2) hx hb hts iA_0 hown hK hP 0 rfl rfl 0 (by decide) (hts (.fieldLink RX0 11 "HubTree$Bus" "row" "[I") (List.mem_cons_of_mem _ m_88)) (fun _ h9 => h9) rfl dX0_passTick_109 ?_
            refine lv_bipush (v := 96) hx hb dX0_passTick_112 (by decide) ?_
            refine lv_aload_n hx hb dX0_passTick_114 rfl (lv_at hl 2 rfl) ?_
            refine va_get (D := (dC, dI)) (ci := 0) (v := .ref r0) (C := RX0) (T := TX0) (N := 2) hx hb hts iA_0 hown hK hP 0 rfl rfl 0 (by decide) (hts (.fieldLink RX0 11 "HubTree$Bus" "row" "[I") (List.mem_cons_of_mem _ m_88)) (fun _ h9 => h9) rfl dX0_passTick_115 ?_
            refine lv_bipush (v := 96) hx hb dX0_passTick_118 (by decide) ?_
            refine va_iald hx hb hK hP 1 0 rfl rfl (i := 96) (vp_in_iff.mpr (by decide)) dX0_passTick_120 ?_
            refine q_top (y := ((o_50) 96)) rfl ?_
            refine lv_iconst (v := 1) hx hb dX0_passTick_121 (by decide) ?_
            refine lv_iadd hx hb dX0_passTick_122 ?_
            refine lv_sipush (v := 9999) hx hb dX0_passTick_123 (by decide) ?_
            refine va_mmin hx hb (by rw [hml, hl.1]) hown (hts (.methodLink RX0 114 Lib.Math.min.name) (List.mem_cons_of_mem _ m_770)) (hts (.static Lib.Math.min.name) (List.mem_cons_of_mem _ m_227)) (hts (.initialized "java/lang/Math") (List.mem_cons_of_mem _ m_224)) (hts (.code Lib.Math.min.name Lib.Math.min.code 2 (some .int)) (List.mem_cons_of_mem _ m_228)) (Nat.le_of_ble_eq_true rfl) (Nat.le_of_ble_eq_true rfl) (Nat.zero_le _) (Nat.zero_le _) dX0_passTick_126 ?_
            refine va_iast hx hb hK hP hD hS 1 0 rfl rfl (i := 96) (x := (if 9999 < (((o_50) 96) + 1) then 9999 else (((o_50) 96) + 1))) (vp_in_iff.mpr (by decide)) dX0_passTick_129 (fun H locs hP hD hS => ?_)
            have hP : va_P (dC, dI) vwCl [(g, .inr (0, [.ref r0, .ref h])), (r0, .inl (c0, 98, .inl (upd (o_50) 96 (if 9999 < (((o_50) 96) + 1) then 9999 else (((o_50) 96) + 1))))), (h, .inr (5, [.ref r1, .ref r2, .int dv])), (r1, .inl (c1, 8, .inl fu)), (r2, .inl (c2, 48, .inl fp))] H := hP
            have hD : va_D A [(g, .inr (0, [.ref r0, .ref h])), (r0, .inl (c0, 98, .inl (upd (o_50) 96 (if 9999 < (((o_50) 96) + 1) then 9999 else (((o_50) 96) + 1))))), (h, .inr (5, [.ref r1, .ref r2, .int dv])), (r1, .inl (c1, 8, .inl fu)), (r2, .inl (c2, 48, .inl fp))] := hD
            obtain rfl := Option.some.inj hG
            have hP9 := hP.sub (ws' := [(g, .inr (0, [.ref r0, .ref h])), (r0, .inl (c0, 98, .inl (upd (o_50) 96 (if 9999 < (((o_50) 96) + 1) then 9999 else (((o_50) 96) + 1))))), (h, .inr (5, [.ref r1, .ref r2, .int dv])), (r1, .inl (c1, 8, .inl fu)), (r2, .inl (c2, 48, .inl fp))]) [0, 1, 2, 3, 4] rfl
            have hD9 := hD.sub (ws' := [(g, .inr (0, [.ref r0, .ref h])), (r0, .inl (c0, 98, .inl (upd (o_50) 96 (if 9999 < (((o_50) 96) + 1) then 9999 else (((o_50) 96) + 1))))), (h, .inr (5, [.ref r1, .ref r2, .int dv])), (r1, .inl (c1, 8, .inl fu)), (r2, .inl (c2, 48, .inl fp))]) [0, 1, 2, 3, 4] (by decide) rfl
            have hK9 := hK.sub (tys' := [(c0, .int), (c1, .int), (c2, .int)]) [0, 1, 2] rfl
            exact W.vret hx hb hr (fun t ht hW => ⟨⟨(), rfl, trivial, by rw [ht]; exact hP9, va_K.moved hW.alike hK9, hD9⟩, hS.F ht⟩) hS.2.2 dX0_passTick_130
          · have hG := q_ifn c_58 hG
            refine lv_aload_n hx hb dX0_passTick_84 rfl (lv_at hl 2 rfl) ?_
            refine lv_iload_n hx hb dX0_passTick_85 rfl (lv_at hl 0 rfl) ?_
            refine lv_iconst (v := 3) hx hb dX0_passTick_86 (by decide) ?_
            obtain ⟨o_59, r_60, hG⟩ := q_bi hG
            refine q_gov2 (wr := []) (va_runV (As := [.int o_56, .int 3]) (rest := []) ⟨hx, hb, hml, hown, hts⟩ (c_X0_lower l dC dI g r0 h r1 r2 dv c0 (o_50) c1 c2 fu fp o_56 3 (va_A [(g, .inr (0, [.ref r0, .ref h])), (r0, .inl (c0, 98, .inl (o_50))), (h, .inr (5, [.ref r1, .ref r2, .int dv])), (r1, .inl (c1, 8, .inl fu)), (r2, .inl (c2, 48, .inl fp))] H.size) o_59 r_60) (cwV 2 hts (q_gV m_406 m_407 m_408 m_33 m_409) rfl rfl rfl hdV_yX0_lower_2 ⟨Nat.le_of_ble_eq_true rfl, Nat.le_of_ble_eq_true rfl⟩) (q_preWV hK hP hD (q := (RX0, TX0, 2)) (ci := 0) (q0 := 0) rfl rfl [0, 1, 2, 3, 4] (by decide) rfl rfl [0, 1, 2] rfl) rfl rfl hl.1 rfl (lv_room (Nat.le_of_ble_eq_true rfl)) dX0_passTick_87 ⟨Nat.le_of_ble_eq_true rfl, Nat.le_of_ble_eq_true rfl⟩) hK hP hD hS hA [0, 1, 2, 3, 4] [] rfl rfl (by decide) (by decide) (fun _ H locs _ hP hD hK9 hS => ?_)
            have hP : va_P (dC, dI) vwCl [(g, .inr (0, [.ref r0, .ref h])), (r0, .inl (c0, 98, .inl (o_59))), (h, .inr (5, [.ref r1, .ref r2, .int dv])), (r1, .inl (c1, 8, .inl fu)), (r2, .inl (c2, 48, .inl fp))] H := hP.sub [0, 1, 2, 3, 4] rfl
            have hD : va_D A [(g, .inr (0, [.ref r0, .ref h])), (r0, .inl (c0, 98, .inl (o_59))), (h, .inr (5, [.ref r1, .ref r2, .int dv])), (r1, .inl (c1, 8, .inl fu)), (r2, .inl (c2, 48, .inl fp))] := hD.sub [0, 1, 2, 3, 4] (by decide) rfl
            refine lv_aload_n hx hb dX0_passTick_90 rfl (lv_at hl 2 rfl) ?_
            refine va_get (D := (dC, dI)) (ci := 0) (v := .ref r0) (C := RX0) (T := TX0) (N := 2) hx hb hts iA_0 hown hK hP 0 rfl rfl 0 (by decide) (hts (.fieldLink RX0 11 "HubTree$Bus" "row" "[I") (List.mem_cons_of_mem _ m_88)) (fun _ h9 => h9) rfl dX0_passTick_91 ?_
            refine lv_bipush (v := 8) hx hb dX0_passTick_94 (by decide) ?_
            refine lv_iload_n hx hb dX0_passTick_96 rfl (lv_at hl 0 rfl) ?_
            refine lv_iadd hx hb dX0_passTick_97 ?_
            refine lv_aload_n hx hb dX0_passTick_98 rfl (lv_at hl 2 rfl) ?_
            refine va_get (D := (dC, dI)) (ci := 0) (v := .ref h) (C := RX0) (T := TX0) (N := 2) hx hb hts iA_0 hown hK hP 0 rfl rfl 1 (by decide) (hts (.fieldLink RX0 15 "HubTree$Bus" "plan" "LHubTree$Plan;") (List.mem_cons_of_mem _ m_89)) (fun _ h9 => h9) rfl dX0_passTick_99 ?_
            refine va_get (D := (dC, dI)) (ci := 5) (v := .ref r1) (C := RX5) (T := TX5) (N := 3) hx hb hts iA_5 hown hK hP 2 rfl rfl 0 (by decide) (hts (.fieldLink RX0 84 "HubTree$Plan" "rules" "[I") (List.mem_cons_of_mem _ m_577)) (fun _ h9 => h9) rfl dX0_passTick_102 ?_
            refine lv_iconst (v := 2) hx hb dX0_passTick_105 (by decide) ?_
            refine va_iald hx hb hK hP 3 1 rfl rfl (i := 2) (vp_in_iff.mpr (by decide)) dX0_passTick_106 ?_
            refine q_top (y := (fu 2)) rfl ?_
            obtain ⟨h_61, hG⟩ := q_ix hG
            refine va_iast hx hb hK hP hD hS 1 0 rfl rfl (i := (8 + o_56)) (x := (fu 2)) h_61 dX0_passTick_107 (fun H locs hP hD hS => ?_)
            have hP : va_P (dC, dI) vwCl [(g, .inr (0, [.ref r0, .ref h])), (r0, .inl (c0, 98, .inl (upd (o_59) (8 + o_56).toNatClampNeg (fu 2)))), (h, .inr (5, [.ref r1, .ref r2, .int dv])), (r1, .inl (c1, 8, .inl fu)), (r2, .inl (c2, 48, .inl fp))] H := hP
            have hD : va_D A [(g, .inr (0, [.ref r0, .ref h])), (r0, .inl (c0, 98, .inl (upd (o_59) (8 + o_56).toNatClampNeg (fu 2)))), (h, .inr (5, [.ref r1, .ref r2, .int dv])), (r1, .inl (c1, 8, .inl fu)), (r2, .inl (c2, 48, .inl fp))] := hD
            refine lv_aload_n hx hb dX0_passTick_108 rfl (lv_at hl 2 rfl) ?_
            refine va_get (D := (dC, dI)) (ci := 0) (v := .ref r0) (C := RX0) (T := TX0) (N := 2) hx hb hts iA_0 hown hK hP 0 rfl rfl 0 (by decide) (hts (.fieldLink RX0 11 "HubTree$Bus" "row" "[I") (List.mem_cons_of_mem _ m_88)) (fun _ h9 => h9) rfl dX0_passTick_109 ?_
            refine lv_bipush (v := 96) hx hb dX0_passTick_112 (by decide) ?_
            refine lv_aload_n hx hb dX0_passTick_114 rfl (lv_at hl 2 rfl) ?_
            refine va_get (D := (dC, dI)) (ci := 0) (v := .ref r0) (C := RX0) (T := TX0) (N := 2) hx hb hts iA_0 hown hK hP 0 rfl rfl 0 (by decide) (hts (.fieldLink RX0 11 "HubTree$Bus" "row" "[I") (List.mem_cons_of_mem _ m_88)) (fun _ h9 => h9) rfl dX0_passTick_115 ?_
            refine lv_bipush (v := 96) hx hb dX0_passTick_118 (by decide) ?_
            refine va_iald hx hb hK hP 1 0 rfl rfl (i := 96) (vp_in_iff.mpr (by decide)) dX0_passTick_120 ?_
            refine q_top (y := ((upd (o_59) (8 + o_56).toNatClampNeg (fu 2)) 96)) rfl ?_
            refine lv_iconst (v := 1) hx hb dX0_passTick_121 (by decide) ?_
            refine lv_iadd hx hb dX0_passTick_122 ?_
            refine lv_sipush (v := 9999) hx hb dX0_passTick_123 (by decide) ?_
            refine va_mmin hx hb (by rw [hml, hl.1]) hown (hts (.methodLink RX0 114 Lib.Math.min.name) (List.mem_cons_of_mem _ m_770)) (hts (.static Lib.Math.min.name) (List.mem_cons_of_mem _ m_227)) (hts (.initialized "java/lang/Math") (List.mem_cons_of_mem _ m_224)) (hts (.code Lib.Math.min.name Lib.Math.min.code 2 (some .int)) (List.mem_cons_of_mem _ m_228)) (Nat.le_of_ble_eq_true rfl) (Nat.le_of_ble_eq_true rfl) (Nat.zero_le _) (Nat.zero_le _) dX0_passTick_126 ?_
            refine va_iast hx hb hK hP hD hS 1 0 rfl rfl (i := 96) (x := (if 9999 < (((upd (o_59) (8 + o_56).toNatClampNeg (fu 2)) 96) + 1) then 9999 else (((upd (o_59) (8 + o_56).toNatClampNeg (fu 2)) 96) + 1))) (vp_in_iff.mpr (by decide)) dX0_passTick_129 (fun H locs hP hD hS => ?_)
            have hP : va_P (dC, dI) vwCl [(g, .inr (0, [.ref r0, .ref h])), (r0, .inl (c0, 98, .inl (upd (upd (o_59) (8 + o_56).toNatClampNeg (fu 2)) 96 (if 9999 < (((upd (o_59) (8 + o_56).toNatClampNeg (fu 2)) 96) + 1) then 9999 else (((upd (o_59) (8 + o_56).toNatClampNeg (fu 2)) 96) + 1))))), (h, .inr (5, [.ref r1, .ref r2, .int dv])), (r1, .inl (c1, 8, .inl fu)), (r2, .inl (c2, 48, .inl fp))] H := hP
            have hD : va_D A [(g, .inr (0, [.ref r0, .ref h])), (r0, .inl (c0, 98, .inl (upd (upd (o_59) (8 + o_56).toNatClampNeg (fu 2)) 96 (if 9999 < (((upd (o_59) (8 + o_56).toNatClampNeg (fu 2)) 96) + 1) then 9999 else (((upd (o_59) (8 + o_56).toNatClampNeg (fu 2)) 96) + 1))))), (h, .inr (5, [.ref r1, .ref r2, .int dv])), (r1, .inl (c1, 8, .inl fu)), (r2, .inl (c2, 48, .inl fp))] := hD
            obtain rfl := Option.some.inj hG
            have hP9 := hP.sub (ws' := [(g, .inr (0, [.ref r0, .ref h])), (r0, .inl (c0, 98, .inl (upd (upd (o_59) (8 + o_56).toNatClampNeg (fu 2)) 96 (if 9999 < (((upd (o_59) (8 + o_56).toNatClampNeg (fu 2)) 96) + 1) then 9999 else (((upd (o_59) (8 + o_56).toNatClampNeg (fu 2)) 96) + 1))))), (h, .inr (5, [.ref r1, .ref r2, .int dv])), (r1, .inl (c1, 8, .inl fu)), (r2, .inl (c2, 48, .inl fp))]) [0, 1, 2, 3, 4] rfl
            have hD9 := hD.sub (ws' := [(g, .inr (0, [.ref r0, .ref h])), (r0, .inl (c0, 98, .inl (upd (upd (o_59) (8 + o_56).toNatClampNeg (fu 2)) 96 (if 9999 < (((upd (o_59) (8 + o_56).toNatClampNeg (fu 2)) 96) + 1) then 9999 else (((upd (o_59) (8 + o_56).toNatClampNeg (fu 2)) 96) + 1))))), (h, .inr (5, [.ref r1, .ref r2, .int dv])), (r1, .inl (c1, 8, .inl fu)), (r2, .inl (c2, 48, .inl fp))]) [0, 1, 2, 3, 4] (by decide) rfl
            have hK9 := hK.sub (tys' := [(c0, .int), (c1, .int), (c2, .int)]) [0, 1, 2] rfl
            exact W.vret hx hb hr (fun t ht hW => ⟨⟨(), rfl, trivial, by rw [ht]; exact hP9, va_K.moved hW.alike hK9, hD9⟩, hS.F ht⟩) hS.2.2 dX0_passTick_130
      · have hG := q_ifp c_46 hG
        refine lv_aload_n hx hb dX0_passTick_40 rfl (lv_at hl 2 rfl) ?_
        refine lv_iload_n hx hb dX0_passTick_41 rfl (lv_at hl 1 rfl) ?_
        obtain ⟨o_62, r_63, hG⟩ := q_bi hG
        refine q_gov2 (wr := []) (va_runV (As := [.int o_3]) (rest := []) ⟨hx, hb, hml, hown, hts⟩ (c_X0_fail l dC dI g r0 h r1 r2 dv c0 (o_44.2) c1 c2 fu fp o_3 (va_A [(g, .inr (0, [.ref r0, .ref h])), (r0, .inl (c0, 98, .inl (o_44.2))), (h, .inr (5, [.ref r1, .ref r2, .int dv])), (r1, .inl (c1, 8, .inl fu)), (r2, .inl (c2, 48, .inl fp))] H.size) o_62 r_63) (cwV 1 hts (q_gV m_834 m_835 m_836 m_33 m_837) rfl rfl rfl hdV_yX0_fail_1 ⟨Nat.le_of_ble_eq_true rfl, Nat.le_of_ble_eq_true rfl⟩) (q_preWV hK hP hD (q := (RX0, TX0, 2)) (ci := 0) (q0 := 0) rfl rfl [0, 1, 2, 3, 4] (by decide) rfl rfl [0, 1, 2] rfl) rfl rfl hl.1 rfl (lv_room (Nat.le_of_ble_eq_true rfl)) dX0_passTick_42 ⟨Nat.le_of_ble_eq_true rfl, Nat.le_of_ble_eq_true rfl⟩) hK hP hD hS hA [0, 1, 2, 3, 4] [] rfl rfl (by decide) (by decide) (fun _ H locs _ hP hD hK9 hS => ?_)
        have hP : va_P (dC, dI) vwCl [(g, .inr (0, [.ref r0, .ref h])), (r0, .inl (c0, 98, .inl (o_62))), (h, .inr (5, [.ref r1, .ref r2, .int dv])), (r1, .inl (c1, 8, .inl fu)), (r2, .inl (c2, 48, .inl fp))] H := hP.sub [0, 1, 2, 3, 4] rfl
        have hD : va_D A [(g, .inr (0, [.ref r0, .ref h])), (r0, .inl (c0, 98, .inl (o_62))), (h, .inr (5, [.ref r1, .ref r2, .int dv])), (r1, .inl (c1, 8, .inl fu)), (r2, .inl (c2, 48, .inl fp))] := hD.sub [0, 1, 2, 3, 4] (by decide) rfl
        refine lv_goto (tgt := 62) hx hb dX0_passTick_45 (by decide) ?_
        refine lv_aload_n hx hb dX0_passTick_62 rfl (lv_at hl 2 rfl) ?_
        obtain ⟨o_64, r_65, hG⟩ := q_bi hG
        refine q_goi (v := o_64) (va_runV (As := []) (rest := []) ⟨hx, hb, hml, hown, hts⟩ (c_X0_standing l dC dI g r0 h r1 r2 dv c0 (o_62) c1 c2 fu fp o_64 r_65) (cwV 0 hts (q_gV m_820 m_821 m_822 m_33 m_823) rfl rfl rfl hdV_yX0_standing_0 ⟨Nat.le_of_ble_eq_true rfl, Nat.le_of_ble_eq_true rfl⟩) (q_preV hK hP (q := (RX0, TX0, 2)) (ci := 0) (q0 := 0) rfl rfl [0, 1, 2, 3, 4] rfl [0, 1, 2] rfl) rfl rfl hl.1 rfl (lv_room (Nat.le_of_ble_eq_true rfl)) dX0_passTick_63 ⟨Nat.le_of_ble_eq_true rfl, Nat.le_of_ble_eq_true rfl⟩) hP hS (fun H locs hP hS => ?_)
        refine lv_iconst (v := (-1)) hx hb dX0_passTick_66 (by decide) ?_
        refine lv_icmp_ne (tgt := 77) hx hb dX0_passTick_67 (by decide) (fun c_66 => ?_) (fun c_66 => ?_)
        · have hG := q_ifn c_66 hG
          refine lv_iconst (v := (-1)) hx hb dX0_passTick_77 (by decide) ?_
          refine lv_istore_n (lv' := [(2, .int (-1)), (1, .int o_3), (0, .ref g)]) hx hb dX0_passTick_78 rfl hl (by decide) rfl (fun ls hl => ?_)
          refine lv_iload_n hx hb dX0_passTick_79 rfl (lv_at hl 0 rfl) ?_
          refine lv_iconst (v := (-1)) hx hb dX0_passTick_80 (by decide) ?_
          refine lv_icmp_eq (tgt := 108) hx hb dX0_passTick_81 (by decide) (fun c_67 => ?_) (fun c_67 => ?_)
          rotate_left
          · exact absurd (by decide) c_67
          refine lv_aload_n hx hb dX0_passTick_108 rfl (lv_at hl 2 rfl) ?_
          refine va_get (D := (dC, dI)) (ci := 0) (v := .ref r0) (C := RX0) (T := TX0) (N := 2) hx hb hts iA_0 hown hK hP 0 rfl rfl 0 (by decide) (hts (.fieldLink RX0 11 "HubTree$Bus" "row" "[I") (List.mem_cons_of_mem _ m_88)) (fun _ h9 => h9) rfl dX0_passTick_109 ?_
          refine lv_bipush (v := 96) hx hb dX0_passTick_112 (by decide) ?_
          refine lv_aload_n hx hb dX0_passTick_114 rfl (lv_at hl 2 rfl) ?_
          refine va_get (D := (dC, dI)) (ci := 0) (v := .ref r0) (C := RX0) (T := TX0) (N := 2) hx hb hts iA_0 hown hK hP 0 rfl rfl 0 (by decide) (hts (.fieldLink RX0 11 "HubTree$Bus" "row" "[I") (List.mem_cons_of_mem _ m_88)) (fun _ h9 => h9) rfl dX0_passTick_115 ?_
          refine lv_bipush (v := 96) hx hb dX0_passTick_118 (by decide) ?_
          refine va_iald hx hb hK hP 1 0 rfl rfl (i := 96) (vp_in_iff.mpr (by decide)) dX0_passTick_120 ?_
          refine q_top (y := ((o_62) 96)) rfl ?_
          refine lv_iconst (v := 1) hx hb dX0_passTick_121 (by decide) ?_
          refine lv_iadd hx hb dX0_passTick_122 ?_
          refine lv_sipush (v := 9999) hx hb dX0_passTick_123 (by decide) ?_
          refine va_mmin hx hb (by rw [hml, hl.1]) hown (hts (.methodLink RX0 114 Lib.Math.min.name) (List.mem_cons_of_mem _ m_770)) (hts (.static Lib.Math.min.name) (List.mem_cons_of_mem _ m_227)) (hts (.initialized "java/lang/Math") (List.mem_cons_of_mem _ m_224)) (hts (.code Lib.Math.min.name Lib.Math.min.code 2 (some .int)) (List.mem_cons_of_mem _ m_228)) (Nat.le_of_ble_eq_true rfl) (Nat.le_of_ble_eq_true rfl) (Nat.zero_le _) (Nat.zero_le _) dX0_passTick_126 ?_
          refine va_iast hx hb hK hP hD hS 1 0 rfl rfl (i := 96) (x := (if 9999 < (((o_62) 96) + 1) then 9999 else (((o_62) 96) + 1))) (vp_in_iff.mpr (by decide)) dX0_passTick_129 (fun H locs hP hD hS => ?_)
          have hP : va_P (dC, dI) vwCl [(g, .inr (0, [.ref r0, .ref h])), (r0, .inl (c0, 98, .inl (upd (o_62) 96 (if 9999 < (((o_62) 96) + 1) then 9999 else (((o_62) 96) + 1))))), (h, .inr (5, [.ref r1, .ref r2, .int dv])), (r1, .inl (c1, 8, .inl fu)), (r2, .inl (c2, 48, .inl fp))] H := hP
          have hD : va_D A [(g, .inr (0, [.ref r0, .ref h])), (r0, .inl (c0, 98, .inl (upd (o_62) 96 (if 9999 < (((o_62) 96) + 1) then 9999 else (((o_62) 96) + 1))))), (h, .inr (5, [.ref r1, .ref r2, .int dv])), (r1, .inl (c1, 8, .inl fu)), (r2, .inl (c2, 48, .inl fp))] := hD
          obtain rfl := Option.some.inj hG
          have hP9 := hP.sub (ws' := [(g, .inr (0, [.ref r0, .ref h])), (r0, .inl (c0, 98, .inl (upd (o_62) 96 (if 9999 < (((o_62) 96) + 1) then 9999 else (((o_62) 96) + 1))))), (h, .inr (5, [.ref r1, .ref r2, .int dv])), (r1, .inl (c1, 8, .inl fu)), (r2, .inl (c2, 48, .inl fp))]) [0, 1, 2, 3, 4] rfl
          have hD9 := hD.sub (ws' := [(g, .inr (0, [.ref r0, .ref h])), (r0, .inl (c0, 98, .inl (upd (o_62) 96 (if 9999 < (((o_62) 96) + 1) then 9999 else (((o_62) 96) + 1))))), (h, .inr (5, [.ref r1, .ref r2, .int dv])), (r1, .inl (c1, 8, .inl fu)), (r2, .inl (c2, 48, .inl fp))]) [0, 1, 2, 3, 4] (by decide) rfl
          have hK9 := hK.sub (tys' := [(c0, .int), (c1, .int), (c2, .int)]) [0, 1, 2] rfl
          exact W.vret hx hb hr (fun t ht hW => ⟨⟨(), rfl, trivial, by rw [ht]; exact hP9, va_K.moved hW.alike hK9, hD9⟩, hS.F ht⟩) hS.2.2 dX0_passTick_130
        · have hG := q_ifp c_66 hG
          refine lv_aload_n hx hb dX0_passTick_70 rfl (lv_at hl 2 rfl) ?_
          obtain ⟨o_68, r_69, hG⟩ := q_bi hG
          refine q_goi (v := o_68) (va_runV (As := []) (rest := []) ⟨hx, hb, hml, hown, hts⟩ (c_X0_firstInLine l dC dI g r0 h r1 r2 dv c0 (o_62) c1 c2 fu fp o_68 r_69) (cwV 0 hts (q_gV m_856 m_857 m_858 m_33 m_859) rfl rfl rfl hdV_yX0_firstInLine_0 ⟨Nat.le_of_ble_eq_true rfl, Nat.le_of_ble_eq_true rfl⟩) (q_preV hK hP (q := (RX0, TX0, 2)) (ci := 0) (q0 := 0) rfl rfl [0, 1, 2, 3, 4] rfl [0, 1, 2] rfl) rfl rfl hl.1 rfl (lv_room (Nat.le_of_ble_eq_true rfl)) dX0_passTick_71 ⟨Nat.le_of_ble_eq_true rfl, Nat.le_of_ble_eq_true rfl⟩) hP hS (fun H locs hP hS => ?_)
          refine lv_goto (tgt := 78) hx hb dX0_passTick_74 (by decide) ?_
          refine lv_istore_n (lv' := [(2, .int o_68), (1, .int o_3), (0, .ref g)]) hx hb dX0_passTick_78 rfl hl (by decide) rfl (fun ls hl => ?_)
          refine lv_iload_n hx hb dX0_passTick_79 rfl (lv_at hl 0 rfl) ?_
          refine lv_iconst (v := (-1)) hx hb dX0_passTick_80 (by decide) ?_
          refine lv_icmp_eq (tgt := 108) hx hb dX0_passTick_81 (by decide) (fun c_70 => ?_) (fun c_70 => ?_)
          · have hG := q_ifp c_70 hG
            refine lv_aload_n hx hb dX0_passTick_108 rfl (lv_at hl 2 rfl) ?_
            refine va_get (D := (dC, dI)) (ci := 0) (v := .ref r0) (C := RX0) (T := TX0) (N := 2) hx hb hts iA_0 hown hK hP 0 rfl rfl 0 (by decide) (hts (.fieldLink RX0 11 "HubTree$Bus" "row" "[I") (List.mem_cons_of_mem _ m_88)) (fun _ h9 => h9) rfl dX0_passTick_109 ?_
            refine lv_bipush (v := 96) hx hb dX0_passTick_112 (by decide) ?_
            refine lv_aload_n hx hb dX0_passTick_114 rfl (lv_at hl 2 rfl) ?_
            refine va_get (D := (dC, dI)) (ci := 0) (v := .ref r0) (C := RX0) (T := TX0) (N := 2) hx hb hts iA_0 hown hK hP 0 rfl rfl 0 (by decide) (hts (.fieldLink RX0 11 "HubTree$Bus" "row" "[I") (List.mem_cons_of_mem _ m_88)) (fun _ h9 => h9) rfl dX0_passTick_115 ?_
            refine lv_bipush (v := 96) hx hb dX0_passTick_118 (by decide) ?_
            refine va_iald hx hb hK hP 1 0 rfl rfl (i := 96) (vp_in_iff.mpr (by decide)) dX0_passTick_120 ?_
            refine q_top (y := ((o_62) 96)) rfl ?_
            refine lv_iconst (v := 1) hx hb dX0_passTick_121 (by decide) ?_
            refine lv_iadd hx hb dX0_passTick_122 ?_
            refine lv_sipush (v := 9999) hx hb dX0_passTick_123 (by decide) ?_
            refine va_mmin hx hb (by rw [hml, hl.1]) hown (hts (.methodLink RX0 114 Lib.Math.min.name) (List.mem_cons_of_mem _ m_770)) (hts (.static Lib.Math.min.name) (List.mem_cons_of_mem _ m_227)) (hts (.initialized "java/lang/Math") (List.mem_cons_of_mem _ m_224)) (hts (.code Lib.Math.min.name Lib.Math.min.code 2 (some .int)) (List.mem_cons_of_mem _ m_228)) (Nat.le_of_ble_eq_true rfl) (Nat.le_of_ble_eq_true rfl) (Nat.zero_le _) (Nat.zero_le _) dX0_passTick_126 ?_
            refine va_iast hx hb hK hP hD hS 1 0 rfl rfl (i := 96) (x := (if 9999 < (((o_62) 96) + 1) then 9999 else (((o_62) 96) + 1))) (vp_in_iff.mpr (by decide)) dX0_passTick_129 (fun H locs hP hD hS => ?_)
            have hP : va_P (dC, dI) vwCl [(g, .inr (0, [.ref r0, .ref h])), (r0, .inl (c0, 98, .inl (upd (o_62) 96 (if 9999 < (((o_62) 96) + 1) then 9999 else (((o_62) 96) + 1))))), (h, .inr (5, [.ref r1, .ref r2, .int dv])), (r1, .inl (c1, 8, .inl fu)), (r2, .inl (c2, 48, .inl fp))] H := hP
            have hD : va_D A [(g, .inr (0, [.ref r0, .ref h])), (r0, .inl (c0, 98, .inl (upd (o_62) 96 (if 9999 < (((o_62) 96) + 1) then 9999 else (((o_62) 96) + 1))))), (h, .inr (5, [.ref r1, .ref r2, .int dv])), (r1, .inl (c1, 8, .inl fu)), (r2, .inl (c2, 48, .inl fp))] := hD
            obtain rfl := Option.some.inj hG
            have hP9 := hP.sub (ws' := [(g, .inr (0, [.ref r0, .ref h])), (r0, .inl (c0, 98, .inl (upd (o_62) 96 (if 9999 < (((o_62) 96) + 1) then 9999 else (((o_62) 96) + 1))))), (h, .inr (5, [.ref r1, .ref r2, .int dv])), (r1, .inl (c1, 8, .inl fu)), (r2, .inl (c2, 48, .inl fp))]) [0, 1, 2, 3, 4] rfl
            have hD9 := hD.sub (ws' := [(g, .inr (0, [.ref r0, .ref h])), (r0, .inl (c0, 98, .inl (upd (o_62) 96 (if 9999 < (((o_62) 96) + 1) then 9999 else (((o_62) 96) + 1))))), (h, .inr (5, [.ref r1, .ref r2, .int dv])), (r1, .inl (c1, 8, .inl fu)), (r2, .inl (c2, 48, .inl fp))]) [0, 1, 2, 3, 4] (by decide) rfl
            have hK9 := hK.sub (tys' := [(c0, .int), (c1, .int), (c2, .int)]) [0, 1, 2] rfl
            exact W.vret hx hb hr (fun t ht hW => ⟨⟨(), rfl, trivial, by rw [ht]; exact hP9, va_K.moved hW.alike hK9, hD9⟩, hS.F ht⟩) hS.2.2 dX0_passTick_130
          · have hG := q_ifn c_70 hG
            refine lv_aload_n hx hb dX0_passTick_84 rfl (lv_at hl 2 rfl) ?_
            refine lv_iload_n hx hb dX0_passTick_85 rfl (lv_at hl 0 rfl) ?_
            refine lv_iconst (v := 3) hx hb dX0_passTick_86 (by decide) ?_
            obtain ⟨o_71, r_72, hG⟩ := q_bi hG
            refine q_gov2 (wr := []) (va_runV (As := [.int o_68, .int 3]) (rest := []) ⟨hx, hb, hml, hown, hts⟩ (c_X0_lower l dC dI g r0 h r1 r2 dv c0 (o_62) c1 c2 fu fp o_68 3 (va_A [(g, .inr (0, [.ref r0, .ref h])), (r0, .inl (c0, 98, .inl (o_62))), (h, .inr (5, [.ref r1, .ref r2, .int dv])), (r1, .inl (c1, 8, .inl fu)), (r2, .inl (c2, 48, .inl fp))] H.size) o_71 r_72) (cwV 2 hts (q_gV m_406 m_407 m_408 m_33 m_409) rfl rfl rfl hdV_yX0_lower_2 ⟨Nat.le_of_ble_eq_true rfl, Nat.le_of_ble_eq_true rfl⟩) (q_preWV hK hP hD (q := (RX0, TX0, 2)) (ci := 0) (q0 := 0) rfl rfl [0, 1, 2, 3, 4] (by decide) rfl rfl [0, 1, 2] rfl) rfl rfl hl.1 rfl (lv_room (Nat.le_of_ble_eq_true rfl)) dX0_passTick_87 ⟨Nat.le_of_ble_eq_true rfl, Nat.le_of_ble_eq_true rfl⟩) hK hP hD hS hA [0, 1, 2, 3, 4] [] rfl rfl (by decide) (by decide) (fun _ H locs _ hP hD hK9 hS => ?_)
            have hP : va_P (dC, dI) vwCl [(g, .inr (0, [.ref r0, .ref h])), (r0, .inl (c0, 98, .inl (o_71))), (h, .inr (5, [.ref r1, .ref r2, .int dv])), (r1, .inl (c1, 8, .inl fu)), (r2, .inl (c2, 48, .inl fp))] H := hP.sub [0, 1, 2, 3, 4] rfl
            have hD : va_D A [(g, .inr (0, [.ref r0, .ref h])), (r0, .inl (c0, 98, .inl (o_71))), (h, .inr (5, [.ref r1, .ref r2, .int dv])), (r1, .inl (c1, 8, .inl fu)), (r2, .inl (c2, 48, .inl fp))] := hD.sub [0, 1, 2, 3, 4] (by decide) rfl
            refine lv_aload_n hx hb dX0_passTick_90 rfl (lv_at hl 2 rfl) ?_
            refine va_get (D := (dC, dI)) (ci := 0) (v := .ref r0) (C := RX0) (T := TX0) (N := 2) hx hb hts iA_0 hown hK hP 0 rfl rfl 0 (by decide) (hts (.fieldLink RX0 11 "HubTree$Bus" "row" "[I") (List.mem_cons_of_mem _ m_88)) (fun _ h9 => h9) rfl dX0_passTick_91 ?_
            refine lv_bipush (v := 8) hx hb dX0_passTick_94 (by decide) ?_
            refine lv_iload_n hx hb dX0_passTick_96 rfl (lv_at hl 0 rfl) ?_
            refine lv_iadd hx hb dX0_passTick_97 ?_
            refine lv_aload_n hx hb dX0_passTick_98 rfl (lv_at hl 2 rfl) ?_
            refine va_get (D := (dC, dI)) (ci := 0) (v := .ref h) (C := RX0) (T := TX0) (N := 2) hx hb hts iA_0 hown hK hP 0 rfl rfl 1 (by decide) (hts (.fieldLink RX0 15 "HubTree$Bus" "plan" "LHubTree$Plan;") (List.mem_cons_of_mem _ m_89)) (fun _ h9 => h9) rfl dX0_passTick_99 ?_
            refine va_get (D := (dC, dI)) (ci := 5) (v := .ref r1) (C := RX5) (T := TX5) (N := 3) hx hb hts iA_5 hown hK hP 2 rfl rfl 0 (by decide) (hts (.fieldLink RX0 84 "HubTree$Plan" "rules" "[I") (List.mem_cons_of_mem _ m_577)) (fun _ h9 => h9) rfl dX0_passTick_102 ?_
            refine lv_iconst (v := 2) hx hb dX0_passTick_105 (by decide) ?_
            refine va_iald hx hb hK hP 3 1 rfl rfl (i := 2) (vp_in_iff.mpr (by decide)) dX0_passTick_106 ?_
            refine q_top (y := (fu 2)) rfl ?_
            obtain ⟨h_73, hG⟩ := q_ix hG
            refine va_iast hx hb hK hP hD hS 1 0 rfl rfl (i := (8 + o_68)) (x := (fu 2)) h_73 dX0_passTick_107 (fun H locs hP hD hS => ?_)
            have hP : va_P (dC, dI) vwCl [(g, .inr (0, [.ref r0, .ref h])), (r0, .inl (c0, 98, .inl (upd (o_71) (8 + o_68).toNatClampNeg (fu 2)))), (h, .inr (5, [.ref r1, .ref r2, .int dv])), (r1, .inl (c1, 8, .inl fu)), (r2, .inl (c2, 48, .inl fp))] H := hP
            have hD : va_D A [(g, .inr (0, [.ref r0, .ref h])), (r0, .inl (c0, 98, .inl (upd (o_71) (8 + o_68).toNatClampNeg (fu 2)))), (h, .inr (5, [.ref r1, .ref r2, .int dv])), (r1, .inl (c1, 8, .inl fu)), (r2, .inl (c2, 48, .inl fp))] := hD
            refine lv_aload_n hx hb dX0_passTick_108 rfl (lv_at hl 2 rfl) ?_
            refine va_get (D := (dC, dI)) (ci := 0) (v := .ref r0) (C := RX0) (T := TX0) (N := 2) hx hb hts iA_0 hown hK hP 0 rfl rfl 0 (by decide) (hts (.fieldLink RX0 11 "HubTree$Bus" "row" "[I") (List.mem_cons_of_mem _ m_88)) (fun _ h9 => h9) rfl dX0_passTick_109 ?_
            refine lv_bipush (v := 96) hx hb dX0_passTick_112 (by decide) ?_
            refine lv_aload_n hx hb dX0_passTick_114 rfl (lv_at hl 2 rfl) ?_
            refine va_get (D := (dC, dI)) (ci := 0) (v := .ref r0) (C := RX0) (T := TX0) (N := 2) hx hb hts iA_0 hown hK hP 0 rfl rfl 0 (by decide) (hts (.fieldLink RX0 11 "HubTree$Bus" "row" "[I") (List.mem_cons_of_mem _ m_88)) (fun _ h9 => h9) rfl dX0_passTick_115 ?_
            refine lv_bipush (v := 96) hx hb dX0_passTick_118 (by decide) ?_
            refine va_iald hx hb hK hP 1 0 rfl rfl (i := 96) (vp_in_iff.mpr (by decide)) dX0_passTick_120 ?_
            refine q_top (y := ((upd (o_71) (8 + o_68).toNatClampNeg (fu 2)) 96)) rfl ?_
            refine lv_iconst (v := 1) hx hb dX0_passTick_121 (by decide) ?_
            refine lv_iadd hx hb dX0_passTick_122 ?_
            refine lv_sipush (v := 9999) hx hb dX0_passTick_123 (by decide) ?_
            refine va_mmin hx hb (by rw [hml, hl.1]) hown (hts (.methodLink RX0 114 Lib.Math.min.name) (List.mem_cons_of_mem _ m_770)) (hts (.static Lib.Math.min.name) (List.mem_cons_of_mem _ m_227)) (hts (.initialized "java/lang/Math") (List.mem_cons_of_mem _ m_224)) (hts (.code Lib.Math.min.name Lib.Math.min.code 2 (some .int)) (List.mem_cons_of_mem _ m_228)) (Nat.le_of_ble_eq_true rfl) (Nat.le_of_ble_eq_true rfl) (Nat.zero_le _) (Nat.zero_le _) dX0_passTick_126 ?_
            refine va_iast hx hb hK hP hD hS 1 0 rfl rfl (i := 96) (x := (if 9999 < (((upd (o_71) (8 + o_68).toNatClampNeg (fu 2)) 96) + 1) then 9999 else (((upd (o_71) (8 + o_68).toNatClampNeg (fu 2)) 96) + 1))) (vp_in_iff.mpr (by decide)) dX0_passTick_129 (fun H locs hP hD hS => ?_)
            have hP : va_P (dC, dI) vwCl [(g, .inr (0, [.ref r0, .ref h])), (r0, .inl (c0, 98, .inl (upd (upd (o_71) (8 + o_68).toNatClampNeg (fu 2)) 96 (if 9999 < (((upd (o_71) (8 + o_68).toNatClampNeg (fu 2)) 96) + 1) then 9999 else (((upd (o_71) (8 + o_68).toNatClampNeg (fu 2)) 96) + 1))))), (h, .inr (5, [.ref r1, .ref r2, .int dv])), (r1, .inl (c1, 8, .inl fu)), (r2, .inl (c2, 48, .inl fp))] H := hP
            have hD : va_D A [(g, .inr (0, [.ref r0, .ref h])), (r0, .inl (c0, 98, .inl (upd (upd (o_71) (8 + o_68).toNatClampNeg (fu 2)) 96 (if 9999 < (((upd (o_71) (8 + o_68).toNatClampNeg (fu 2)) 96) + 1) then 9999 else (((upd (o_71) (8 + o_68).toNatClampNeg (fu 2)) 96) + 1))))), (h, .inr (5, [.ref r1, .ref r2, .int dv])), (r1, .inl (c1, 8, .inl fu)), (r2, .inl (c2, 48, .inl fp))] := hD
            obtain rfl := Option.some.inj hG
            have hP9 := hP.sub (ws' := [(g, .inr (0, [.ref r0, .ref h])), (r0, .inl (c0, 98, .inl (upd (upd (o_71) (8 + o_68).toNatClampNeg (fu 2)) 96 (if 9999 < (((upd (o_71) (8 + o_68).toNatClampNeg (fu 2)) 96) + 1) then 9999 else (((upd (o_71) (8 + o_68).toNatClampNeg (fu 2)) 96) + 1))))), (h, .inr (5, [.ref r1, .ref r2, .int dv])), (r1, .inl (c1, 8, .inl fu)), (r2, .inl (c2, 48, .inl fp))]) [0, 1, 2, 3, 4] rfl
            have hD9 := hD.sub (ws' := [(g, .inr (0, [.ref r0, .ref h])), (r0, .inl (c0, 98, .inl (upd (upd (o_71) (8 + o_68).toNatClampNeg (fu 2)) 96 (if 9999 < (((upd (o_71) (8 + o_68).toNatClampNeg (fu 2)) 96) + 1) then 9999 else (((upd (o_71) (8 + o_68).toNatClampNeg (fu 2)) 96) + 1))))), (h, .inr (5, [.ref r1, .ref r2, .int dv])), (r1, .inl (c1, 8, .inl fu)), (r2, .inl (c2, 48, .inl fp))]) [0, 1, 2, 3, 4] (by decide) rfl
            have hK9 := hK.sub (tys' := [(c0, .int), (c1, .int), (c2, .int)]) [0, 1, 2] rfl
            exact W.vret hx hb hr (fun t ht hW => ⟨⟨(), rfl, trivial, by rw [ht]; exact hP9, va_K.moved hW.alike hK9, hD9⟩, hS.F ht⟩) hS.2.2 dX0_passTick_130
