theorem dJ7_fill_53178_0 : decode cJ7_fill_53178 0 = .ok (.iconst 0, 1) := q_o3 (by decide +kernel)
theorem dJ7_fill_53178_1 : decode cJ7_fill_53178 1 = .ok (.istore_n 2, 1) := q_o61 (by decide +kernel)
theorem dJ7_fill_53178_2 : decode cJ7_fill_53178 2 = .ok (.aload_n 0, 1) := q_o42 (by decide +kernel)
theorem dJ7_fill_53178_3 : decode cJ7_fill_53178 3 = .ok (.arraylength, 1) := by decide +kernel
theorem dJ7_fill_53178_4 : decode cJ7_fill_53178 4 = .ok (.istore_n 3, 1) := q_o62 (by decide +kernel)
theorem dJ7_fill_53178_5 : decode cJ7_fill_53178 5 = .ok (.iload_n 2, 1) := q_o28 (by decide +kernel)
theorem dJ7_fill_53178_6 : decode cJ7_fill_53178 6 = .ok (.iload_n 3, 1) := q_o29 (by decide +kernel)
theorem dJ7_fill_53178_7 : decode cJ7_fill_53178 7 = .ok (.if_icmp .ge 13, 3) := q_o162 (a := 0) (b := 13) (by decide +kernel) rfl
theorem dJ7_fill_53178_10 : decode cJ7_fill_53178 10 = .ok (.aload_n 0, 1) := q_o42 (by decide +kernel)
theorem dJ7_fill_53178_11 : decode cJ7_fill_53178 11 = .ok (.iload_n 2, 1) := q_o28 (by decide +kernel)
theorem dJ7_fill_53178_12 : decode cJ7_fill_53178 12 = .ok (.iload_n 1, 1) := q_o27 (by decide +kernel)
theorem dJ7_fill_53178_13 : decode cJ7_fill_53178 13 = .ok (.iastore, 1) := q_o79 (by decide +kernel)
theorem dJ7_fill_53178_14 : decode cJ7_fill_53178 14 = .ok (.iinc 2 1, 3) := q_o132 (a := 2) (b := 1) (by decide +kernel) rfl
theorem dJ7_fill_53178_17 : decode cJ7_fill_53178 17 = .ok (.goto (-12), 3) := q_o167 (a := 255) (b := 244) (by decide +kernel) rfl
theorem dJ7_fill_53178_20 : decode cJ7_fill_53178 20 = .ok (.return_, 1) := q_o177 (by decide +kernel)
theorem dX0_copyFrom_0 : decode cX0_copyFrom 0 = .ok (.aload_n 1, 1) := q_o43 (by decide +kernel)
theorem dX0_copyFrom_1 : decode cX0_copyFrom 1 = .ok (.getfield 11, 3) := q_o180 (a := 0) (b := 11) (by decide +kernel)
theorem dX0_copyFrom_4 : decode cX0_copyFrom 4 = .ok (.iconst 0, 1) := q_o3 (by decide +kernel)
theorem dX0_copyFrom_5 : decode cX0_copyFrom 5 = .ok (.aload_n 0, 1) := q_o42 (by decide +kernel)
theorem dX0_copyFrom_6 : decode cX0_copyFrom 6 = .ok (.getfield 11, 3) := q_o180 (a := 0) (b := 11) (by decide +kernel)
theorem dX0_copyFrom_9 : decode cX0_copyFrom 9 = .ok (.iconst 0, 1) := q_o3 (by decide +kernel)
theorem dX0_copyFrom_10 : decode cX0_copyFrom 10 = .ok (.bipush 98, 2) := q_o16 (a := 98) (by decide +kernel) rfl
theorem dX0_copyFrom_12 : decode cX0_copyFrom 12 = .ok (.invokestatic 36, 3) := q_o184 (a := 0) (b := 36) (by decide +kernel)
theorem dX0_copyFrom_15 : decode cX0_copyFrom 15 = .ok (.return_, 1) := q_o177 (by decide +kernel)
theorem dX0_renew_0 : decode cX0_renew 0 = .ok (.aload_n 0, 1) := q_o42 (by decide +kernel)
theorem dX0_renew_1 : decode cX0_renew 1 = .ok (.getfield 11, 3) := q_o180 (a := 0) (b := 11) (by decide +kernel)
theorem dX0_renew_4 : decode cX0_renew 4 = .ok (.iconst 0, 1) := q_o3 (by decide +kernel)
theorem dX0_renew_5 : decode cX0_renew 5 = .ok (.invokestatic 19, 3) := q_o184 (a := 0) (b := 19) (by decide +kernel)
theorem dX0_renew_8 : decode cX0_renew 8 = .ok (.iconst 0, 1) := q_o3 (by decide +kernel)
theorem dX0_renew_9 : decode cX0_renew 9 = .ok (.istore_n 1, 1) := q_o60 (by decide +kernel)
theorem dX0_renew_10 : decode cX0_renew 10 = .ok (.iload_n 1, 1) := q_o27 (by decide +kernel)
theorem dX0_renew_11 : decode cX0_renew 11 = .ok (.aload_n 0, 1) := q_o42 (by decide +kernel)
theorem dX0_renew_12 : decode cX0_renew 12 = .ok (.getfield 15, 3) := q_o180 (a := 0) (b := 15) (by decide +kernel)
theorem dX0_renew_15 : decode cX0_renew 15 = .ok (.getfield 25, 3) := q_o180 (a := 0) (b := 25) (by decide +kernel)
theorem dX0_renew_18 : decode cX0_renew 18 = .ok (.if_icmp .ge 56, 3) := q_o162 (a := 0) (b := 56) (by decide +kernel) rfl
theorem dX0_renew_21 : decode cX0_renew 21 = .ok (.aload_n 0, 1) := q_o42 (by decide +kernel)
theorem dX0_renew_22 : decode cX0_renew 22 = .ok (.iload_n 1, 1) := q_o27 (by decide +kernel)
theorem dX0_renew_23 : decode cX0_renew 23 = .ok (.invokevirtual 31, 3) := q_o182 (a := 0) (b := 31) (by decide +kernel)
theorem dX0_renew_26 : decode cX0_renew 26 = .ok (.aload_n 0, 1) := q_o42 (by decide +kernel)
theorem dX0_renew_27 : decode cX0_renew 27 = .ok (.getfield 11, 3) := q_o180 (a := 0) (b := 11) (by decide +kernel)
theorem dX0_renew_30 : decode cX0_renew 30 = .ok (.bipush 72, 2) := q_o16 (a := 72) (by decide +kernel) rfl
theorem dX0_renew_32 : decode cX0_renew 32 = .ok (.iload_n 1, 1) := q_o27 (by decide +kernel)
theorem dX0_renew_33 : decode cX0_renew 33 = .ok (.iadd, 1) := q_o96 (by decide +kernel)
theorem dX0_renew_34 : decode cX0_renew 34 = .ok (.aload_n 0, 1) := q_o42 (by decide +kernel)
theorem dX0_renew_35 : decode cX0_renew 35 = .ok (.getfield 15, 3) := q_o180 (a := 0) (b := 15) (by decide +kernel)
theorem dX0_renew_38 : decode cX0_renew 38 = .ok (.getfield 35, 3) := q_o180 (a := 0) (b := 35) (by decide +kernel)
theorem dX0_renew_41 : decode cX0_renew 41 = .ok (.bipush 24, 2) := q_o16 (a := 24) (by decide +kernel) rfl
theorem dX0_renew_43 : decode cX0_renew 43 = .ok (.iload_n 1, 1) := q_o27 (by decide +kernel)
theorem dX0_renew_44 : decode cX0_renew 44 = .ok (.iadd, 1) := q_o96 (by decide +kernel)
theorem dX0_renew_45 : decode cX0_renew 45 = .ok (.iaload, 1) := q_o46 (by decide +kernel)
theorem dX0_renew_46 : decode cX0_renew 46 = .ok (.iastore, 1) := q_o79 (by decide +kernel)
theorem dX0_renew_47 : decode cX0_renew 47 = .ok (.aload_n 0, 1) := q_o42 (by decide +kernel)
theorem dX0_renew_48 : decode cX0_renew 48 = .ok (.getfield 11, 3) := q_o180 (a := 0) (b := 11) (by decide +kernel)
theorem dX0_renew_51 : decode cX0_renew 51 = .ok (.bipush 80, 2) := q_o16 (a := 80) (by decide +kernel) rfl
theorem dX0_renew_53 : decode cX0_renew 53 = .ok (.iload_n 1, 1) := q_o27 (by decide +kernel)
theorem dX0_renew_54 : decode cX0_renew 54 = .ok (.iadd, 1) := q_o96 (by decide +kernel)
theorem dX0_renew_55 : decode cX0_renew 55 = .ok (.aload_n 0, 1) := q_o42 (by decide +kernel)
theorem dX0_renew_56 : decode cX0_renew 56 = .ok (.getfield 15, 3) := q_o180 (a := 0) (b := 15) (by decide +kernel)
theorem dX0_renew_59 : decode cX0_renew 59 = .ok (.getfield 35, 3) := q_o180 (a := 0) (b := 35) (by decide +kernel)
theorem dX0_renew_62 : decode cX0_renew 62 = .ok (.bipush 40, 2) := q_o16 (a := 40) (by decide +kernel) rfl
theorem dX0_renew_64 : decode cX0_renew 64 = .ok (.iload_n 1, 1) := q_o27 (by decide +kernel)
theorem dX0_renew_65 : decode cX0_renew 65 = .ok (.iadd, 1) := q_o96 (by decide +kernel)
theorem dX0_renew_66 : decode cX0_renew 66 = .ok (.iaload, 1) := q_o46 (by decide +kernel)
theorem dX0_renew_67 : decode cX0_renew 67 = .ok (.iastore, 1) := q_o79 (by decide +kernel)
theorem dX0_renew_68 : decode cX0_renew 68 = .ok (.iinc 1 1, 3) := q_o132 (a := 1) (b := 1) (by decide +kernel) rfl
theorem dX0_renew_71 : decode cX0_renew 71 = .ok (.goto (-61), 3) := q_o167 (a := 255) (b := 195) (by decide +kernel) rfl
theorem dX0_renew_74 : decode cX0_renew 74 = .ok (.return_, 1) := q_o177 (by decide +kernel)
theorem dX1_copyFrom_0 : decode cX1_copyFrom 0 = .ok (.aload_n 1, 1) := q_o43 (by decide +kernel)
theorem dX1_copyFrom_1 : decode cX1_copyFrom 1 = .ok (.getfield 11, 3) := q_o180 (a := 0) (b := 11) (by decide +kernel)
theorem dX1_copyFrom_4 : decode cX1_copyFrom 4 = .ok (.iconst 0, 1) := q_o3 (by decide +kernel)
theorem dX1_copyFrom_5 : decode cX1_copyFrom 5 = .ok (.aload_n 0, 1) := q_o42 (by decide +kernel)
theorem dX1_copyFrom_6 : decode cX1_copyFrom 6 = .ok (.getfield 11, 3) := q_o180 (a := 0) (b := 11) (by decide +kernel)
theorem dX1_copyFrom_9 : decode cX1_copyFrom 9 = .ok (.iconst 0, 1) := q_o3 (by decide +kernel)
theorem dX1_copyFrom_10 : decode cX1_copyFrom 10 = .ok (.aload_n 0, 1) := q_o42 (by decide +kernel)
theorem dX1_copyFrom_11 : decode cX1_copyFrom 11 = .ok (.getfield 11, 3) := q_o180 (a := 0) (b := 11) (by decide +kernel)
theorem dX1_copyFrom_14 : decode cX1_copyFrom 14 = .ok (.arraylength, 1) := by decide +kernel
theorem dX1_copyFrom_15 : decode cX1_copyFrom 15 = .ok (.invokestatic 28, 3) := q_o184 (a := 0) (b := 28) (by decide +kernel)
theorem dX1_copyFrom_18 : decode cX1_copyFrom 18 = .ok (.aload_n 0, 1) := q_o42 (by decide +kernel)
theorem dX1_copyFrom_19 : decode cX1_copyFrom 19 = .ok (.aload_n 1, 1) := q_o43 (by decide +kernel)
theorem dX1_copyFrom_20 : decode cX1_copyFrom 20 = .ok (.getfield 15, 3) := q_o180 (a := 0) (b := 15) (by decide +kernel)
theorem dX1_copyFrom_23 : decode cX1_copyFrom 23 = .ok (.putfield 15, 3) := q_o181 (a := 0) (b := 15) (by decide +kernel)
theorem dX1_copyFrom_26 : decode cX1_copyFrom 26 = .ok (.return_, 1) := q_o177 (by decide +kernel)
theorem dX1_forgetLatest_0 : decode cX1_forgetLatest 0 = .ok (.aload_n 0, 1) := q_o42 (by decide +kernel)
theorem dX1_forgetLatest_1 : decode cX1_forgetLatest 1 = .ok (.aload_n 0, 1) := q_o42 (by decide +kernel)
theorem dX1_forgetLatest_2 : decode cX1_forgetLatest 2 = .ok (.getfield 15, 3) := q_o180 (a := 0) (b := 15) (by decide +kernel)
theorem dX1_forgetLatest_5 : decode cX1_forgetLatest 5 = .ok (.iconst 1, 1) := q_o4 (by decide +kernel)
theorem dX1_forgetLatest_6 : decode cX1_forgetLatest 6 = .ok (.isub, 1) := q_o100 (by decide +kernel)
theorem dX1_forgetLatest_7 : decode cX1_forgetLatest 7 = .ok (.iconst 0, 1) := q_o3 (by decide +kernel)
theorem dX1_forgetLatest_8 : decode cX1_forgetLatest 8 = .ok (.invokestatic 25, 3) := q_o184 (a := 0) (b := 25) (by decide +kernel)
theorem dX1_forgetLatest_11 : decode cX1_forgetLatest 11 = .ok (.putfield 15, 3) := q_o181 (a := 0) (b := 15) (by decide +kernel)
theorem dX1_forgetLatest_14 : decode cX1_forgetLatest 14 = .ok (.return_, 1) := q_o177 (by decide +kernel)
theorem dX1_read_0 : decode cX1_read 0 = .ok (.aload_n 0, 1) := q_o42 (by decide +kernel)
theorem dX1_read_1 : decode cX1_read 1 = .ok (.getfield 11, 3) := q_o180 (a := 0) (b := 11) (by decide +kernel)
theorem dX1_read_4 : decode cX1_read 4 = .ok (.aload_n 0, 1) := q_o42 (by decide +kernel)
theorem dX1_read_5 : decode cX1_read 5 = .ok (.getfield 15, 3) := q_o180 (a := 0) (b := 15) (by decide +kernel)
theorem dX1_read_8 : decode cX1_read 8 = .ok (.iconst 1, 1) := q_o4 (by decide +kernel)
theorem dX1_read_9 : decode cX1_read 9 = .ok (.isub, 1) := q_o100 (by decide +kernel)
theorem dX1_read_10 : decode cX1_read 10 = .ok (.iload_n 1, 1) := q_o27 (by decide +kernel)
theorem dX1_read_11 : decode cX1_read 11 = .ok (.isub, 1) := q_o100 (by decide +kernel)
theorem dX1_read_12 : decode cX1_read 12 = .ok (.bipush 100, 2) := q_o16 (a := 100) (by decide +kernel) rfl
theorem dX1_read_14 : decode cX1_read 14 = .ok (.irem, 1) := by decide +kernel
theorem dX1_read_15 : decode cX1_read 15 = .ok (.iconst 3, 1) := q_o6 (by decide +kernel)
theorem dX1_read_16 : decode cX1_read 16 = .ok (.imul, 1) := q_o104 (by decide +kernel)
theorem dX1_read_17 : decode cX1_read 17 = .ok (.iload_n 2, 1) := q_o28 (by decide +kernel)
theorem dX1_read_18 : decode cX1_read 18 = .ok (.iadd, 1) := q_o96 (by decide +kernel)
theorem dX1_read_19 : decode cX1_read 19 = .ok (.iaload, 1) := q_o46 (by decide +kernel)
theorem dX1_read_20 : decode cX1_read 20 = .ok (.ireturn, 1) := q_o172 (by decide +kernel)
theorem dX1_shown_0 : decode cX1_shown 0 = .ok (.aload_n 0, 1) := q_o42 (by decide +kernel)
theorem dX1_shown_1 : decode cX1_shown 1 = .ok (.getfield 15, 3) := q_o180 (a := 0) (b := 15) (by decide +kernel)
theorem dX1_shown_4 : decode cX1_shown 4 = .ok (.bipush 60, 2) := q_o16 (a := 60) (by decide +kernel) rfl
theorem dX1_shown_6 : decode cX1_shown 6 = .ok (.invokestatic 19, 3) := q_o184 (a := 0) (b := 19) (by decide +kernel)
theorem dX1_shown_9 : decode cX1_shown 9 = .ok (.ireturn, 1) := q_o172 (by decide +kernel)
theorem dX1_write_0 : decode cX1_write 0 = .ok (.aload_n 0, 1) := q_o42 (by decide +kernel)
theorem dX1_write_1 : decode cX1_write 1 = .ok (.getfield 15, 3) := q_o180 (a := 0) (b := 15) (by decide +kernel)
theorem dX1_write_4 : decode cX1_write 4 = .ok (.bipush 100, 2) := q_o16 (a := 100) (by decide +kernel) rfl
theorem dX1_write_6 : decode cX1_write 6 = .ok (.irem, 1) := by decide +kernel
theorem dX1_write_7 : decode cX1_write 7 = .ok (.iconst 3, 1) := q_o6 (by decide +kernel)
theorem dX1_write_8 : decode cX1_write 8 = .ok (.imul, 1) := q_o104 (by decide +kernel)
theorem dX1_write_9 : decode cX1_write 9 = .ok (.istore 4, 2) := q_o54 (a := 4) (by decide +kernel)
theorem dX1_write_11 : decode cX1_write 11 = .ok (.aload_n 0, 1) := q_o42 (by decide +kernel)
theorem dX1_write_12 : decode cX1_write 12 = .ok (.getfield 11, 3) := q_o180 (a := 0) (b := 11) (by decide +kernel)
theorem dX1_write_15 : decode cX1_write 15 = .ok (.iload 4, 2) := q_o21 (a := 4) (by decide +kernel)
theorem dX1_write_17 : decode cX1_write 17 = .ok (.iload_n 1, 1) := q_o27 (by decide +kernel)
theorem dX1_write_18 : decode cX1_write 18 = .ok (.iastore, 1) := q_o79 (by decide +kernel)
theorem dX1_write_19 : decode cX1_write 19 = .ok (.aload_n 0, 1) := q_o42 (by decide +kernel)
theorem dX1_write_20 : decode cX1_write 20 = .ok (.getfield 11, 3) := q_o180 (a := 0) (b := 11) (by decide +kernel)
theorem dX1_write_23 : decode cX1_write 23 = .ok (.iload 4, 2) := q_o21 (a := 4) (by decide +kernel)
theorem dX1_write_25 : decode cX1_write 25 = .ok (.iconst 1, 1) := q_o4 (by decide +kernel)
theorem dX1_write_26 : decode cX1_write 26 = .ok (.iadd, 1) := q_o96 (by decide +kernel)
theorem dX1_write_27 : decode cX1_write 27 = .ok (.iload_n 2, 1) := q_o28 (by decide +kernel)
theorem dX1_write_28 : decode cX1_write 28 = .ok (.iastore, 1) := q_o79 (by decide +kernel)
theorem dX1_write_29 : decode cX1_write 29 = .ok (.aload_n 0, 1) := q_o42 (by decide +kernel)
theorem dX1_write_30 : decode cX1_write 30 = .ok (.getfield 11, 3) := q_o180 (a := 0) (b := 11) (by decide +kernel)
theorem dX1_write_33 : decode cX1_write 33 = .ok (.iload 4, 2) := q_o21 (a := 4) (by decide +kernel)
theorem dX1_write_35 : decode cX1_write 35 = .ok (.iconst 2, 1) := q_o5 (by decide +kernel)
theorem dX1_write_36 : decode cX1_write 36 = .ok (.iadd, 1) := q_o96 (by decide +kernel)
theorem dX1_write_37 : decode cX1_write 37 = .ok (.iload_n 3, 1) := q_o29 (by decide +kernel)
theorem dX1_write_38 : decode cX1_write 38 = .ok (.iastore, 1) := q_o79 (by decide +kernel)
theorem dX1_write_39 : decode cX1_write 39 = .ok (.aload_n 0, 1) := q_o42 (by decide +kernel)
theorem dX1_write_40 : decode cX1_write 40 = .ok (.dup, 1) := q_o89 (by decide +kernel)
theorem dX1_write_41 : decode cX1_write 41 = .ok (.getfield 15, 3) := q_o180 (a := 0) (b := 15) (by decide +kernel)
theorem dX1_write_44 : decode cX1_write 44 = .ok (.iconst 1, 1) := q_o4 (by decide +kernel)
theorem dX1_write_45 : decode cX1_write 45 = .ok (.iadd, 1) := q_o96 (by decide +kernel)
theorem dX1_write_46 : decode cX1_write 46 = .ok (.putfield 15, 3) := q_o181 (a := 0) (b := 15) (by decide +kernel)
theorem dX1_write_49 : decode cX1_write 49 = .ok (.return_, 1) := q_o177 (by decide +kernel)
theorem dX2_next_0 : decode cX2_next 0 = .ok (.aload_n 0, 1) := q_o42 (by decide +kernel)
theorem dX2_next_1 : decode cX2_next 1 = .ok (.aload_n 0, 1) := q_o42 (by decide +kernel)
theorem dX2_next_2 : decode cX2_next 2 = .ok (.getfield 7, 3) := q_o180 (a := 0) (b := 7) (by decide +kernel)
theorem dX2_next_5 : decode cX2_next 5 = .ok (.ldc2_w 13, 3) := by decide +kernel
theorem dX2_next_8 : decode cX2_next 8 = .ok (.lmul, 1) := by decide +kernel
theorem dX2_next_9 : decode cX2_next 9 = .ok (.ldc2_w 15, 3) := by decide +kernel
theorem dX2_next_12 : decode cX2_next 12 = .ok (.ladd, 1) := by decide +kernel
theorem dX2_next_13 : decode cX2_next 13 = .ok (.putfield 7, 3) := q_o181 (a := 0) (b := 7) (by decide +kernel)
theorem dX2_next_16 : decode cX2_next 16 = .ok (.iload_n 1, 1) := q_o27 (by decide +kernel)
theorem dX2_next_17 : decode cX2_next 17 = .ok (.iconst 1, 1) := q_o4 (by decide +kernel)
theorem dX2_next_18 : decode cX2_next 18 = .ok (.if_icmp .ge 7, 3) := q_o162 (a := 0) (b := 7) (by decide +kernel) rfl
theorem dX2_next_21 : decode cX2_next 21 = .ok (.iconst 0, 1) := q_o3 (by decide +kernel)
theorem dX2_next_22 : decode cX2_next 22 = .ok (.goto 14, 3) := q_o167 (a := 0) (b := 14) (by decide +kernel) rfl
theorem dX2_next_25 : decode cX2_next 25 = .ok (.aload_n 0, 1) := q_o42 (by decide +kernel)
theorem dX2_next_26 : decode cX2_next 26 = .ok (.getfield 7, 3) := q_o180 (a := 0) (b := 7) (by decide +kernel)
theorem dX2_next_29 : decode cX2_next 29 = .ok (.bipush 33, 2) := q_o16 (a := 33) (by decide +kernel) rfl
theorem dX2_next_31 : decode cX2_next 31 = .ok (.lushr, 1) := by decide +kernel
theorem dX2_next_32 : decode cX2_next 32 = .ok (.iload_n 1, 1) := q_o27 (by decide +kernel)
theorem dX2_next_33 : decode cX2_next 33 = .ok (.i2l, 1) := by decide +kernel
theorem dX2_next_34 : decode cX2_next 34 = .ok (.lrem, 1) := by decide +kernel
theorem dX2_next_35 : decode cX2_next 35 = .ok (.l2i, 1) := by decide +kernel
theorem dX2_next_36 : decode cX2_next 36 = .ok (.ireturn, 1) := q_o172 (by decide +kernel)
theorem dX3_allBehind_0 : decode cX3_allBehind 0 = .ok (.aload_n 0, 1) := q_o42 (by decide +kernel)
theorem dX3_allBehind_1 : decode cX3_allBehind 1 = .ok (.getfield 15, 3) := q_o180 (a := 0) (b := 15) (by decide +kernel)
theorem dX3_allBehind_4 : decode cX3_allBehind 4 = .ok (.aload_n 0, 1) := q_o42 (by decide +kernel)
theorem dX3_allBehind_5 : decode cX3_allBehind 5 = .ok (.getfield 9, 3) := q_o180 (a := 0) (b := 9) (by decide +kernel)
theorem dX3_allBehind_8 : decode cX3_allBehind 8 = .ok (.invokevirtual 18, 3) := q_o182 (a := 0) (b := 18) (by decide +kernel)
theorem dX3_allBehind_11 : decode cX3_allBehind 11 = .ok (.iconst 0, 1) := q_o3 (by decide +kernel)
theorem dX3_allBehind_12 : decode cX3_allBehind 12 = .ok (.istore_n 3, 1) := q_o62 (by decide +kernel)
theorem dX3_allBehind_13 : decode cX3_allBehind 13 = .ok (.iload_n 3, 1) := q_o29 (by decide +kernel)
theorem dX3_allBehind_14 : decode cX3_allBehind 14 = .ok (.iload_n 1, 1) := q_o27 (by decide +kernel)
theorem dX3_allBehind_15 : decode cX3_allBehind 15 = .ok (.if_icmp .ge 16, 3) := q_o162 (a := 0) (b := 16) (by decide +kernel) rfl
theorem dX3_allBehind_18 : decode cX3_allBehind 18 = .ok (.aload_n 0, 1) := q_o42 (by decide +kernel)
theorem dX3_allBehind_19 : decode cX3_allBehind 19 = .ok (.getfield 15, 3) := q_o180 (a := 0) (b := 15) (by decide +kernel)
theorem dX3_allBehind_22 : decode cX3_allBehind 22 = .ok (.invokevirtual 39, 3) := q_o182 (a := 0) (b := 39) (by decide +kernel)
theorem dX3_allBehind_25 : decode cX3_allBehind 25 = .ok (.iinc 3 1, 3) := q_o132 (a := 3) (b := 1) (by decide +kernel) rfl
theorem dX3_allBehind_28 : decode cX3_allBehind 28 = .ok (.goto (-15), 3) := q_o167 (a := 255) (b := 241) (by decide +kernel) rfl
theorem dX3_allBehind_31 : decode cX3_allBehind 31 = .ok (.aload_n 0, 1) := q_o42 (by decide +kernel)
theorem dX3_allBehind_32 : decode cX3_allBehind 32 = .ok (.getfield 15, 3) := q_o180 (a := 0) (b := 15) (by decide +kernel)
theorem dX3_allBehind_35 : decode cX3_allBehind 35 = .ok (.iload_n 2, 1) := q_o28 (by decide +kernel)
theorem dX3_allBehind_36 : decode cX3_allBehind 36 = .ok (.invokevirtual 42, 3) := q_o182 (a := 0) (b := 42) (by decide +kernel)
theorem dX3_allBehind_39 : decode cX3_allBehind 39 = .ok (.ireturn, 1) := q_o172 (by decide +kernel)
theorem dX3_bestPort_0 : decode cX3_bestPort 0 = .ok (.iconst (-1), 1) := q_o2 (by decide +kernel)
theorem dX3_bestPort_1 : decode cX3_bestPort 1 = .ok (.istore_n 2, 1) := q_o61 (by decide +kernel)
theorem dX3_bestPort_2 : decode cX3_bestPort 2 = .ok (.sipush 200, 3) := q_o17 (a := 0) (b := 200) (by decide +kernel) rfl
theorem dX3_bestPort_5 : decode cX3_bestPort 5 = .ok (.istore_n 3, 1) := q_o62 (by decide +kernel)
theorem dX3_bestPort_6 : decode cX3_bestPort 6 = .ok (.iconst 0, 1) := q_o3 (by decide +kernel)
theorem dX3_bestPort_7 : decode cX3_bestPort 7 = .ok (.istore 4, 2) := q_o54 (a := 4) (by decide +kernel)
theorem dX3_bestPort_9 : decode cX3_bestPort 9 = .ok (.iload 4, 2) := q_o21 (a := 4) (by decide +kernel)
theorem dX3_bestPort_11 : decode cX3_bestPort 11 = .ok (.bipush 8, 2) := q_o16 (a := 8) (by decide +kernel) rfl
theorem dX3_bestPort_13 : decode cX3_bestPort 13 = .ok (.if_icmp .gt 77, 3) := q_o163 (a := 0) (b := 77) (by decide +kernel) rfl
theorem dX3_bestPort_16 : decode cX3_bestPort 16 = .ok (.aload_n 0, 1) := q_o42 (by decide +kernel)
theorem dX3_bestPort_17 : decode cX3_bestPort 17 = .ok (.getfield 9, 3) := q_o180 (a := 0) (b := 9) (by decide +kernel)
theorem dX3_bestPort_20 : decode cX3_bestPort 20 = .ok (.iload 4, 2) := q_o21 (a := 4) (by decide +kernel)
theorem dX3_bestPort_22 : decode cX3_bestPort 22 = .ok (.invokevirtual 46, 3) := q_o182 (a := 0) (b := 46) (by decide +kernel)
theorem dX3_bestPort_25 : decode cX3_bestPort 25 = .ok (.istore 5, 2) := q_o54 (a := 5) (by decide +kernel)
theorem dX3_bestPort_27 : decode cX3_bestPort 27 = .ok (.iload 5, 2) := q_o21 (a := 5) (by decide +kernel)
theorem dX3_bestPort_29 : decode cX3_bestPort 29 = .ok (.iconst (-1), 1) := q_o2 (by decide +kernel)
theorem dX3_bestPort_30 : decode cX3_bestPort 30 = .ok (.if_icmp .eq 54, 3) := q_o159 (a := 0) (b := 54) (by decide +kernel) rfl
theorem dX3_bestPort_33 : decode cX3_bestPort 33 = .ok (.aload_n 0, 1) := q_o42 (by decide +kernel)
theorem dX3_bestPort_34 : decode cX3_bestPort 34 = .ok (.getfield 15, 3) := q_o180 (a := 0) (b := 15) (by decide +kernel)
theorem dX3_bestPort_37 : decode cX3_bestPort 37 = .ok (.aload_n 0, 1) := q_o42 (by decide +kernel)
theorem dX3_bestPort_38 : decode cX3_bestPort 38 = .ok (.getfield 9, 3) := q_o180 (a := 0) (b := 9) (by decide +kernel)
theorem dX3_bestPort_41 : decode cX3_bestPort 41 = .ok (.invokevirtual 18, 3) := q_o182 (a := 0) (b := 18) (by decide +kernel)
theorem dX3_bestPort_44 : decode cX3_bestPort 44 = .ok (.aload_n 0, 1) := q_o42 (by decide +kernel)
theorem dX3_bestPort_45 : decode cX3_bestPort 45 = .ok (.getfield 15, 3) := q_o180 (a := 0) (b := 15) (by decide +kernel)
theorem dX3_bestPort_48 : decode cX3_bestPort 48 = .ok (.iload_n 1, 1) := q_o27 (by decide +kernel)
theorem dX3_bestPort_49 : decode cX3_bestPort 49 = .ok (.iload 4, 2) := q_o21 (a := 4) (by decide +kernel)
theorem dX3_bestPort_51 : decode cX3_bestPort 51 = .ok (.iload 5, 2) := q_o21 (a := 5) (by decide +kernel)
theorem dX3_bestPort_53 : decode cX3_bestPort 53 = .ok (.invokevirtual 49, 3) := q_o182 (a := 0) (b := 49) (by decide +kernel)
theorem dX3_bestPort_56 : decode cX3_bestPort 56 = .ok (.aload_n 0, 1) := q_o42 (by decide +kernel)
theorem dX3_bestPort_57 : decode cX3_bestPort 57 = .ok (.iload_n 1, 1) := q_o27 (by decide +kernel)
theorem dX3_bestPort_58 : decode cX3_bestPort 58 = .ok (.iload_n 3, 1) := q_o29 (by decide +kernel)
theorem dX3_bestPort_59 : decode cX3_bestPort 59 = .ok (.invokevirtual 24, 3) := q_o182 (a := 0) (b := 24) (by decide +kernel)
theorem dX3_bestPort_62 : decode cX3_bestPort 62 = .ok (.istore 6, 2) := q_o54 (a := 6) (by decide +kernel)
theorem dX3_bestPort_64 : decode cX3_bestPort 64 = .ok (.iload 6, 2) := q_o21 (a := 6) (by decide +kernel)
theorem dX3_bestPort_66 : decode cX3_bestPort 66 = .ok (.iconst (-1), 1) := q_o2 (by decide +kernel)
theorem dX3_bestPort_67 : decode cX3_bestPort 67 = .ok (.if_icmp .eq 17, 3) := q_o159 (a := 0) (b := 17) (by decide +kernel) rfl
theorem dX3_bestPort_70 : decode cX3_bestPort 70 = .ok (.bipush 10, 2) := q_o16 (a := 10) (by decide +kernel) rfl
theorem dX3_bestPort_72 : decode cX3_bestPort 72 = .ok (.iload 4, 2) := q_o21 (a := 4) (by decide +kernel)
theorem dX3_bestPort_74 : decode cX3_bestPort 74 = .ok (.imul, 1) := q_o104 (by decide +kernel)
theorem dX3_bestPort_75 : decode cX3_bestPort 75 = .ok (.iload 5, 2) := q_o21 (a := 5) (by decide +kernel)
theorem dX3_bestPort_77 : decode cX3_bestPort 77 = .ok (.iadd, 1) := q_o96 (by decide +kernel)
theorem dX3_bestPort_78 : decode cX3_bestPort 78 = .ok (.istore_n 2, 1) := q_o61 (by decide +kernel)
theorem dX3_bestPort_79 : decode cX3_bestPort 79 = .ok (.iload 6, 2) := q_o21 (a := 6) (by decide +kernel)
theorem dX3_bestPort_81 : decode cX3_bestPort 81 = .ok (.iconst 1, 1) := q_o4 (by decide +kernel)
theorem dX3_bestPort_82 : decode cX3_bestPort 82 = .ok (.isub, 1) := q_o100 (by decide +kernel)
theorem dX3_bestPort_83 : decode cX3_bestPort 83 = .ok (.istore_n 3, 1) := q_o62 (by decide +kernel)
theorem dX3_bestPort_84 : decode cX3_bestPort 84 = .ok (.iinc 4 1, 3) := q_o132 (a := 4) (b := 1) (by decide +kernel) rfl
theorem dX3_bestPort_87 : decode cX3_bestPort 87 = .ok (.goto (-78), 3) := q_o167 (a := 255) (b := 178) (by decide +kernel) rfl
theorem dX3_bestPort_90 : decode cX3_bestPort 90 = .ok (.iload_n 2, 1) := q_o28 (by decide +kernel)
theorem dX3_bestPort_91 : decode cX3_bestPort 91 = .ok (.ireturn, 1) := q_o172 (by decide +kernel)
theorem dX3_lostWithout_0 : decode cX3_lostWithout 0 = .ok (.aload_n 0, 1) := q_o42 (by decide +kernel)
theorem dX3_lostWithout_1 : decode cX3_lostWithout 1 = .ok (.getfield 15, 3) := q_o180 (a := 0) (b := 15) (by decide +kernel)
theorem dX3_lostWithout_4 : decode cX3_lostWithout 4 = .ok (.aload_n 0, 1) := q_o42 (by decide +kernel)
theorem dX3_lostWithout_5 : decode cX3_lostWithout 5 = .ok (.getfield 9, 3) := q_o180 (a := 0) (b := 9) (by decide +kernel)
theorem dX3_lostWithout_8 : decode cX3_lostWithout 8 = .ok (.invokevirtual 18, 3) := q_o182 (a := 0) (b := 18) (by decide +kernel)
theorem dX3_lostWithout_11 : decode cX3_lostWithout 11 = .ok (.aload_n 0, 1) := q_o42 (by decide +kernel)
theorem dX3_lostWithout_12 : decode cX3_lostWithout 12 = .ok (.getfield 15, 3) := q_o180 (a := 0) (b := 15) (by decide +kernel)
theorem dX3_lostWithout_15 : decode cX3_lostWithout 15 = .ok (.iload_n 1, 1) := q_o27 (by decide +kernel)
theorem dX3_lostWithout_16 : decode cX3_lostWithout 16 = .ok (.invokevirtual 58, 3) := q_o182 (a := 0) (b := 58) (by decide +kernel)
theorem dX3_lostWithout_19 : decode cX3_lostWithout 19 = .ok (.aload_n 0, 1) := q_o42 (by decide +kernel)
theorem dX3_lostWithout_20 : decode cX3_lostWithout 20 = .ok (.getfield 9, 3) := q_o180 (a := 0) (b := 9) (by decide +kernel)
theorem dX3_lostWithout_23 : decode cX3_lostWithout 23 = .ok (.bipush 6, 2) := q_o16 (a := 6) (by decide +kernel) rfl
theorem dX3_lostWithout_25 : decode cX3_lostWithout 25 = .ok (.invokevirtual 42, 3) := q_o182 (a := 0) (b := 42) (by decide +kernel)
theorem dX3_lostWithout_28 : decode cX3_lostWithout 28 = .ok (.aload_n 0, 1) := q_o42 (by decide +kernel)
theorem dX3_lostWithout_29 : decode cX3_lostWithout 29 = .ok (.getfield 15, 3) := q_o180 (a := 0) (b := 15) (by decide +kernel)
theorem dX3_lostWithout_32 : decode cX3_lostWithout 32 = .ok (.bipush 6, 2) := q_o16 (a := 6) (by decide +kernel) rfl
theorem dX3_lostWithout_34 : decode cX3_lostWithout 34 = .ok (.invokevirtual 42, 3) := q_o182 (a := 0) (b := 42) (by decide +kernel)
theorem dX3_lostWithout_37 : decode cX3_lostWithout 37 = .ok (.iconst (-1), 1) := q_o2 (by decide +kernel)
theorem dX3_lostWithout_38 : decode cX3_lostWithout 38 = .ok (.ixor, 1) := by decide +kernel
theorem dX3_lostWithout_39 : decode cX3_lostWithout 39 = .ok (.iand, 1) := q_o126 (by decide +kernel)
theorem dX3_lostWithout_40 : decode cX3_lostWithout 40 = .ok (.ireturn, 1) := q_o172 (by decide +kernel)
theorem dX3_nextToRun_0 : decode cX3_nextToRun 0 = .ok (.aload_n 0, 1) := q_o42 (by decide +kernel)
theorem dX3_nextToRun_1 : decode cX3_nextToRun 1 = .ok (.getfield 15, 3) := q_o180 (a := 0) (b := 15) (by decide +kernel)
theorem dX3_nextToRun_4 : decode cX3_nextToRun 4 = .ok (.aload_n 0, 1) := q_o42 (by decide +kernel)
theorem dX3_nextToRun_5 : decode cX3_nextToRun 5 = .ok (.getfield 9, 3) := q_o180 (a := 0) (b := 9) (by decide +kernel)
theorem dX3_nextToRun_8 : decode cX3_nextToRun 8 = .ok (.invokevirtual 18, 3) := q_o182 (a := 0) (b := 18) (by decide +kernel)
theorem dX3_nextToRun_11 : decode cX3_nextToRun 11 = .ok (.iconst 0, 1) := q_o3 (by decide +kernel)
theorem dX3_nextToRun_12 : decode cX3_nextToRun 12 = .ok (.istore_n 2, 1) := q_o61 (by decide +kernel)
theorem dX3_nextToRun_13 : decode cX3_nextToRun 13 = .ok (.iconst 0, 1) := q_o3 (by decide +kernel)
theorem dX3_nextToRun_14 : decode cX3_nextToRun 14 = .ok (.istore_n 3, 1) := q_o62 (by decide +kernel)
theorem dX3_nextToRun_15 : decode cX3_nextToRun 15 = .ok (.iload_n 3, 1) := q_o29 (by decide +kernel)
theorem dX3_nextToRun_16 : decode cX3_nextToRun 16 = .ok (.sipush 200, 3) := q_o17 (a := 0) (b := 200) (by decide +kernel) rfl
theorem dX3_nextToRun_19 : decode cX3_nextToRun 19 = .ok (.if_icmp .ge 92, 3) := q_o162 (a := 0) (b := 92) (by decide +kernel) rfl
theorem dX3_nextToRun_22 : decode cX3_nextToRun 22 = .ok (.aload_n 0, 1) := q_o42 (by decide +kernel)
theorem dX3_nextToRun_23 : decode cX3_nextToRun 23 = .ok (.getfield 15, 3) := q_o180 (a := 0) (b := 15) (by decide +kernel)
theorem dX3_nextToRun_26 : decode cX3_nextToRun 26 = .ok (.invokevirtual 32, 3) := q_o182 (a := 0) (b := 32) (by decide +kernel)
theorem dX3_nextToRun_29 : decode cX3_nextToRun 29 = .ok (.ifCond .ne 82, 3) := q_o154 (a := 0) (b := 82) (by decide +kernel) rfl
theorem dX3_nextToRun_32 : decode cX3_nextToRun 32 = .ok (.aload_n 0, 1) := q_o42 (by decide +kernel)
theorem dX3_nextToRun_33 : decode cX3_nextToRun 33 = .ok (.getfield 15, 3) := q_o180 (a := 0) (b := 15) (by decide +kernel)
theorem dX3_nextToRun_36 : decode cX3_nextToRun 36 = .ok (.invokevirtual 36, 3) := q_o182 (a := 0) (b := 36) (by decide +kernel)
theorem dX3_nextToRun_39 : decode cX3_nextToRun 39 = .ok (.ifCond .ne 72, 3) := q_o154 (a := 0) (b := 72) (by decide +kernel) rfl
theorem dX3_nextToRun_42 : decode cX3_nextToRun 42 = .ok (.aload_n 0, 1) := q_o42 (by decide +kernel)
theorem dX3_nextToRun_43 : decode cX3_nextToRun 43 = .ok (.getfield 15, 3) := q_o180 (a := 0) (b := 15) (by decide +kernel)
theorem dX3_nextToRun_46 : decode cX3_nextToRun 46 = .ok (.bipush 6, 2) := q_o16 (a := 6) (by decide +kernel) rfl
theorem dX3_nextToRun_48 : decode cX3_nextToRun 48 = .ok (.invokevirtual 42, 3) := q_o182 (a := 0) (b := 42) (by decide +kernel)
theorem dX3_nextToRun_51 : decode cX3_nextToRun 51 = .ok (.istore 4, 2) := q_o54 (a := 4) (by decide +kernel)
theorem dX3_nextToRun_53 : decode cX3_nextToRun 53 = .ok (.aload_n 0, 1) := q_o42 (by decide +kernel)
theorem dX3_nextToRun_54 : decode cX3_nextToRun 54 = .ok (.getfield 15, 3) := q_o180 (a := 0) (b := 15) (by decide +kernel)
theorem dX3_nextToRun_57 : decode cX3_nextToRun 57 = .ok (.invokevirtual 39, 3) := q_o182 (a := 0) (b := 39) (by decide +kernel)
theorem dX3_nextToRun_60 : decode cX3_nextToRun 60 = .ok (.aload_n 0, 1) := q_o42 (by decide +kernel)
theorem dX3_nextToRun_61 : decode cX3_nextToRun 61 = .ok (.getfield 15, 3) := q_o180 (a := 0) (b := 15) (by decide +kernel)
theorem dX3_nextToRun_64 : decode cX3_nextToRun 64 = .ok (.bipush 6, 2) := q_o16 (a := 6) (by decide +kernel) rfl
theorem dX3_nextToRun_66 : decode cX3_nextToRun 66 = .ok (.invokevirtual 42, 3) := q_o182 (a := 0) (b := 42) (by decide +kernel)
theorem dX3_nextToRun_69 : decode cX3_nextToRun 69 = .ok (.iload 4, 2) := q_o21 (a := 4) (by decide +kernel)
theorem dX3_nextToRun_71 : decode cX3_nextToRun 71 = .ok (.iconst (-1), 1) := q_o2 (by decide +kernel)
theorem dX3_nextToRun_72 : decode cX3_nextToRun 72 = .ok (.ixor, 1) := by decide +kernel
theorem dX3_nextToRun_73 : decode cX3_nextToRun 73 = .ok (.iand, 1) := q_o126 (by decide +kernel)
theorem dX3_nextToRun_74 : decode cX3_nextToRun 74 = .ok (.istore 5, 2) := q_o54 (a := 5) (by decide +kernel)
theorem dX3_nextToRun_76 : decode cX3_nextToRun 76 = .ok (.iload 5, 2) := q_o21 (a := 5) (by decide +kernel)
theorem dX3_nextToRun_78 : decode cX3_nextToRun 78 = .ok (.ifCond .eq 14, 3) := q_o153 (a := 0) (b := 14) (by decide +kernel) rfl
theorem dX3_nextToRun_81 : decode cX3_nextToRun 81 = .ok (.iload_n 2, 1) := q_o28 (by decide +kernel)
theorem dX3_nextToRun_82 : decode cX3_nextToRun 82 = .ok (.iload_n 1, 1) := q_o27 (by decide +kernel)
theorem dX3_nextToRun_83 : decode cX3_nextToRun 83 = .ok (.if_icmp .ne 9, 3) := q_o160 (a := 0) (b := 9) (by decide +kernel) rfl
theorem dX3_nextToRun_86 : decode cX3_nextToRun 86 = .ok (.iload 5, 2) := q_o21 (a := 5) (by decide +kernel)
theorem dX3_nextToRun_88 : decode cX3_nextToRun 88 = .ok (.invokestatic 53, 3) := q_o184 (a := 0) (b := 53) (by decide +kernel)
theorem dX3_nextToRun_91 : decode cX3_nextToRun 91 = .ok (.ireturn, 1) := q_o172 (by decide +kernel)
theorem dX3_nextToRun_92 : decode cX3_nextToRun 92 = .ok (.iload_n 2, 1) := q_o28 (by decide +kernel)
theorem dX3_nextToRun_93 : decode cX3_nextToRun 93 = .ok (.iload 5, 2) := q_o21 (a := 5) (by decide +kernel)
theorem dX3_nextToRun_95 : decode cX3_nextToRun 95 = .ok (.ifCond .eq 7, 3) := q_o153 (a := 0) (b := 7) (by decide +kernel) rfl
theorem dX3_nextToRun_98 : decode cX3_nextToRun 98 = .ok (.iconst 1, 1) := q_o4 (by decide +kernel)
theorem dX3_nextToRun_99 : decode cX3_nextToRun 99 = .ok (.goto 4, 3) := q_o167 (a := 0) (b := 4) (by decide +kernel) rfl
theorem dX3_nextToRun_102 : decode cX3_nextToRun 102 = .ok (.iconst 0, 1) := q_o3 (by decide +kernel)
theorem dX3_nextToRun_103 : decode cX3_nextToRun 103 = .ok (.iadd, 1) := q_o96 (by decide +kernel)
theorem dX3_nextToRun_104 : decode cX3_nextToRun 104 = .ok (.istore_n 2, 1) := q_o61 (by decide +kernel)
theorem dX3_nextToRun_105 : decode cX3_nextToRun 105 = .ok (.iinc 3 1, 3) := q_o132 (a := 3) (b := 1) (by decide +kernel) rfl
theorem dX3_nextToRun_108 : decode cX3_nextToRun 108 = .ok (.goto (-93), 3) := q_o167 (a := 255) (b := 163) (by decide +kernel) rfl
theorem dX3_nextToRun_111 : decode cX3_nextToRun 111 = .ok (.iconst (-1), 1) := q_o2 (by decide +kernel)
theorem dX3_nextToRun_112 : decode cX3_nextToRun 112 = .ok (.ireturn, 1) := q_o172 (by decide +kernel)
theorem dX3_playTillRunning_0 : decode cX3_playTillRunning 0 = .ok (.iconst 0, 1) := q_o3 (by decide +kernel)
theorem dX3_playTillRunning_1 : decode cX3_playTillRunning 1 = .ok (.istore_n 3, 1) := q_o62 (by decide +kernel)
theorem dX3_playTillRunning_2 : decode cX3_playTillRunning 2 = .ok (.iload_n 3, 1) := q_o29 (by decide +kernel)
theorem dX3_playTillRunning_3 : decode cX3_playTillRunning 3 = .ok (.iload_n 2, 1) := q_o28 (by decide +kernel)
theorem dX3_playTillRunning_4 : decode cX3_playTillRunning 4 = .ok (.if_icmp .gt 53, 3) := q_o163 (a := 0) (b := 53) (by decide +kernel) rfl
theorem dX3_playTillRunning_7 : decode cX3_playTillRunning 7 = .ok (.aload_n 0, 1) := q_o42 (by decide +kernel)
theorem dX3_playTillRunning_8 : decode cX3_playTillRunning 8 = .ok (.getfield 15, 3) := q_o180 (a := 0) (b := 15) (by decide +kernel)
theorem dX3_playTillRunning_11 : decode cX3_playTillRunning 11 = .ok (.iload_n 1, 1) := q_o27 (by decide +kernel)
theorem dX3_playTillRunning_12 : decode cX3_playTillRunning 12 = .ok (.bipush 6, 2) := q_o16 (a := 6) (by decide +kernel) rfl
theorem dX3_playTillRunning_14 : decode cX3_playTillRunning 14 = .ok (.invokevirtual 28, 3) := q_o182 (a := 0) (b := 28) (by decide +kernel)
theorem dX3_playTillRunning_17 : decode cX3_playTillRunning 17 = .ok (.ifCond .eq 5, 3) := q_o153 (a := 0) (b := 5) (by decide +kernel) rfl
theorem dX3_playTillRunning_20 : decode cX3_playTillRunning 20 = .ok (.iload_n 3, 1) := q_o29 (by decide +kernel)
theorem dX3_playTillRunning_21 : decode cX3_playTillRunning 21 = .ok (.ireturn, 1) := q_o172 (by decide +kernel)
theorem dX3_playTillRunning_22 : decode cX3_playTillRunning 22 = .ok (.aload_n 0, 1) := q_o42 (by decide +kernel)
theorem dX3_playTillRunning_23 : decode cX3_playTillRunning 23 = .ok (.getfield 15, 3) := q_o180 (a := 0) (b := 15) (by decide +kernel)
theorem dX3_playTillRunning_26 : decode cX3_playTillRunning 26 = .ok (.invokevirtual 32, 3) := q_o182 (a := 0) (b := 32) (by decide +kernel)
theorem dX3_playTillRunning_29 : decode cX3_playTillRunning 29 = .ok (.ifCond .ne 13, 3) := q_o154 (a := 0) (b := 13) (by decide +kernel) rfl
theorem dX3_playTillRunning_32 : decode cX3_playTillRunning 32 = .ok (.aload_n 0, 1) := q_o42 (by decide +kernel)
theorem dX3_playTillRunning_33 : decode cX3_playTillRunning 33 = .ok (.getfield 15, 3) := q_o180 (a := 0) (b := 15) (by decide +kernel)
theorem dX3_playTillRunning_36 : decode cX3_playTillRunning 36 = .ok (.invokevirtual 36, 3) := q_o182 (a := 0) (b := 36) (by decide +kernel)
theorem dX3_playTillRunning_39 : decode cX3_playTillRunning 39 = .ok (.ifCond .eq 5, 3) := q_o153 (a := 0) (b := 5) (by decide +kernel) rfl
theorem dX3_playTillRunning_42 : decode cX3_playTillRunning 42 = .ok (.iconst (-1), 1) := q_o2 (by decide +kernel)
theorem dX3_playTillRunning_43 : decode cX3_playTillRunning 43 = .ok (.ireturn, 1) := q_o172 (by decide +kernel)
theorem dX3_playTillRunning_44 : decode cX3_playTillRunning 44 = .ok (.aload_n 0, 1) := q_o42 (by decide +kernel)
theorem dX3_playTillRunning_45 : decode cX3_playTillRunning 45 = .ok (.getfield 15, 3) := q_o180 (a := 0) (b := 15) (by decide +kernel)
theorem dX3_playTillRunning_48 : decode cX3_playTillRunning 48 = .ok (.invokevirtual 39, 3) := q_o182 (a := 0) (b := 39) (by decide +kernel)
theorem dX3_playTillRunning_51 : decode cX3_playTillRunning 51 = .ok (.iinc 3 1, 3) := q_o132 (a := 3) (b := 1) (by decide +kernel) rfl
theorem dX3_playTillRunning_54 : decode cX3_playTillRunning 54 = .ok (.goto (-52), 3) := q_o167 (a := 255) (b := 204) (by decide +kernel) rfl
theorem dX3_playTillRunning_57 : decode cX3_playTillRunning 57 = .ok (.iconst (-1), 1) := q_o2 (by decide +kernel)
theorem dX3_playTillRunning_58 : decode cX3_playTillRunning 58 = .ok (.ireturn, 1) := q_o172 (by decide +kernel)
theorem dX3_ticksTillRunning_0 : decode cX3_ticksTillRunning 0 = .ok (.aload_n 0, 1) := q_o42 (by decide +kernel)
theorem dX3_ticksTillRunning_1 : decode cX3_ticksTillRunning 1 = .ok (.getfield 15, 3) := q_o180 (a := 0) (b := 15) (by decide +kernel)
theorem dX3_ticksTillRunning_4 : decode cX3_ticksTillRunning 4 = .ok (.aload_n 0, 1) := q_o42 (by decide +kernel)
theorem dX3_ticksTillRunning_5 : decode cX3_ticksTillRunning 5 = .ok (.getfield 9, 3) := q_o180 (a := 0) (b := 9) (by decide +kernel)
theorem dX3_ticksTillRunning_8 : decode cX3_ticksTillRunning 8 = .ok (.invokevirtual 18, 3) := q_o182 (a := 0) (b := 18) (by decide +kernel)
theorem dX3_ticksTillRunning_11 : decode cX3_ticksTillRunning 11 = .ok (.aload_n 0, 1) := q_o42 (by decide +kernel)
theorem dX3_ticksTillRunning_12 : decode cX3_ticksTillRunning 12 = .ok (.iload_n 1, 1) := q_o27 (by decide +kernel)
theorem dX3_ticksTillRunning_13 : decode cX3_ticksTillRunning 13 = .ok (.sipush 200, 3) := q_o17 (a := 0) (b := 200) (by decide +kernel) rfl
theorem dX3_ticksTillRunning_16 : decode cX3_ticksTillRunning 16 = .ok (.invokevirtual 24, 3) := q_o182 (a := 0) (b := 24) (by decide +kernel)
theorem dX3_ticksTillRunning_19 : decode cX3_ticksTillRunning 19 = .ok (.ireturn, 1) := q_o172 (by decide +kernel)
theorem dX3_ticksTillStill_0 : decode cX3_ticksTillStill 0 = .ok (.aload_n 0, 1) := q_o42 (by decide +kernel)
theorem dX3_ticksTillStill_1 : decode cX3_ticksTillStill 1 = .ok (.getfield 15, 3) := q_o180 (a := 0) (b := 15) (by decide +kernel)
theorem dX3_ticksTillStill_4 : decode cX3_ticksTillStill 4 = .ok (.aload_n 0, 1) := q_o42 (by decide +kernel)
theorem dX3_ticksTillStill_5 : decode cX3_ticksTillStill 5 = .ok (.getfield 9, 3) := q_o180 (a := 0) (b := 9) (by decide +kernel)
theorem dX3_ticksTillStill_8 : decode cX3_ticksTillStill 8 = .ok (.invokevirtual 18, 3) := q_o182 (a := 0) (b := 18) (by decide +kernel)
theorem dX3_ticksTillStill_11 : decode cX3_ticksTillStill 11 = .ok (.iconst 0, 1) := q_o3 (by decide +kernel)
theorem dX3_ticksTillStill_12 : decode cX3_ticksTillStill 12 = .ok (.istore_n 1, 1) := q_o60 (by decide +kernel)
theorem dX3_ticksTillStill_13 : decode cX3_ticksTillStill 13 = .ok (.iload_n 1, 1) := q_o27 (by decide +kernel)
theorem dX3_ticksTillStill_14 : decode cX3_ticksTillStill 14 = .ok (.sipush 200, 3) := q_o17 (a := 0) (b := 200) (by decide +kernel) rfl
theorem dX3_ticksTillStill_17 : decode cX3_ticksTillStill 17 = .ok (.if_icmp .gt 40, 3) := q_o163 (a := 0) (b := 40) (by decide +kernel) rfl
theorem dX3_ticksTillStill_20 : decode cX3_ticksTillStill 20 = .ok (.aload_n 0, 1) := q_o42 (by decide +kernel)
theorem dX3_ticksTillStill_21 : decode cX3_ticksTillStill 21 = .ok (.getfield 15, 3) := q_o180 (a := 0) (b := 15) (by decide +kernel)
theorem dX3_ticksTillStill_24 : decode cX3_ticksTillStill 24 = .ok (.invokevirtual 36, 3) := q_o182 (a := 0) (b := 36) (by decide +kernel)
theorem dX3_ticksTillStill_27 : decode cX3_ticksTillStill 27 = .ok (.ifCond .eq 5, 3) := q_o153 (a := 0) (b := 5) (by decide +kernel) rfl
theorem dX3_ticksTillStill_30 : decode cX3_ticksTillStill 30 = .ok (.iload_n 1, 1) := q_o27 (by decide +kernel)
theorem dX3_ticksTillStill_31 : decode cX3_ticksTillStill 31 = .ok (.ireturn, 1) := q_o172 (by decide +kernel)
theorem dX3_ticksTillStill_32 : decode cX3_ticksTillStill 32 = .ok (.aload_n 0, 1) := q_o42 (by decide +kernel)
theorem dX3_ticksTillStill_33 : decode cX3_ticksTillStill 33 = .ok (.getfield 15, 3) := q_o180 (a := 0) (b := 15) (by decide +kernel)
theorem dX3_ticksTillStill_36 : decode cX3_ticksTillStill 36 = .ok (.invokevirtual 32, 3) := q_o182 (a := 0) (b := 32) (by decide +kernel)
theorem dX3_ticksTillStill_39 : decode cX3_ticksTillStill 39 = .ok (.ifCond .eq 5, 3) := q_o153 (a := 0) (b := 5) (by decide +kernel) rfl
theorem dX3_ticksTillStill_42 : decode cX3_ticksTillStill 42 = .ok (.iconst (-1), 1) := q_o2 (by decide +kernel)
theorem dX3_ticksTillStill_43 : decode cX3_ticksTillStill 43 = .ok (.ireturn, 1) := q_o172 (by decide +kernel)
theorem dX3_ticksTillStill_44 : decode cX3_ticksTillStill 44 = .ok (.aload_n 0, 1) := q_o42 (by decide +kernel)
theorem dX3_ticksTillStill_45 : decode cX3_ticksTillStill 45 = .ok (.getfield 15, 3) := q_o180 (a := 0) (b := 15) (by decide +kernel)
theorem dX3_ticksTillStill_48 : decode cX3_ticksTillStill 48 = .ok (.invokevirtual 39, 3) := q_o182 (a := 0) (b := 39) (by decide +kernel)
theorem dX3_ticksTillStill_51 : decode cX3_ticksTillStill 51 = .ok (.iinc 1 1, 3) := q_o132 (a := 1) (b := 1) (by decide +kernel) rfl
theorem dX3_ticksTillStill_54 : decode cX3_ticksTillStill 54 = .ok (.goto (-41), 3) := q_o167 (a := 255) (b := 215) (by decide +kernel) rfl
theorem dX3_ticksTillStill_57 : decode cX3_ticksTillStill 57 = .ok (.iconst (-1), 1) := q_o2 (by decide +kernel)
theorem dX3_ticksTillStill_58 : decode cX3_ticksTillStill 58 = .ok (.ireturn, 1) := q_o172 (by decide +kernel)
theorem dX4_forget_0 : decode cX4_forget 0 = .ok (.aload_n 0, 1) := q_o42 (by decide +kernel)
theorem dX4_forget_1 : decode cX4_forget 1 = .ok (.iconst 0, 1) := q_o3 (by decide +kernel)
theorem dX4_forget_2 : decode cX4_forget 2 = .ok (.putfield 21, 3) := q_o181 (a := 0) (b := 21) (by decide +kernel)
theorem dX4_forget_5 : decode cX4_forget 5 = .ok (.return_, 1) := q_o177 (by decide +kernel)
theorem dX4_keep_0 : decode cX4_keep 0 = .ok (.aload_n 1, 1) := q_o43 (by decide +kernel)
theorem dX4_keep_1 : decode cX4_keep 1 = .ok (.getfield 24, 3) := q_o180 (a := 0) (b := 24) (by decide +kernel)
theorem dX4_keep_4 : decode cX4_keep 4 = .ok (.iconst 0, 1) := q_o3 (by decide +kernel)
theorem dX4_keep_5 : decode cX4_keep 5 = .ok (.aload_n 0, 1) := q_o42 (by decide +kernel)
theorem dX4_keep_6 : decode cX4_keep 6 = .ok (.getfield 11, 3) := q_o180 (a := 0) (b := 11) (by decide +kernel)
theorem dX4_keep_9 : decode cX4_keep 9 = .ok (.aload_n 0, 1) := q_o42 (by decide +kernel)
theorem dX4_keep_10 : decode cX4_keep 10 = .ok (.getfield 17, 3) := q_o180 (a := 0) (b := 17) (by decide +kernel)
theorem dX4_keep_13 : decode cX4_keep 13 = .ok (.bipush 98, 2) := q_o16 (a := 98) (by decide +kernel) rfl
theorem dX4_keep_15 : decode cX4_keep 15 = .ok (.imul, 1) := q_o104 (by decide +kernel)
theorem dX4_keep_16 : decode cX4_keep 16 = .ok (.bipush 98, 2) := q_o16 (a := 98) (by decide +kernel) rfl
theorem dX4_keep_18 : decode cX4_keep 18 = .ok (.invokestatic 27, 3) := q_o184 (a := 0) (b := 27) (by decide +kernel)
theorem dX4_keep_21 : decode cX4_keep 21 = .ok (.aload_n 0, 1) := q_o42 (by decide +kernel)
theorem dX4_keep_22 : decode cX4_keep 22 = .ok (.aload_n 0, 1) := q_o42 (by decide +kernel)
theorem dX4_keep_23 : decode cX4_keep 23 = .ok (.getfield 17, 3) := q_o180 (a := 0) (b := 17) (by decide +kernel)
theorem dX4_keep_26 : decode cX4_keep 26 = .ok (.iconst 1, 1) := q_o4 (by decide +kernel)
theorem dX4_keep_27 : decode cX4_keep 27 = .ok (.iadd, 1) := q_o96 (by decide +kernel)
theorem dX4_keep_28 : decode cX4_keep 28 = .ok (.bipush 40, 2) := q_o16 (a := 40) (by decide +kernel) rfl
theorem dX4_keep_30 : decode cX4_keep 30 = .ok (.irem, 1) := by decide +kernel
theorem dX4_keep_31 : decode cX4_keep 31 = .ok (.putfield 17, 3) := q_o181 (a := 0) (b := 17) (by decide +kernel)
theorem dX4_keep_34 : decode cX4_keep 34 = .ok (.aload_n 0, 1) := q_o42 (by decide +kernel)
theorem dX4_keep_35 : decode cX4_keep 35 = .ok (.aload_n 0, 1) := q_o42 (by decide +kernel)
theorem dX4_keep_36 : decode cX4_keep 36 = .ok (.getfield 21, 3) := q_o180 (a := 0) (b := 21) (by decide +kernel)
theorem dX4_keep_39 : decode cX4_keep 39 = .ok (.iconst 1, 1) := q_o4 (by decide +kernel)
theorem dX4_keep_40 : decode cX4_keep 40 = .ok (.iadd, 1) := q_o96 (by decide +kernel)
theorem dX4_keep_41 : decode cX4_keep 41 = .ok (.bipush 40, 2) := q_o16 (a := 40) (by decide +kernel) rfl
theorem dX4_keep_43 : decode cX4_keep 43 = .ok (.invokestatic 33, 3) := q_o184 (a := 0) (b := 33) (by decide +kernel)
theorem dX4_keep_46 : decode cX4_keep 46 = .ok (.putfield 21, 3) := q_o181 (a := 0) (b := 21) (by decide +kernel)
theorem dX4_keep_49 : decode cX4_keep 49 = .ok (.return_, 1) := q_o177 (by decide +kernel)
theorem dX4_restore_0 : decode cX4_restore 0 = .ok (.aload_n 0, 1) := q_o42 (by decide +kernel)
theorem dX4_restore_1 : decode cX4_restore 1 = .ok (.getfield 21, 3) := q_o180 (a := 0) (b := 21) (by decide +kernel)
theorem dX4_restore_4 : decode cX4_restore 4 = .ok (.ifCond .le 50, 3) := q_o158 (a := 0) (b := 50) (by decide +kernel) rfl
theorem dX4_restore_7 : decode cX4_restore 7 = .ok (.aload_n 0, 1) := q_o42 (by decide +kernel)
theorem dX4_restore_8 : decode cX4_restore 8 = .ok (.aload_n 0, 1) := q_o42 (by decide +kernel)
theorem dX4_restore_9 : decode cX4_restore 9 = .ok (.getfield 17, 3) := q_o180 (a := 0) (b := 17) (by decide +kernel)
theorem dX4_restore_12 : decode cX4_restore 12 = .ok (.bipush 40, 2) := q_o16 (a := 40) (by decide +kernel) rfl
theorem dX4_restore_14 : decode cX4_restore 14 = .ok (.iadd, 1) := q_o96 (by decide +kernel)
theorem dX4_restore_15 : decode cX4_restore 15 = .ok (.iconst 1, 1) := q_o4 (by decide +kernel)
theorem dX4_restore_16 : decode cX4_restore 16 = .ok (.isub, 1) := q_o100 (by decide +kernel)
theorem dX4_restore_17 : decode cX4_restore 17 = .ok (.bipush 40, 2) := q_o16 (a := 40) (by decide +kernel) rfl
theorem dX4_restore_19 : decode cX4_restore 19 = .ok (.irem, 1) := by decide +kernel
theorem dX4_restore_20 : decode cX4_restore 20 = .ok (.putfield 17, 3) := q_o181 (a := 0) (b := 17) (by decide +kernel)
theorem dX4_restore_23 : decode cX4_restore 23 = .ok (.aload_n 0, 1) := q_o42 (by decide +kernel)
theorem dX4_restore_24 : decode cX4_restore 24 = .ok (.dup, 1) := q_o89 (by decide +kernel)
theorem dX4_restore_25 : decode cX4_restore 25 = .ok (.getfield 21, 3) := q_o180 (a := 0) (b := 21) (by decide +kernel)
theorem dX4_restore_28 : decode cX4_restore 28 = .ok (.iconst 1, 1) := q_o4 (by decide +kernel)
theorem dX4_restore_29 : decode cX4_restore 29 = .ok (.isub, 1) := q_o100 (by decide +kernel)
theorem dX4_restore_30 : decode cX4_restore 30 = .ok (.putfield 21, 3) := q_o181 (a := 0) (b := 21) (by decide +kernel)
theorem dX4_restore_33 : decode cX4_restore 33 = .ok (.aload_n 0, 1) := q_o42 (by decide +kernel)
theorem dX4_restore_34 : decode cX4_restore 34 = .ok (.getfield 11, 3) := q_o180 (a := 0) (b := 11) (by decide +kernel)
theorem dX4_restore_37 : decode cX4_restore 37 = .ok (.aload_n 0, 1) := q_o42 (by decide +kernel)
theorem dX4_restore_38 : decode cX4_restore 38 = .ok (.getfield 17, 3) := q_o180 (a := 0) (b := 17) (by decide +kernel)
theorem dX4_restore_41 : decode cX4_restore 41 = .ok (.bipush 98, 2) := q_o16 (a := 98) (by decide +kernel) rfl
theorem dX4_restore_43 : decode cX4_restore 43 = .ok (.imul, 1) := q_o104 (by decide +kernel)
theorem dX4_restore_44 : decode cX4_restore 44 = .ok (.aload_n 1, 1) := q_o43 (by decide +kernel)
theorem dX4_restore_45 : decode cX4_restore 45 = .ok (.getfield 24, 3) := q_o180 (a := 0) (b := 24) (by decide +kernel)
theorem dX4_restore_48 : decode cX4_restore 48 = .ok (.iconst 0, 1) := q_o3 (by decide +kernel)
theorem dX4_restore_49 : decode cX4_restore 49 = .ok (.bipush 98, 2) := q_o16 (a := 98) (by decide +kernel) rfl
theorem dX4_restore_51 : decode cX4_restore 51 = .ok (.invokestatic 27, 3) := q_o184 (a := 0) (b := 27) (by decide +kernel)
theorem dX4_restore_54 : decode cX4_restore 54 = .ok (.return_, 1) := q_o177 (by decide +kernel)
theorem dX5_copyFrom_0 : decode cX5_copyFrom 0 = .ok (.aload_n 1, 1) := q_o43 (by decide +kernel)
theorem dX5_copyFrom_1 : decode cX5_copyFrom 1 = .ok (.getfield 9, 3) := q_o180 (a := 0) (b := 9) (by decide +kernel)
theorem dX5_copyFrom_4 : decode cX5_copyFrom 4 = .ok (.iconst 0, 1) := q_o3 (by decide +kernel)
theorem dX5_copyFrom_5 : decode cX5_copyFrom 5 = .ok (.aload_n 0, 1) := q_o42 (by decide +kernel)
theorem dX5_copyFrom_6 : decode cX5_copyFrom 6 = .ok (.getfield 9, 3) := q_o180 (a := 0) (b := 9) (by decide +kernel)
theorem dX5_copyFrom_9 : decode cX5_copyFrom 9 = .ok (.iconst 0, 1) := q_o3 (by decide +kernel)
theorem dX5_copyFrom_10 : decode cX5_copyFrom 10 = .ok (.bipush 8, 2) := q_o16 (a := 8) (by decide +kernel) rfl
theorem dX5_copyFrom_12 : decode cX5_copyFrom 12 = .ok (.invokestatic 25, 3) := q_o184 (a := 0) (b := 25) (by decide +kernel)
theorem dX5_copyFrom_15 : decode cX5_copyFrom 15 = .ok (.aload_n 1, 1) := q_o43 (by decide +kernel)
theorem dX5_copyFrom_16 : decode cX5_copyFrom 16 = .ok (.getfield 15, 3) := q_o180 (a := 0) (b := 15) (by decide +kernel)
theorem dX5_copyFrom_19 : decode cX5_copyFrom 19 = .ok (.iconst 0, 1) := q_o3 (by decide +kernel)
theorem dX5_copyFrom_20 : decode cX5_copyFrom 20 = .ok (.aload_n 0, 1) := q_o42 (by decide +kernel)
theorem dX5_copyFrom_21 : decode cX5_copyFrom 21 = .ok (.getfield 15, 3) := q_o180 (a := 0) (b := 15) (by decide +kernel)
theorem dX5_copyFrom_24 : decode cX5_copyFrom 24 = .ok (.iconst 0, 1) := q_o3 (by decide +kernel)
theorem dX5_copyFrom_25 : decode cX5_copyFrom 25 = .ok (.bipush 48, 2) := q_o16 (a := 48) (by decide +kernel) rfl
theorem dX5_copyFrom_27 : decode cX5_copyFrom 27 = .ok (.invokestatic 25, 3) := q_o184 (a := 0) (b := 25) (by decide +kernel)
theorem dX5_copyFrom_30 : decode cX5_copyFrom 30 = .ok (.aload_n 0, 1) := q_o42 (by decide +kernel)
theorem dX5_copyFrom_31 : decode cX5_copyFrom 31 = .ok (.aload_n 1, 1) := q_o43 (by decide +kernel)
theorem dX5_copyFrom_32 : decode cX5_copyFrom 32 = .ok (.getfield 18, 3) := q_o180 (a := 0) (b := 18) (by decide +kernel)
theorem dX5_copyFrom_35 : decode cX5_copyFrom 35 = .ok (.putfield 18, 3) := q_o181 (a := 0) (b := 18) (by decide +kernel)
theorem dX5_copyFrom_38 : decode cX5_copyFrom 38 = .ok (.return_, 1) := q_o177 (by decide +kernel)
theorem dX7_has_0 : decode cX7_has 0 = .ok (.iload_n 1, 1) := q_o27 (by decide +kernel)
theorem dX7_has_1 : decode cX7_has 1 = .ok (.ifCond .lt 15, 3) := q_o155 (a := 0) (b := 15) (by decide +kernel) rfl
theorem dX7_has_4 : decode cX7_has 4 = .ok (.iload_n 1, 1) := q_o27 (by decide +kernel)
theorem dX7_has_5 : decode cX7_has 5 = .ok (.aload_n 0, 1) := q_o42 (by decide +kernel)
theorem dX7_has_6 : decode cX7_has 6 = .ok (.getfield 25, 3) := q_o180 (a := 0) (b := 25) (by decide +kernel)
theorem dX7_has_9 : decode cX7_has 9 = .ok (.if_icmp .ge 7, 3) := q_o162 (a := 0) (b := 7) (by decide +kernel) rfl
theorem dX7_has_12 : decode cX7_has 12 = .ok (.iconst 1, 1) := q_o4 (by decide +kernel)
theorem dX7_has_13 : decode cX7_has 13 = .ok (.goto 4, 3) := q_o167 (a := 0) (b := 4) (by decide +kernel) rfl
theorem dX7_has_16 : decode cX7_has 16 = .ok (.iconst 0, 1) := q_o3 (by decide +kernel)
theorem dX7_has_17 : decode cX7_has 17 = .ok (.ireturn, 1) := q_o172 (by decide +kernel)
theorem dX7_keepDraft_0 : decode cX7_keepDraft 0 = .ok (.aload_n 0, 1) := q_o42 (by decide +kernel)
theorem dX7_keepDraft_1 : decode cX7_keepDraft 1 = .ok (.getfield 25, 3) := q_o180 (a := 0) (b := 25) (by decide +kernel)
theorem dX7_keepDraft_4 : decode cX7_keepDraft 4 = .ok (.iconst 4, 1) := q_o7 (by decide +kernel)
theorem dX7_keepDraft_5 : decode cX7_keepDraft 5 = .ok (.if_icmp .lt 5, 3) := q_o161 (a := 0) (b := 5) (by decide +kernel) rfl
theorem dX7_keepDraft_8 : decode cX7_keepDraft 8 = .ok (.iconst (-1), 1) := q_o2 (by decide +kernel)
theorem dX7_keepDraft_9 : decode cX7_keepDraft 9 = .ok (.ireturn, 1) := q_o172 (by decide +kernel)
theorem dX7_keepDraft_10 : decode cX7_keepDraft 10 = .ok (.aload_n 0, 1) := q_o42 (by decide +kernel)
theorem dX7_keepDraft_11 : decode cX7_keepDraft 11 = .ok (.getfield 18, 3) := q_o180 (a := 0) (b := 18) (by decide +kernel)
theorem dX7_keepDraft_14 : decode cX7_keepDraft 14 = .ok (.iconst 0, 1) := q_o3 (by decide +kernel)
theorem dX7_keepDraft_15 : decode cX7_keepDraft 15 = .ok (.aload_n 0, 1) := q_o42 (by decide +kernel)
theorem dX7_keepDraft_16 : decode cX7_keepDraft 16 = .ok (.getfield 9, 3) := q_o180 (a := 0) (b := 9) (by decide +kernel)
theorem dX7_keepDraft_19 : decode cX7_keepDraft 19 = .ok (.aload_n 0, 1) := q_o42 (by decide +kernel)
theorem dX7_keepDraft_20 : decode cX7_keepDraft 20 = .ok (.getfield 25, 3) := q_o180 (a := 0) (b := 25) (by decide +kernel)
theorem dX7_keepDraft_23 : decode cX7_keepDraft 23 = .ok (.bipush 64, 2) := q_o16 (a := 64) (by decide +kernel) rfl
theorem dX7_keepDraft_25 : decode cX7_keepDraft 25 = .ok (.imul, 1) := q_o104 (by decide +kernel)
theorem dX7_keepDraft_26 : decode cX7_keepDraft 26 = .ok (.bipush 64, 2) := q_o16 (a := 64) (by decide +kernel) rfl
theorem dX7_keepDraft_28 : decode cX7_keepDraft 28 = .ok (.invokestatic 28, 3) := q_o184 (a := 0) (b := 28) (by decide +kernel)
theorem dX7_keepDraft_31 : decode cX7_keepDraft 31 = .ok (.aload_n 0, 1) := q_o42 (by decide +kernel)
theorem dX7_keepDraft_32 : decode cX7_keepDraft 32 = .ok (.getfield 15, 3) := q_o180 (a := 0) (b := 15) (by decide +kernel)
theorem dX7_keepDraft_35 : decode cX7_keepDraft 35 = .ok (.aload_n 0, 1) := q_o42 (by decide +kernel)
theorem dX7_keepDraft_36 : decode cX7_keepDraft 36 = .ok (.getfield 25, 3) := q_o180 (a := 0) (b := 25) (by decide +kernel)
theorem dX7_keepDraft_39 : decode cX7_keepDraft 39 = .ok (.aload_n 0, 1) := q_o42 (by decide +kernel)
theorem dX7_keepDraft_40 : decode cX7_keepDraft 40 = .ok (.getfield 21, 3) := q_o180 (a := 0) (b := 21) (by decide +kernel)
theorem dX7_keepDraft_43 : decode cX7_keepDraft 43 = .ok (.iastore, 1) := q_o79 (by decide +kernel)
theorem dX7_keepDraft_44 : decode cX7_keepDraft 44 = .ok (.aload_n 0, 1) := q_o42 (by decide +kernel)
theorem dX7_keepDraft_45 : decode cX7_keepDraft 45 = .ok (.dup, 1) := q_o89 (by decide +kernel)
theorem dX7_keepDraft_46 : decode cX7_keepDraft 46 = .ok (.getfield 25, 3) := q_o180 (a := 0) (b := 25) (by decide +kernel)
theorem dX7_keepDraft_49 : decode cX7_keepDraft 49 = .ok (.iconst 1, 1) := q_o4 (by decide +kernel)
theorem dX7_keepDraft_50 : decode cX7_keepDraft 50 = .ok (.iadd, 1) := q_o96 (by decide +kernel)
theorem dX7_keepDraft_51 : decode cX7_keepDraft 51 = .ok (.putfield 25, 3) := q_o181 (a := 0) (b := 25) (by decide +kernel)
theorem dX7_keepDraft_54 : decode cX7_keepDraft 54 = .ok (.aload_n 0, 1) := q_o42 (by decide +kernel)
theorem dX7_keepDraft_55 : decode cX7_keepDraft 55 = .ok (.getfield 25, 3) := q_o180 (a := 0) (b := 25) (by decide +kernel)
theorem dX7_keepDraft_58 : decode cX7_keepDraft 58 = .ok (.iconst 1, 1) := q_o4 (by decide +kernel)
theorem dX7_keepDraft_59 : decode cX7_keepDraft 59 = .ok (.isub, 1) := q_o100 (by decide +kernel)
theorem dX7_keepDraft_60 : decode cX7_keepDraft 60 = .ok (.ireturn, 1) := q_o172 (by decide +kernel)
theorem dX7_read_0 : decode cX7_read 0 = .ok (.aload_n 0, 1) := q_o42 (by decide +kernel)
theorem dX7_read_1 : decode cX7_read 1 = .ok (.getfield 9, 3) := q_o180 (a := 0) (b := 9) (by decide +kernel)
theorem dX7_read_4 : decode cX7_read 4 = .ok (.iload_n 1, 1) := q_o27 (by decide +kernel)
theorem dX7_read_5 : decode cX7_read 5 = .ok (.bipush 64, 2) := q_o16 (a := 64) (by decide +kernel) rfl
theorem dX7_read_7 : decode cX7_read 7 = .ok (.imul, 1) := q_o104 (by decide +kernel)
theorem dX7_read_8 : decode cX7_read 8 = .ok (.iload_n 2, 1) := q_o28 (by decide +kernel)
theorem dX7_read_9 : decode cX7_read 9 = .ok (.iconst 4, 1) := q_o7 (by decide +kernel)
theorem dX7_read_10 : decode cX7_read 10 = .ok (.imul, 1) := q_o104 (by decide +kernel)
theorem dX7_read_11 : decode cX7_read 11 = .ok (.iadd, 1) := q_o96 (by decide +kernel)
theorem dX7_read_12 : decode cX7_read 12 = .ok (.iload_n 3, 1) := q_o29 (by decide +kernel)
theorem dX7_read_13 : decode cX7_read 13 = .ok (.iadd, 1) := q_o96 (by decide +kernel)
theorem dX7_read_14 : decode cX7_read 14 = .ok (.iaload, 1) := q_o46 (by decide +kernel)
theorem dX7_read_15 : decode cX7_read 15 = .ok (.ireturn, 1) := q_o172 (by decide +kernel)
theorem hdS_yJ6_numberOfTrailingZeros_0f7a4_1 : yJ6_numberOfTrailingZeros_0f7a4.cls ≠ "java/lang/invoke/MethodHandle" ∧ yJ6_numberOfTrailingZeros_0f7a4.cls ≠ "java/lang/invoke/VarHandle" ∧ (parseMethodDescriptor yJ6_numberOfTrailingZeros_0f7a4.desc).map (fun d => d.parameters.length) = some 1 := by decide +kernel
theorem hdS_yJ7_fill_53178_2 : yJ7_fill_53178.cls ≠ "java/lang/invoke/MethodHandle" ∧ yJ7_fill_53178.cls ≠ "java/lang/invoke/VarHandle" ∧ (parseMethodDescriptor yJ7_fill_53178.desc).map (fun d => d.parameters.length) = some 2 := by decide +kernel
theorem hdV_yX0_copyFrom_1 : yX0_copyFrom.cls = RX0 ∧ yX0_copyFrom.cls ≠ "java/lang/invoke/MethodHandle" ∧ yX0_copyFrom.cls ≠ "java/lang/invoke/VarHandle" ∧ (parseMethodDescriptor yX0_copyFrom.desc).map (fun d => d.parameters.length) = some 1 := by decide +kernel
theorem hdV_yX0_firstFreePort_1 : yX0_firstFreePort.cls = RX0 ∧ yX0_firstFreePort.cls ≠ "java/lang/invoke/MethodHandle" ∧ yX0_firstFreePort.cls ≠ "java/lang/invoke/VarHandle" ∧ (parseMethodDescriptor yX0_firstFreePort.desc).map (fun d => d.parameters.length) = some 1 := by decide +kernel
theorem hdV_yX0_isOver_0 : yX0_isOver.cls = RX0 ∧ yX0_isOver.cls ≠ "java/lang/invoke/MethodHandle" ∧ yX0_isOver.cls ≠ "java/lang/invoke/VarHandle" ∧ (parseMethodDescriptor yX0_isOver.desc).map (fun d => d.parameters.length) = some 0 := by decide +kernel
theorem hdV_yX0_isStill_0 : yX0_isStill.cls = RX0 ∧ yX0_isStill.cls ≠ "java/lang/invoke/MethodHandle" ∧ yX0_isStill.cls ≠ "java/lang/invoke/VarHandle" ∧ (parseMethodDescriptor yX0_isStill.desc).map (fun d => d.parameters.length) = some 0 := by decide +kernel
theorem hdV_yX0_passTick_0 : yX0_passTick.cls = RX0 ∧ yX0_passTick.cls ≠ "java/lang/invoke/MethodHandle" ∧ yX0_passTick.cls ≠ "java/lang/invoke/VarHandle" ∧ (parseMethodDescriptor yX0_passTick.desc).map (fun d => d.parameters.length) = some 0 := by decide +kernel
theorem hdV_yX0_putIn_3 : yX0_putIn.cls = RX0 ∧ yX0_putIn.cls ≠ "java/lang/invoke/MethodHandle" ∧ yX0_putIn.cls ≠ "java/lang/invoke/VarHandle" ∧ (parseMethodDescriptor yX0_putIn.desc).map (fun d => d.parameters.length) = some 3 := by decide +kernel
theorem hdV_yX0_switchSupply_1 : yX0_switchSupply.cls = RX0 ∧ yX0_switchSupply.cls ≠ "java/lang/invoke/MethodHandle" ∧ yX0_switchSupply.cls ≠ "java/lang/invoke/VarHandle" ∧ (parseMethodDescriptor yX0_switchSupply.desc).map (fun d => d.parameters.length) = some 1 := by decide +kernel
theorem hdV_yX3_playTillRunning_2 : yX3_playTillRunning.cls = RX3 ∧ yX3_playTillRunning.cls ≠ "java/lang/invoke/MethodHandle" ∧ yX3_playTillRunning.cls ≠ "java/lang/invoke/VarHandle" ∧ (parseMethodDescriptor yX3_playTillRunning.desc).map (fun d => d.parameters.length) = some 2 := by decide +kernel
def FL_J7_fill_98_5 (f1 : Nat → Int32) (z : Int32) : Nat → Int32 → (Nat → Int32) → Option ((Nat → Int32))
  | 0, _, _ => none
  | n + 1, x2_5, f1_c => (if 98 ≤ x2_5 then some (f1_c) else (if x2_5 < 0 ∨ 98 ≤ (x2_5).toNatClampNeg then none else (FL_J7_fill_98_5 f1 z n (x2_5 + 1) (upd f1_c (x2_5).toNatClampNeg z))))

def F_J7_fill_98 (f1 : Nat → Int32) (z : Int32) : Option ((Nat → Int32)) := (FL_J7_fill_98_5 f1 z 1000 0 f1)
set_option maxHeartbeats 4000000 in
set_option maxRecDepth 100000 in
theorem c_J7_fill_98 (l : Launch) (dC : Nat → ClassId) (dI : Nat → Nat → Nat) (h : Nat) (c1 : ClassId) (f1 : Nat → Int32) (z : Int32) (A : Nat → Prop) (o : (Nat → Int32)) (hG : F_J7_fill_98 f1 z = some o) : Met l yJ7_fill_53178 (.code yJ7_fill_53178 cJ7_fill_53178 4 none :: wA) ({ frames := 0, cells := 0, slots := 0, locals := 0 }) (va_Pc [.ref h, .int z] (q_W (dC, dI) A [(h, .inl (c1, 98, .inl f1))] [(c1, .int)])) (va_Qv (fun _ : Unit => True) (fun (_ : Unit) t => q_B (dC, dI) A [(h, .inl (c1, 98, .inl (o)))] [(c1, .int)] t) A) 0 0 A := by
  refine Met.ofW (cc := cJ7_fill_53178) (maxL := 4) (ret := none) (by decide) rfl ?_
  intro p e s m args below meth c s₁ B hml hv
  obtain ⟨rfl, hP, hK, hD, hA⟩ := hv
  have hx := B.exec
  have hb := B.bytes
  have hr := B.returns
  have hts := atoms_spec (ws := .code yJ7_fill_53178 cJ7_fill_53178 4 none :: wA) B.pre
  have hown : s.vm.findClass RJ7 = some m.cls := findClass_of_methodNamed B.named
  have hlocks := B.notSynchronized
  have hS : va_S A s.heap s.heap [] := va_S.rf
  have hl := lv_entry ([.ref h, .int z]) (n := 4) (Nat.le_of_ble_eq_true rfl)
  rw [lg_entry_eq]
  generalize (lg_sl ([.ref h, .int z]) ++ List.replicate (4 - (lg_sl ([.ref h, .int z])).length) Slot.unset).toArray = ls at hl ⊢
  have hl : lv_has ls 4 [(0, .ref h), (1, .int z)] := hl
  unfold F_J7_fill_98 at hG
  refine lv_iconst (v := 0) hx hb dJ7_fill_53178_0 (by decide) ?_
  refine lv_istore_n (lv' := [(2, .int 0), (0, .ref h), (1, .int z)]) hx hb dJ7_fill_53178_1 rfl hl (by decide) rfl (fun ls hl => ?_)
  refine lv_aload_n hx hb dJ7_fill_53178_2 rfl (lv_at hl 1 rfl) ?_
  refine va_alen hx hb hK hP 0 0 rfl rfl (v := 98) rfl dJ7_fill_53178_3 ?_
  refine lv_istore_n (lv' := [(3, .int 98), (2, .int 0), (0, .ref h), (1, .int z)]) hx hb dJ7_fill_53178_4 rfl hl (by decide) rfl (fun ls hl => ?_)
  have L_5 : ∀ (n_5 : Nat) (x2_5 : Int32) (f1_c : Nat → Int32) (H : Heap) (locs : List Loc) (ls : Array Slot), FL_J7_fill_98_5 f1 z n_5 x2_5 f1_c = some o → va_P (dC, dI) vwCl [(h, .inl (c1, 98, .inl f1_c))] H → va_D A [(h, .inl (c1, 98, .inl f1_c))] → va_S A s.heap H locs → lv_has ls 4 [(3, .int 98), (2, .int x2_5), (0, .ref h), (1, .int z)] → W p l e (headSpec (.code yJ7_fill_53178 cJ7_fill_53178 4 none :: wA) ({ frames := 0, cells := 0, slots := 0, locals := 0 })).room s m #[.ref h, .int z] below meth c H locs 0 0 (MQ below (va_Qv (fun _ : Unit => True) (fun (_ : Unit) t => q_B (dC, dI) A [(h, .inl (c1, 98, .inl (o)))] [(c1, .int)] t) A) #[.ref h, .int z] s 0 0 A) (F0 m 5 ls []) := by
    intro n_5
    induction n_5 with
    | zero =>
      intro x2_5 f1_c H locs ls hG
      exact q_no hG
    | succ n_5 ih_5 =>
      intro x2_5 f1_c H locs ls hG hP hD hS hl
      unfold FL_J7_fill_98_5 at hG
      refine lv_iload_n hx hb dJ7_fill_53178_5 rfl (lv_at hl 1 rfl) ?_
      refine lv_iload_n hx hb dJ7_fill_53178_6 rfl (lv_at hl 0 rfl) ?_
      refine lv_icmp_ge (tgt := 20) hx hb dJ7_fill_53178_7 (by decide) (fun c_1 => ?_) (fun c_1 => ?_)
      · have hG := q_ifp c_1 hG
        obtain rfl := Option.some.inj hG
        have hP9 := hP.sub (ws' := [(h, .inl (c1, 98, .inl f1_c))]) [0] rfl
        have hD9 := hD.sub (ws' := [(h, .inl (c1, 98, .inl f1_c))]) [0] (by decide) rfl
        have hK9 := hK.sub (tys' := [(c1, .int)]) [0] rfl
        exact W.vret hx hb hr (fun t ht hW => ⟨⟨(), rfl, trivial, by rw [ht]; exact hP9, va_K.moved hW.alike hK9, hD9⟩, hS.F ht⟩) hS.2.2 dJ7_fill_53178_20
      · have hG := q_ifn c_1 hG
        refine lv_aload_n hx hb dJ7_fill_53178_10 rfl (lv_at hl 2 rfl) ?_
        refine lv_iload_n hx hb dJ7_fill_53178_11 rfl (lv_at hl 1 rfl) ?_
        refine lv_iload_n hx hb dJ7_fill_53178_12 rfl (lv_at hl 3 rfl) ?_
        obtain ⟨h_2, hG⟩ := q_ix hG
        refine va_iast hx hb hK hP hD hS 0 0 rfl rfl (i := x2_5) (x := z) h_2 dJ7_fill_53178_13 (fun H locs hP hD hS => ?_)
        have hP : va_P (dC, dI) vwCl [(h, .inl (c1, 98, .inl (upd f1_c (x2_5).toNatClampNeg z)))] H := hP
        have hD : va_D A [(h, .inl (c1, 98, .inl (upd f1_c (x2_5).toNatClampNeg z)))] := hD
        refine lv_iinc (v := (x2_5 + 1)) (lv' := [(2, .int (x2_5 + 1)), (3, .int 98), (0, .ref h), (1, .int z)]) hx hb dJ7_fill_53178_14 hl (k := 1) rfl (rfl) (by decide) rfl (fun ls hl => ?_)
        refine lv_goto (tgt := 5) hx hb dJ7_fill_53178_17 (by decide) ?_
        exact ih_5 (x2_5 + 1) (upd f1_c (x2_5).toNatClampNeg z) H locs ls hG hP hD hS (lv_sub hl [1, 0, 2, 3] rfl)
  exact L_5 1000 0 f1 s.heap [] ls hG hP hD hS hl

def FL_J7_fill_64_5 (f1 : Nat → Int32) (z : Int32) : Nat → Int32 → (Nat → Int32) → Option ((Nat → Int32))
  | 0, _, _ => none
  | n + 1, x2_5, f1_c => (if 64 ≤ x2_5 then some (f1_c) else (if x2_5 < 0 ∨ 64 ≤ (x2_5).toNatClampNeg then none else (FL_J7_fill_64_5 f1 z n (x2_5 + 1) (upd f1_c (x2_5).toNatClampNeg z))))

def F_J7_fill_64 (f1 : Nat → Int32) (z : Int32) : Option ((Nat → Int32)) := (FL_J7_fill_64_5 f1 z 1000 0 f1)
set_option maxHeartbeats 4000000 in
set_option maxRecDepth 100000 in
theorem c_J7_fill_64 (l : Launch) (dC : Nat → ClassId) (dI : Nat → Nat → Nat) (h : Nat) (c1 : ClassId) (f1 : Nat → Int32) (z : Int32) (A : Nat → Prop) (o : (Nat → Int32)) (hG : F_J7_fill_64 f1 z = some o) : Met l yJ7_fill_53178 (.code yJ7_fill_53178 cJ7_fill_53178 4 none :: wA) ({ frames := 0, cells := 0, slots := 0, locals := 0 }) (va_Pc [.ref h, .int z] (q_W (dC, dI) A [(h, .inl (c1, 64, .inl f1))] [(c1, .int)])) (va_Qv (fun _ : Unit => True) (fun (_ : Unit) t => q_B (dC, dI) A [(h, .inl (c1, 64, .inl (o)))] [(c1, .int)] t) A) 0 0 A := by
  refine Met.ofW (cc := cJ7_fill_53178) (maxL := 4) (ret := none) (by decide) rfl ?_
  intro p e s m args below meth c s₁ B hml hv
  obtain ⟨rfl, hP, hK, hD, hA⟩ := hv
  have hx := B.exec
  have hb := B.bytes
  have hr := B.returns
  have hts := atoms_spec (ws := .code yJ7_fill_53178 cJ7_fill_53178 4 none :: wA) B.pre
  have hown : s.vm.findClass RJ7 = some m.cls := findClass_of_methodNamed B.named
  have hlocks := B.notSynchronized
  have hS : va_S A s.heap s.heap [] := va_S.rf
  have hl := lv_entry ([.ref h, .int z]) (n := 4) (Nat.le_of_ble_eq_true rfl)
  rw [lg_entry_eq]
  generalize (lg_sl ([.ref h, .int z]) ++ List.replicate (4 - (lg_sl ([.ref h, .int z])).length) Slot.unset).toArray = ls at hl ⊢
  have hl : lv_has ls 4 [(0, .ref h), (1, .int z)] := hl
  unfold F_J7_fill_64 at hG
  refine lv_iconst (v := 0) hx hb dJ7_fill_53178_0 (by decide) ?_
  refine lv_istore_n (lv' := [(2, .int 0), (0, .ref h), (1, .int z)]) hx hb dJ7_fill_53178_1 rfl hl (by decide) rfl (fun ls hl => ?_)
  refine lv_aload_n hx hb dJ7_fill_53178_2 rfl (lv_at hl 1 rfl) ?_
  refine va_alen hx hb hK hP 0 0 rfl rfl (v := 64) rfl dJ7_fill_53178_3 ?_
  refine lv_istore_n (lv' := [(3, .int 64), (2, .int 0), (0, .ref h), (1, .int z)]) hx hb dJ7_fill_53178_4 rfl hl (by decide) rfl (fun ls hl => ?_)
  have L_5 : ∀ (n_5 : Nat) (x2_5 : Int32) (f1_c : Nat → Int32) (H : Heap) (locs : List Loc) (ls : Array Slot), FL_J7_fill_64_5 f1 z n_5 x2_5 f1_c = some o → va_P (dC, dI) vwCl [(h, .inl (c1, 64, .inl f1_c))] H → va_D A [(h, .inl (c1, 64, .inl f1_c))] → va_S A s.heap H locs → lv_has ls 4 [(3, .int 64), (2, .int x2_5), (0, .ref h), (1, .int z)] → W p l e (headSpec (.code yJ7_fill_53178 cJ7_fill_53178 4 none :: wA) ({ frames := 0, cells := 0, slots := 0, locals := 0 })).room s m #[.ref h, .int z] below meth c H locs 0 0 (MQ below (va_Qv (fun _ : Unit => True) (fun (_ : Unit) t => q_B (dC, dI) A [(h, .inl (c1, 64, .inl (o)))] [(c1, .int)] t) A) #[.ref h, .int z] s 0 0 A) (F0 m 5 ls []) := by
    intro n_5
    induction n_5 with
    | zero =>
      intro x2_5 f1_c H locs ls hG
      exact q_no hG
    | succ n_5 ih_5 =>
      intro x2_5 f1_c H locs ls hG hP hD hS hl
      unfold FL_J7_fill_64_5 at hG
      refine lv_iload_n hx hb dJ7_fill_53178_5 rfl (lv_at hl 1 rfl) ?_
      refine lv_iload_n hx hb dJ7_fill_53178_6 rfl (lv_at hl 0 rfl) ?_
      refine lv_icmp_ge (tgt := 20) hx hb dJ7_fill_53178_7 (by decide) (fun c_1 => ?_) (fun c_1 => ?_)
      · have hG := q_ifp c_1 hG
        obtain rfl := Option.some.inj hG
        have hP9 := hP.sub (ws' := [(h, .inl (c1, 64, .inl f1_c))]) [0] rfl
        have hD9 := hD.sub (ws' := [(h, .inl (c1, 64, .inl f1_c))]) [0] (by decide) rfl
        have hK9 := hK.sub (tys' := [(c1, .int)]) [0] rfl
        exact W.vret hx hb hr (fun t ht hW => ⟨⟨(), rfl, trivial, by rw [ht]; exact hP9, va_K.moved hW.alike hK9, hD9⟩, hS.F ht⟩) hS.2.2 dJ7_fill_53178_20
      · have hG := q_ifn c_1 hG
        refine lv_aload_n hx hb dJ7_fill_53178_10 rfl (lv_at hl 2 rfl) ?_
        refine lv_iload_n hx hb dJ7_fill_53178_11 rfl (lv_at hl 1 rfl) ?_
        refine lv_iload_n hx hb dJ7_fill_53178_12 rfl (lv_at hl 3 rfl) ?_
        obtain ⟨h_2, hG⟩ := q_ix hG
        refine va_iast hx hb hK hP hD hS 0 0 rfl rfl (i := x2_5) (x := z) h_2 dJ7_fill_53178_13 (fun H locs hP hD hS => ?_)
        have hP : va_P (dC, dI) vwCl [(h, .inl (c1, 64, .inl (upd f1_c (x2_5).toNatClampNeg z)))] H := hP
        have hD : va_D A [(h, .inl (c1, 64, .inl (upd f1_c (x2_5).toNatClampNeg z)))] := hD
        refine lv_iinc (v := (x2_5 + 1)) (lv' := [(2, .int (x2_5 + 1)), (3, .int 64), (0, .ref h), (1, .int z)]) hx hb dJ7_fill_53178_14 hl (k := 1) rfl (rfl) (by decide) rfl (fun ls hl => ?_)
        refine lv_goto (tgt := 5) hx hb dJ7_fill_53178_17 (by decide) ?_
        exact ih_5 (x2_5 + 1) (upd f1_c (x2_5).toNatClampNeg z) H locs ls hG hP hD hS (lv_sub hl [1, 0, 2, 3] rfl)
  exact L_5 1000 0 f1 s.heap [] ls hG hP hD hS hl

def FL_X0_renew_10 (fr : Nat → Int32) (dv : Int32) (fu : Nat → Int32) (fp : Nat → Int32) : Nat → Int32 → (Nat → Int32) → Option ((Nat → Int32))
  | 0, _, _ => none
  | n + 1, x1_10, fr_c => (if dv ≤ x1_10 then some (fr_c) else ((F_X0_leave fr_c dv fu fp x1_10).bind fun o_4 => (if (24 + x1_10) < 0 ∨ 48 ≤ ((24 + x1_10)).toNatClampNeg then none else (if (72 + x1_10) < 0 ∨ 98 ≤ ((72 + x1_10)).toNatClampNeg then none else (if (40 + x1_10) < 0 ∨ 48 ≤ ((40 + x1_10)).toNatClampNeg then none else (if (80 + x1_10) < 0 ∨ 98 ≤ ((80 + x1_10)).toNatClampNeg then none else (FL_X0_renew_10 fr dv fu fp n (x1_10 + 1) (upd (upd (o_4) (72 + x1_10).toNatClampNeg (fp (24 + x1_10).toNatClampNeg)) (80 + x1_10).toNatClampNeg (fp (40 + x1_10).toNatClampNeg)))))))))

def F_X0_renew (fr : Nat → Int32) (dv : Int32) (fu : Nat → Int32) (fp : Nat → Int32) : Option ((Nat → Int32)) := ((F_J7_fill_98 fr 0).bind fun o_1 => (FL_X0_renew_10 fr dv fu fp 1000 0 (o_1)))
set_option maxHeartbeats 4000000 in
set_option maxRecDepth 100000 in
theorem c_X0_renew (l : Launch) (dC : Nat → ClassId) (dI : Nat → Nat → Nat) (g : Nat) (r0 : Nat) (h : Nat) (r1 : Nat) (r2 : Nat) (dv : Int32) (c0 : ClassId) (fr : Nat → Int32) (c1 : ClassId) (c2 : ClassId) (fu : Nat → Int32) (fp : Nat → Int32) (A : Nat → Prop) (o : (Nat → Int32)) (hG : F_X0_renew fr dv fu fp = some o) : Met l yX0_renew (.code yX0_renew cX0_renew 2 none :: wA) ({ frames := 2, cells := 0, slots := 0, locals := 43 }) (va_Pc [.ref g] (q_W (dC, dI) A [(g, .inr (0, [.ref r0, .ref h])), (r0, .inl (c0, 98, .inl fr)), (h, .inr (5, [.ref r1, .ref r2, .int dv])), (r1, .inl (c1, 8, .inl fu)), (r2, .inl (c2, 48, .inl fp))] [(c0, .int), (c1, .int), (c2, .int)])) (va_Qv (fun _ : Unit => True) (fun (_ : Unit) t => q_B (dC, dI) A [(g, .inr (0, [.ref r0, .ref h])), (r0, .inl (c0, 98, .inl (o))), (h, .inr (5, [.ref r1, .ref r2, .int dv])), (r1, .inl (c1, 8, .inl fu)), (r2, .inl (c2, 48, .inl fp))] [(c0, .int), (c1, .int), (c2, .int)] t) A) 0 0 A := by
  refine Met.ofW (cc := cX0_renew) (maxL := 2) (ret := none) (by decide) rfl ?_
  intro p e s m args below meth c s₁ B hml hv
  obtain ⟨rfl, hP, hK, hD, hA⟩ := hv
  have hx := B.exec
  have hb := B.bytes
  have hr := B.returns
  have hts := atoms_spec (ws := .code yX0_renew cX0_renew 2 none :: wA) B.pre
  have hown : s.vm.findClass RX0 = some m.cls := findClass_of_methodNamed B.named
  have hlocks := B.notSynchronized
  have hS : va_S A s.heap s.heap [] := va_S.rf
  have hl := lv_entry ([.ref g]) (n := 2) (Nat.le_of_ble_eq_true rfl)
  rw [lg_entry_eq]
  generalize (lg_sl ([.ref g]) ++ List.replicate (2 - (lg_sl ([.ref g])).length) Slot.unset).toArray = ls at hl ⊢
  have hl : lv_has ls 2 [(0, .ref g)] := hl
  unfold F_X0_renew at hG
  refine lv_aload_n hx hb dX0_renew_0 rfl (lv_at hl 0 rfl) ?_
  refine va_get (D := (dC, dI)) (ci := 0) (v := .ref r0) (C := RX0) (T := TX0) (N := 2) hx hb hts iA_0 hown hK hP 0 rfl rfl 0 (by decide) (hts (.fieldLink RX0 11 "HubTree$Bus" "row" "[I") (List.mem_cons_of_mem _ m_88)) (fun _ h9 => h9) rfl dX0_renew_1 ?_
  refine lv_iconst (v := 0) hx hb dX0_renew_4 (by decide) ?_
  obtain ⟨o_1, r_2, hG⟩ := q_bi hG
  refine q_gov2 (wr := [(g, .inr (0, [.ref r0, .ref h])), (h, .inr (5, [.ref r1, .ref r2, .int dv])), (r1, .inl (c1, 8, .inl fu)), (r2, .inl (c2, 48, .inl fp))]) (va_runS (As := [.ref r0, .int 0]) (rest := []) ⟨hx, hb, hml, hown, hts⟩ (c_J7_fill_98 l dC dI r0 c0 fr 0 (va_A [(r0, .inl (c0, 98, .inl fr))] s.heap.size) o_1 r_2) (va_cwS 2 hts (q_gS m_401 m_310 m_311 m_312) rfl rfl rfl hdS_yJ7_fill_53178_2 ⟨Nat.le_of_ble_eq_true rfl, Nat.le_of_ble_eq_true rfl⟩) (q_preW hK hP hD [1] (by decide) rfl rfl [0] rfl) rfl rfl hl.1 rfl (lv_room (Nat.le_of_ble_eq_true rfl)) dX0_renew_5 ⟨Nat.le_of_ble_eq_true rfl, Nat.le_of_ble_eq_true rfl⟩) hK hP hD hS hA [1] [0, 2, 3, 4] rfl rfl (by decide) (by decide) (fun _ H locs _ hP hD hK9 hS => ?_)
  have hP : va_P (dC, dI) vwCl [(g, .inr (0, [.ref r0, .ref h])), (r0, .inl (c0, 98, .inl (o_1))), (h, .inr (5, [.ref r1, .ref r2, .int dv])), (r1, .inl (c1, 8, .inl fu)), (r2, .inl (c2, 48, .inl fp))] H := hP.sub [0, 4, 1, 2, 3] rfl
  have hD : va_D A [(g, .inr (0, [.ref r0, .ref h])), (r0, .inl (c0, 98, .inl (o_1))), (h, .inr (5, [.ref r1, .ref r2, .int dv])), (r1, .inl (c1, 8, .inl fu)), (r2, .inl (c2, 48, .inl fp))] := hD.sub [0, 4, 1, 2, 3] (by decide) rfl
  refine lv_iconst (v := 0) hx hb dX0_renew_8 (by decide) ?_
  refine lv_istore_n (lv' := [(1, .int 0), (0, .ref g)]) hx hb dX0_renew_9 rfl hl (by decide) rfl (fun ls hl => ?_)
  have L_10 : ∀ (n_10 : Nat) (x1_10 : Int32) (fr_c : Nat → Int32) (H : Heap) (locs : List Loc) (ls : Array Slot), FL_X0_renew_10 fr dv fu fp n_10 x1_10 fr_c = some o → va_P (dC, dI) vwCl [(g, .inr (0, [.ref r0, .ref h])), (r0, .inl (c0, 98, .inl fr_c)), (h, .inr (5, [.ref r1, .ref r2, .int dv])), (r1, .inl (c1, 8, .inl fu)), (r2, .inl (c2, 48, .inl fp))] H → va_D A [(g, .inr (0, [.ref r0, .ref h])), (r0, .inl (c0, 98, .inl fr_c)), (h, .inr (5, [.ref r1, .ref r2, .int dv])), (r1, .inl (c1, 8, .inl fu)), (r2, .inl (c2, 48, .inl fp))] → va_S A s.heap H locs → lv_has ls 2 [(1, .int x1_10), (0, .ref g)] → W p l e (headSpec (.code yX0_renew cX0_renew 2 none :: wA) ({ frames := 2, cells := 0, slots := 0, locals := 43 })).room s m #[.ref g] below meth c H locs 0 0 (MQ below (va_Qv (fun _ : Unit => True) (fun (_ : Unit) t => q_B (dC, dI) A [(g, .inr (0, [.ref r0, .ref h])), (r0, .inl (c0, 98, .inl (o))), (h, .inr (5, [.ref r1, .ref r2, .int dv])), (r1, .inl (c1, 8, .inl fu)), (r2, .inl (c2, 48, .inl fp))] [(c0, .int), (c1, .int), (c2, .int)] t) A) #[.ref g] s 0 0 A) (F0 m 10 ls []) := by
    intro n_10
    induction n_10 with
    | zero =>
      intro x1_10 fr_c H locs ls hG
      exact q_no hG
    | succ n_10 ih_10 =>
      intro x1_10 fr_c H locs ls hG hP hD hS hl
      unfold FL_X0_renew_10 at hG
      refine lv_iload_n hx hb dX0_renew_10 rfl (lv_at hl 0 rfl) ?_
      refine lv_aload_n hx hb dX0_renew_11 rfl (lv_at hl 1 rfl) ?_
      refine va_get (D := (dC, dI)) (ci := 0) (v := .ref h) (C := RX0) (T := TX0) (N := 2) hx hb hts iA_0 hown hK hP 0 rfl rfl 1 (by decide) (hts (.fieldLink RX0 15 "HubTree$Bus" "plan" "LHubTree$Plan;") (List.mem_cons_of_mem _ m_89)) (fun _ h9 => h9) rfl dX0_renew_12 ?_
      refine va_get (D := (dC, dI)) (ci := 5) (v := .int dv) (C := RX5) (T := TX5) (N := 3) hx hb hts iA_5 hown hK hP 2 rfl rfl 2 (by decide) (hts (.fieldLink RX0 25 "HubTree$Plan" "devices" "I") (List.mem_cons_of_mem _ m_399)) (fun _ h9 => h9) rfl dX0_renew_15 ?_
      refine lv_icmp_ge (tgt := 74) hx hb dX0_renew_18 (by decide) (fun c_3 => ?_) (fun c_3 => ?_)
      · have hG := q_ifp c_3 hG
        obtain rfl := Option.some.inj hG
        have hP9 := hP.sub (ws' := [(g, .inr (0, [.ref r0, .ref h])), (r0, .inl (c0, 98, .inl fr_c)), (h, .inr (5, [.ref r1, .ref r2, .int dv])), (r1, .inl (c1, 8, .inl fu)), (r2, .inl (c2, 48, .inl fp))]) [0, 1, 2, 3, 4] rfl
        have hD9 := hD.sub (ws' := [(g, .inr (0, [.ref r0, .ref h])), (r0, .inl (c0, 98, .inl fr_c)), (h, .inr (5, [.ref r1, .ref r2, .int dv])), (r1, .inl (c1, 8, .inl fu)), (r2, .inl (c2, 48, .inl fp))]) [0, 1, 2, 3, 4] (by decide) rfl
        have hK9 := hK.sub (tys' := [(c0, .int), (c1, .int), (c2, .int)]) [0, 1, 2] rfl
        exact W.vret hx hb hr (fun t ht hW => ⟨⟨(), rfl, trivial, by rw [ht]; exact hP9, va_K.moved hW.alike hK9, hD9⟩, hS.F ht⟩) hS.2.2 dX0_renew_74
      · have hG := q_ifn c_3 hG
        refine lv_aload_n hx hb dX0_renew_21 rfl (lv_at hl 1 rfl) ?_
        refine lv_iload_n hx hb dX0_renew_22 rfl (lv_at hl 0 rfl) ?_
        obtain ⟨o_4, r_5, hG⟩ := q_bi hG
        refine q_gov2 (wr := []) (va_runV (As := [.int x1_10]) (rest := []) ⟨hx, hb, hml, hown, hts⟩ (c_X0_leave l dC dI g r0 h r1 r2 dv c0 fr_c c1 c2 fu fp x1_10 (va_A [(g, .inr (0, [.ref r0, .ref h])), (r0, .inl (c0, 98, .inl fr_c)), (h, .inr (5, [.ref r1, .ref r2, .int dv])), (r1, .inl (c1, 8, .inl fu)), (r2, .inl (c2, 48, .inl fp))] H.size) o_4 r_5) (cwV 1 hts (q_gV m_402 m_403 m_404 m_33 m_405) rfl rfl rfl hdV_yX0_leave_1 ⟨Nat.le_of_ble_eq_true rfl, Nat.le_of_ble_eq_true rfl⟩) (q_preWV hK hP hD (q := (RX0, TX0, 2)) (ci := 0) (q0 := 0) rfl rfl [0, 1, 2, 3, 4] (by decide) rfl rfl [0, 1, 2] rfl) rfl rfl hl.1 rfl (lv_room (Nat.le_of_ble_eq_true rfl)) dX0_renew_23 ⟨Nat.le_of_ble_eq_true rfl, Nat.le_of_ble_eq_true rfl⟩) hK hP hD hS hA [0, 1, 2, 3, 4] [] rfl rfl (by decide) (by decide) (fun _ H locs _ hP hD hK9 hS => ?_)
        have hP : va_P (dC, dI) vwCl [(g, .inr (0, [.ref r0, .ref h])), (r0, .inl (c0, 98, .inl (o_4))), (h, .inr (5, [.ref r1, .ref r2, .int dv])), (r1, .inl (c1, 8, .inl fu)), (r2, .inl (c2, 48, .inl fp))] H := hP.sub [0, 1, 2, 3, 4] rfl
        have hD : va_D A [(g, .inr (0, [.ref r0, .ref h])), (r0, .inl (c0, 98, .inl (o_4))), (h, .inr (5, [.ref r1, .ref r2, .int dv])), (r1, .inl (c1, 8, .inl fu)), (r2, .inl (c2, 48, .inl fp))] := hD.sub [0, 1, 2, 3, 4] (by decide) rfl
        refine lv_aload_n hx hb dX0_renew_26 rfl (lv_at hl 1 rfl) ?_
        refine va_get (D := (dC, dI)) (ci := 0) (v := .ref r0) (C := RX0) (T := TX0) (N := 2) hx hb hts iA_0 hown hK hP 0 rfl rfl 0 (by decide) (hts (.fieldLink RX0 11 "HubTree$Bus" "row" "[I") (List.mem_cons_of_mem _ m_88)) (fun _ h9 => h9) rfl dX0_renew_27 ?_
        refine lv_bipush (v := 72) hx hb dX0_renew_30 (by decide) ?_
        refine lv_iload_n hx hb dX0_renew_32 rfl (lv_at hl 0 rfl) ?_
        refine lv_iadd hx hb dX0_renew_33 ?_
        refine lv_aload_n hx hb dX0_renew_34 rfl (lv_at hl 1 rfl) ?_
        refine va_get (D := (dC, dI)) (ci := 0) (v := .ref h) (C := RX0) (T := TX0) (N := 2) hx hb hts iA_0 hown hK hP 0 rfl rfl 1 (by decide) (hts (.fieldLink RX0 15 "HubTree$Bus" "plan" "LHubTree$Plan;") (List.mem_cons_of_mem _ m_89)) (fun _ h9 => h9) rfl dX0_renew_35 ?_
        refine va_get (D := (dC, dI)) (ci := 5) (v := .ref r2) (C := RX5) (T := TX5) (N := 3) hx hb hts iA_5 hown hK hP 2 rfl rfl 1 (by decide) (hts (.fieldLink RX0 35 "HubTree$Plan" "row" "[I") (List.mem_cons_of_mem _ m_400)) (fun _ h9 => h9) rfl dX0_renew_38 ?_
        refine lv_bipush (v := 24) hx hb dX0_renew_41 (by decide) ?_
        refine lv_iload_n hx hb dX0_renew_43 rfl (lv_at hl 0 rfl) ?_
        refine lv_iadd hx hb dX0_renew_44 ?_
        obtain ⟨h_6, hG⟩ := q_ix hG
        refine va_iald hx hb hK hP 4 2 rfl rfl (i := (24 + x1_10)) h_6 dX0_renew_45 ?_
        refine q_top (y := (fp (24 + x1_10).toNatClampNeg)) rfl ?_
        obtain ⟨h_7, hG⟩ := q_ix hG
        refine va_iast hx hb hK hP hD hS 1 0 rfl rfl (i := (72 + x1_10)) (x := (fp (24 + x1_10).toNatClampNeg)) h_7 dX0_renew_46 (fun H locs hP hD hS => ?_)
        have hP : va_P (dC, dI) vwCl [(g, .inr (0, [.ref r0, .ref h])), (r0, .inl (c0, 98, .inl (upd (o_4) (72 + x1_10).toNatClampNeg (fp (24 + x1_10).toNatClampNeg)))), (h, .inr (5, [.ref r1, .ref r2, .int dv])), (r1, .inl (c1, 8, .inl fu)), (r2, .inl (c2, 48, .inl fp))] H := hP
        have hD : va_D A [(g, .inr (0, [.ref r0, .ref h])), (r0, .inl (c0, 98, .inl (upd (o_4) (72 + x1_10).toNatClampNeg (fp (24 + x1_10).toNatClampNeg)))), (h, .inr (5, [.ref r1, .ref r2, .int dv])), (r1, .inl (c1, 8, .inl fu)), (r2, .inl (c2, 48, .inl fp))] := hD
        refine lv_aload_n hx hb dX0_renew_47 rfl (lv_at hl 1 rfl) ?_
        refine va_get (D := (dC, dI)) (ci := 0) (v := .ref r0) (C := RX0) (T := TX0) (N := 2) hx hb hts iA_0 hown hK hP 0 rfl rfl 0 (by decide) (hts (.fieldLink RX0 11 "HubTree$Bus" "row" "[I") (List.mem_cons_of_mem _ m_88)) (fun _ h9 => h9) rfl dX0_renew_48 ?_
        refine lv_bipush (v := 80) hx hb dX0_renew_51 (by decide) ?_
        refine lv_iload_n hx hb dX0_renew_53 rfl (lv_at hl 0 rfl) ?_
        refine lv_iadd hx hb dX0_renew_54 ?_
        refine lv_aload_n hx hb dX0_renew_55 rfl (lv_at hl 1 rfl) ?_
        refine va_get (D := (dC, dI)) (ci := 0) (v := .ref h) (C := RX0) (T := TX0) (N := 2) hx hb hts iA_0 hown hK hP 0 rfl rfl 1 (by decide) (hts (.fieldLink RX0 15 "HubTree$Bus" "plan" "LHubTree$Plan;") (List.mem_cons_of_mem _ m_89)) (fun _ h9 => h9) rfl dX0_renew_56 ?_
        refine va_get (D := (dC, dI)) (ci := 5) (v := .ref r2) (C := RX5) (T := TX5) (N := 3) hx hb hts iA_5 hown hK hP 2 rfl rfl 1 (by decide) (hts (.fieldLink RX0 35 "HubTree$Plan" "row" "[I") (List.mem_cons_of_mem _ m_400)) (fun _ h9 => h9) rfl dX0_renew_59 ?_
        refine lv_bipush (v := 40) hx hb dX0_renew_62 (by decide) ?_
        refine lv_iload_n hx hb dX0_renew_64 rfl (lv_at hl 0 rfl) ?_
        refine lv_iadd hx hb dX0_renew_65 ?_
        obtain ⟨h_8, hG⟩ := q_ix hG
        refine va_iald hx hb hK hP 4 2 rfl rfl (i := (40 + x1_10)) h_8 dX0_renew_66 ?_
        refine q_top (y := (fp (40 + x1_10).toNatClampNeg)) rfl ?_
        obtain ⟨h_9, hG⟩ := q_ix hG
        refine va_iast hx hb hK hP hD hS 1 0 rfl rfl (i := (80 + x1_10)) (x := (fp (40 + x1_10).toNatClampNeg)) h_9 dX0_renew_67 (fun H locs hP hD hS => ?_)
        have hP : va_P (dC, dI) vwCl [(g, .inr (0, [.ref r0, .ref h])), (r0, .inl (c0, 98, .inl (upd (upd (o_4) (72 + x1_10).toNatClampNeg (fp (24 + x1_10).toNatClampNeg)) (80 + x1_10).toNatClampNeg (fp (40 + x1_10).toNatClampNeg)))), (h, .inr (5, [.ref r1, .ref r2, .int dv])), (r1, .inl (c1, 8, .inl fu)), (r2, .inl (c2, 48, .inl fp))] H := hP
        have hD : va_D A [(g, .inr (0, [.ref r0, .ref h])), (r0, .inl (c0, 98, .inl (upd (upd (o_4) (72 + x1_10).toNatClampNeg (fp (24 + x1_10).toNatClampNeg)) (80 + x1_10).toNatClampNeg (fp (40 + x1_10).toNatClampNeg)))), (h, .inr (5, [.ref r1, .ref r2, .int dv])), (r1, .inl (c1, 8, .inl fu)), (r2, .inl (c2, 48, .inl fp))] := hD
        refine lv_iinc (v := (x1_10 + 1)) (lv' := [(1, .int (x1_10 + 1)), (0, .ref g)]) hx hb dX0_renew_68 hl (k := 0) rfl (rfl) (by decide) rfl (fun ls hl => ?_)
        refine lv_goto (tgt := 10) hx hb dX0_renew_71 (by decide) ?_
        exact ih_10 (x1_10 + 1) (upd (upd (o_4) (72 + x1_10).toNatClampNeg (fp (24 + x1_10).toNatClampNeg)) (80 + x1_10).toNatClampNeg (fp (40 + x1_10).toNatClampNeg)) H locs ls hG hP hD hS (lv_sub hl [0, 1] rfl)
  exact L_10 1000 0 (o_1) H locs ls hG hP hD hS hl

def F_X0_copyFrom (fr : Nat → Int32) (fo : Nat → Int32) : Option ((Nat → Int32)) := some ((va_cpy fo fr 0 0 98))
set_option maxHeartbeats 4000000 in
set_option maxRecDepth 100000 in
theorem c_X0_copyFrom (l : Launch) (dC : Nat → ClassId) (dI : Nat → Nat → Nat) (g : Nat) (r0 : Nat) (h : Nat) (c0 : ClassId) (fr : Nat → Int32) (g2 : Nat) (r3 : Nat) (h3 : Nat) (c3 : ClassId) (fo : Nat → Int32) (A : Nat → Prop) (o : (Nat → Int32)) (hG : F_X0_copyFrom fr fo = some o) : Met l yX0_copyFrom (.code yX0_copyFrom cX0_copyFrom 2 none :: wA) ({ frames := 1, cells := 0, slots := 0, locals := 60 }) (va_Pc [.ref g, .ref g2] (q_W (dC, dI) A [(g, .inr (0, [.ref r0, .ref h])), (r0, .inl (c0, 98, .inl fr)), (g2, .inr (0, [.ref r3, .ref h3])), (r3, .inl (c3, 98, .inl fo))] [(c0, .int), (c3, .int)])) (va_Qv (fun _ : Unit => True) (fun (_ : Unit) t => q_B (dC, dI) A [(g, .inr (0, [.ref r0, .ref h])), (r0, .inl (c0, 98, .inl (o))), (g2, .inr (0, [.ref r3, .ref h3])), (r3, .inl (c3, 98, .inl fo))] [(c0, .int), (c3, .int)] t) A) 0 0 A := by
  refine Met.ofW (cc := cX0_copyFrom) (maxL := 2) (ret := none) (by decide) rfl ?_
  intro p e s m args below meth c s₁ B hml hv
  obtain ⟨rfl, hP, hK, hD, hA⟩ := hv
  have hx := B.exec
  have hb := B.bytes
  have hr := B.returns
  have hts := atoms_spec (ws := .code yX0_copyFrom cX0_copyFrom 2 none :: wA) B.pre
  have hown : s.vm.findClass RX0 = some m.cls := findClass_of_methodNamed B.named
  have hlocks := B.notSynchronized
  have hS : va_S A s.heap s.heap [] := va_S.rf
  have hl := lv_entry ([.ref g, .ref g2]) (n := 2) (Nat.le_of_ble_eq_true rfl)
  rw [lg_entry_eq]
  generalize (lg_sl ([.ref g, .ref g2]) ++ List.replicate (2 - (lg_sl ([.ref g, .ref g2])).length) Slot.unset).toArray = ls at hl ⊢
  have hl : lv_has ls 2 [(0, .ref g), (1, .ref g2)] := hl
  unfold F_X0_copyFrom at hG
  refine lv_aload_n hx hb dX0_copyFrom_0 rfl (lv_at hl 1 rfl) ?_
  refine va_get (D := (dC, dI)) (ci := 0) (v := .ref r3) (C := RX0) (T := TX0) (N := 2) hx hb hts iA_0 hown hK hP 2 rfl rfl 0 (by decide) (hts (.fieldLink RX0 11 "HubTree$Bus" "row" "[I") (List.mem_cons_of_mem _ m_88)) (fun _ h9 => h9) rfl dX0_copyFrom_1 ?_
  refine lv_iconst (v := 0) hx hb dX0_copyFrom_4 (by decide) ?_
  refine lv_aload_n hx hb dX0_copyFrom_5 rfl (lv_at hl 0 rfl) ?_
  refine va_get (D := (dC, dI)) (ci := 0) (v := .ref r0) (C := RX0) (T := TX0) (N := 2) hx hb hts iA_0 hown hK hP 0 rfl rfl 0 (by decide) (hts (.fieldLink RX0 11 "HubTree$Bus" "row" "[I") (List.mem_cons_of_mem _ m_88)) (fun _ h9 => h9) rfl dX0_copyFrom_6 ?_
  refine lv_iconst (v := 0) hx hb dX0_copyFrom_9 (by decide) ?_
  refine lv_bipush (v := 98) hx hb dX0_copyFrom_10 (by decide) ?_
  refine va_copyi hx hb (by rw [hml, hl.1]) hown (hts (.methodLink RX0 36 arraycopyName) (List.mem_cons_of_mem _ m_1172)) (hts (.native arraycopyName) (List.mem_cons_of_mem _ m_177)) (hts (.static arraycopyName) (List.mem_cons_of_mem _ m_178)) (hts (.initialized "java/lang/System") (List.mem_cons_of_mem _ m_179)) hK hP hD hS 3 1 1 0 rfl rfl rfl rfl rfl (by decide) (by decide) (by decide) (by decide) (by decide) (fun _ _ => rfl) (Nat.le_of_ble_eq_true rfl) (Nat.le_of_ble_eq_true rfl) dX0_copyFrom_12 (fun H locs hP hD hS => ?_)
  have hP : va_P (dC, dI) vwCl [(g, .inr (0, [.ref r0, .ref h])), (r0, .inl (c0, 98, .inl (va_cpy fo fr 0 0 98))), (g2, .inr (0, [.ref r3, .ref h3])), (r3, .inl (c3, 98, .inl fo))] H := hP
  have hD : va_D A [(g, .inr (0, [.ref r0, .ref h])), (r0, .inl (c0, 98, .inl (va_cpy fo fr 0 0 98))), (g2, .inr (0, [.ref r3, .ref h3])), (r3, .inl (c3, 98, .inl fo))] := hD
  obtain rfl := Option.some.inj hG
  have hP9 := hP.sub (ws' := [(g, .inr (0, [.ref r0, .ref h])), (r0, .inl (c0, 98, .inl (va_cpy fo fr 0 0 98))), (g2, .inr (0, [.ref r3, .ref h3])), (r3, .inl (c3, 98, .inl fo))]) [0, 1, 2, 3] rfl
  have hD9 := hD.sub (ws' := [(g, .inr (0, [.ref r0, .ref h])), (r0, .inl (c0, 98, .inl (va_cpy fo fr 0 0 98))), (g2, .inr (0, [.ref r3, .ref h3])), (r3, .inl (c3, 98, .inl fo))]) [0, 1, 2, 3] (by decide) rfl
  have hK9 := hK.sub (tys' := [(c0, .int), (c3, .int)]) [0, 1] rfl
  exact W.vret hx hb hr (fun t ht hW => ⟨⟨(), rfl, trivial, by rw [ht]; exact hP9, va_K.moved hW.alike hK9, hD9⟩, hS.F ht⟩) hS.2.2 dX0_copyFrom_15

def F_X5_copyFrom (fu : Nat → Int32) (fp : Nat → Int32) (fu2 : Nat → Int32) (fp2 : Nat → Int32) (dv2 : Int32) : Option ((Nat → Int32) × (Nat → Int32) × Int32) := some ((va_cpy fu2 fu 0 0 8), (va_cpy fp2 fp 0 0 48), dv2)
set_option maxHeartbeats 4000000 in
set_option maxRecDepth 100000 in
theorem c_X5_copyFrom (l : Launch) (dC : Nat → ClassId) (dI : Nat → Nat → Nat) (h : Nat) (r1 : Nat) (r2 : Nat) (dv : Int32) (c1 : ClassId) (c2 : ClassId) (fu : Nat → Int32) (fp : Nat → Int32) (h2 : Nat) (r4 : Nat) (r5 : Nat) (dv2 : Int32) (c4 : ClassId) (c5 : ClassId) (fu2 : Nat → Int32) (fp2 : Nat → Int32) (A : Nat → Prop) (o : (Nat → Int32) × (Nat → Int32) × Int32) (hG : F_X5_copyFrom fu fp fu2 fp2 dv2 = some o) : Met l yX5_copyFrom (.code yX5_copyFrom cX5_copyFrom 2 none :: wA) ({ frames := 1, cells := 0, slots := 0, locals := 60 }) (va_Pc [.ref h, .ref h2] (q_W (dC, dI) A [(h, .inr (5, [.ref r1, .ref r2, .int dv])), (r1, .inl (c1, 8, .inl fu)), (r2, .inl (c2, 48, .inl fp)), (h2, .inr (5, [.ref r4, .ref r5, .int dv2])), (r4, .inl (c4, 8, .inl fu2)), (r5, .inl (c5, 48, .inl fp2))] [(c1, .int), (c2, .int), (c4, .int), (c5, .int)])) (va_Qv (fun _ : Unit => True) (fun (_ : Unit) t => q_B (dC, dI) A [(h, .inr (5, [.ref r1, .ref r2, .int (o.2.2)])), (r1, .inl (c1, 8, .inl (o.1))), (r2, .inl (c2, 48, .inl (o.2.1))), (h2, .inr (5, [.ref r4, .ref r5, .int dv2])), (r4, .inl (c4, 8, .inl fu2)), (r5, .inl (c5, 48, .inl fp2))] [(c1, .int), (c2, .int), (c4, .int), (c5, .int)] t) A) 0 0 A := by
  refine Met.ofW (cc := cX5_copyFrom) (maxL := 2) (ret := none) (by decide) rfl ?_
  intro p e s m args below meth c s₁ B hml hv
  obtain ⟨rfl, hP, hK, hD, hA⟩ := hv
  have hx := B.exec
  have hb := B.bytes
  have hr := B.returns
  have hts := atoms_spec (ws := .code yX5_copyFrom cX5_copyFrom 2 none :: wA) B.pre
  have hown : s.vm.findClass RX5 = some m.cls := findClass_of_methodNamed B.named
  have hlocks := B.notSynchronized
  have hS : va_S A s.heap s.heap [] := va_S.rf
  have hl := lv_entry ([.ref h, .ref h2]) (n := 2) (Nat.le_of_ble_eq_true rfl)
  rw [lg_entry_eq]
  generalize (lg_sl ([.ref h, .ref h2]) ++ List.replicate (2 - (lg_sl ([.ref h, .ref h2])).length) Slot.unset).toArray = ls at hl ⊢
  have hl : lv_has ls 2 [(0, .ref h), (1, .ref h2)] := hl
  unfold F_X5_copyFrom at hG
  refine lv_aload_n hx hb dX5_copyFrom_0 rfl (lv_at hl 1 rfl) ?_
  refine va_get (D := (dC, dI)) (ci := 5) (v := .ref r4) (C := RX5) (T := TX5) (N := 3) hx hb hts iA_5 hown hK hP 3 rfl rfl 0 (by decide) (hts (.fieldLink RX5 9 "HubTree$Plan" "rules" "[I") (List.mem_cons_of_mem _ m_73)) (fun _ h9 => h9) rfl dX5_copyFrom_1 ?_
  refine lv_iconst (v := 0) hx hb dX5_copyFrom_4 (by decide) ?_
  refine lv_aload_n hx hb dX5_copyFrom_5 rfl (lv_at hl 0 rfl) ?_
  refine va_get (D := (dC, dI)) (ci := 5) (v := .ref r1) (C := RX5) (T := TX5) (N := 3) hx hb hts iA_5 hown hK hP 0 rfl rfl 0 (by decide) (hts (.fieldLink RX5 9 "HubTree$Plan" "rules" "[I") (List.mem_cons_of_mem _ m_73)) (fun _ h9 => h9) rfl dX5_copyFrom_6 ?_
  refine lv_iconst (v := 0) hx hb dX5_copyFrom_9 (by decide) ?_
  refine lv_bipush (v := 8) hx hb dX5_copyFrom_10 (by decide) ?_
  refine va_copyi hx hb (by rw [hml, hl.1]) hown (hts (.methodLink RX5 25 arraycopyName) (List.mem_cons_of_mem _ m_176)) (hts (.native arraycopyName) (List.mem_cons_of_mem _ m_177)) (hts (.static arraycopyName) (List.mem_cons_of_mem _ m_178)) (hts (.initialized "java/lang/System") (List.mem_cons_of_mem _ m_179)) hK hP hD hS 4 1 2 0 rfl rfl rfl rfl rfl (by decide) (by decide) (by decide) (by decide) (by decide) (fun _ _ => rfl) (Nat.le_of_ble_eq_true rfl) (Nat.le_of_ble_eq_true rfl) dX5_copyFrom_12 (fun H locs hP hD hS => ?_)
  have hP : va_P (dC, dI) vwCl [(h, .inr (5, [.ref r1, .ref r2, .int dv])), (r1, .inl (c1, 8, .inl (va_cpy fu2 fu 0 0 8))), (r2, .inl (c2, 48, .inl fp)), (h2, .inr (5, [.ref r4, .ref r5, .int dv2])), (r4, .inl (c4, 8, .inl fu2)), (r5, .inl (c5, 48, .inl fp2))] H := hP
  have hD : va_D A [(h, .inr (5, [.ref r1, .ref r2, .int dv])), (r1, .inl (c1, 8, .inl (va_cpy fu2 fu 0 0 8))), (r2, .inl (c2, 48, .inl fp)), (h2, .inr (5, [.ref r4, .ref r5, .int dv2])), (r4, .inl (c4, 8, .inl fu2)), (r5, .inl (c5, 48, .inl fp2))] := hD
  refine lv_aload_n hx hb dX5_copyFrom_15 rfl (lv_at hl 1 rfl) ?_
  refine va_get (D := (dC, dI)) (ci := 5) (v := .ref r5) (C := RX5) (T := TX5) (N := 3) hx hb hts iA_5 hown hK hP 3 rfl rfl 1 (by decide) (hts (.fieldLink RX5 15 "HubTree$Plan" "row" "[I") (List.mem_cons_of_mem _ m_74)) (fun _ h9 => h9) rfl dX5_copyFrom_16 ?_
  refine lv_iconst (v := 0) hx hb dX5_copyFrom_19 (by decide) ?_
  refine lv_aload_n hx hb dX5_copyFrom_20 rfl (lv_at hl 0 rfl) ?_
  refine va_get (D := (dC, dI)) (ci := 5) (v := .ref r2) (C := RX5) (T := TX5) (N := 3) hx hb hts iA_5 hown hK hP 0 rfl rfl 1 (by decide) (hts (.fieldLink RX5 15 "HubTree$Plan" "row" "[I") (List.mem_cons_of_mem _ m_74)) (fun _ h9 => h9) rfl dX5_copyFrom_21 ?_
  refine lv_iconst (v := 0) hx hb dX5_copyFrom_24 (by decide) ?_
  refine lv_bipush (v := 48) hx hb dX5_copyFrom_25 (by decide) ?_
  refine va_copyi hx hb (by rw [hml, hl.1]) hown (hts (.methodLink RX5 25 arraycopyName) (List.mem_cons_of_mem _ m_176)) (hts (.native arraycopyName) (List.mem_cons_of_mem _ m_177)) (hts (.static arraycopyName) (List.mem_cons_of_mem _ m_178)) (hts (.initialized "java/lang/System") (List.mem_cons_of_mem _ m_179)) hK hP hD hS 5 2 3 1 rfl rfl rfl rfl rfl (by decide) (by decide) (by decide) (by decide) (by decide) (fun _ _ => rfl) (Nat.le_of_ble_eq_true rfl) (Nat.le_of_ble_eq_true rfl) dX5_copyFrom_27 (fun H locs hP hD hS => ?_)
  have hP : va_P (dC, dI) vwCl [(h, .inr (5, [.ref r1, .ref r2, .int dv])), (r1, .inl (c1, 8, .inl (va_cpy fu2 fu 0 0 8))), (r2, .inl (c2, 48, .inl (va_cpy fp2 fp 0 0 48))), (h2, .inr (5, [.ref r4, .ref r5, .int dv2])), (r4, .inl (c4, 8, .inl fu2)), (r5, .inl (c5, 48, .inl fp2))] H := hP
  have hD : va_D A [(h, .inr (5, [.ref r1, .ref r2, .int dv])), (r1, .inl (c1, 8, .inl (va_cpy fu2 fu 0 0 8))), (r2, .inl (c2, 48, .inl (va_cpy fp2 fp 0 0 48))), (h2, .inr (5, [.ref r4, .ref r5, .int dv2])), (r4, .inl (c4, 8, .inl fu2)), (r5, .inl (c5, 48, .inl fp2))] := hD
  refine lv_aload_n hx hb dX5_copyFrom_30 rfl (lv_at hl 0 rfl) ?_
  refine lv_aload_n hx hb dX5_copyFrom_31 rfl (lv_at hl 1 rfl) ?_
  refine va_get (D := (dC, dI)) (ci := 5) (v := .int dv2) (C := RX5) (T := TX5) (N := 3) hx hb hts iA_5 hown hK hP 3 rfl rfl 2 (by decide) (hts (.fieldLink RX5 18 "HubTree$Plan" "devices" "I") (List.mem_cons_of_mem _ m_75)) (fun _ h9 => h9) rfl dX5_copyFrom_32 ?_
  refine va_put (D := (dC, dI)) (ci := 5) (v := .int dv2) (ty := .int) (C := RX5) (T := TX5) (N := 3) hx hb hts iA_5 tyX5 tyX5_ok nmX5 hown hK hP hD hS 0 rfl rfl 2 (by decide) (hts (.fieldLink RX5 18 "HubTree$Plan" "devices" "I") (List.mem_cons_of_mem _ m_75)) (fun _ h9 => h9) rfl (by decide +kernel) rfl rfl (Nat.le_of_ble_eq_true rfl) dX5_copyFrom_35 (fun H locs hP hD hS => ?_)
  have hP : va_P (dC, dI) vwCl [(h, .inr (5, [.ref r1, .ref r2, .int dv2])), (r1, .inl (c1, 8, .inl (va_cpy fu2 fu 0 0 8))), (r2, .inl (c2, 48, .inl (va_cpy fp2 fp 0 0 48))), (h2, .inr (5, [.ref r4, .ref r5, .int dv2])), (r4, .inl (c4, 8, .inl fu2)), (r5, .inl (c5, 48, .inl fp2))] H := hP
  have hD : va_D A [(h, .inr (5, [.ref r1, .ref r2, .int dv2])), (r1, .inl (c1, 8, .inl (va_cpy fu2 fu 0 0 8))), (r2, .inl (c2, 48, .inl (va_cpy fp2 fp 0 0 48))), (h2, .inr (5, [.ref r4, .ref r5, .int dv2])), (r4, .inl (c4, 8, .inl fu2)), (r5, .inl (c5, 48, .inl fp2))] := hD
  obtain rfl := Option.some.inj hG
  have hP9 := hP.sub (ws' := [(h, .inr (5, [.ref r1, .ref r2, .int dv2])), (r1, .inl (c1, 8, .inl (va_cpy fu2 fu 0 0 8))), (r2, .inl (c2, 48, .inl (va_cpy fp2 fp 0 0 48))), (h2, .inr (5, [.ref r4, .ref r5, .int dv2])), (r4, .inl (c4, 8, .inl fu2)), (r5, .inl (c5, 48, .inl fp2))]) [0, 1, 2, 3, 4, 5] rfl
  have hD9 := hD.sub (ws' := [(h, .inr (5, [.ref r1, .ref r2, .int dv2])), (r1, .inl (c1, 8, .inl (va_cpy fu2 fu 0 0 8))), (r2, .inl (c2, 48, .inl (va_cpy fp2 fp 0 0 48))), (h2, .inr (5, [.ref r4, .ref r5, .int dv2])), (r4, .inl (c4, 8, .inl fu2)), (r5, .inl (c5, 48, .inl fp2))]) [0, 1, 2, 3, 4, 5] (by decide) rfl
  have hK9 := hK.sub (tys' := [(c1, .int), (c2, .int), (c4, .int), (c5, .int)]) [0, 1, 2, 3] rfl
  exact W.vret hx hb hr (fun t ht hW => ⟨⟨(), rfl, trivial, by rw [ht]; exact hP9, va_K.moved hW.alike hK9, hD9⟩, hS.F ht⟩) hS.2.2 dX5_copyFrom_38

def F_X1_shown (tt : Int32) : Option (Int32) := some ((if 60 < tt then 60 else tt))
set_option maxHeartbeats 4000000 in
set_option maxRecDepth 100000 in
theorem c_X1_shown (l : Launch) (dC : Nat → ClassId) (dI : Nat → Nat → Nat) (y : Nat) (dr : Nat) (tt : Int32) (o : Int32) (hG : F_X1_shown tt = some o) : Met l yX1_shown (.code yX1_shown cX1_shown 1 (some .int) :: wA) ({ frames := 1, cells := 0, slots := 0, locals := 21 }) (va_Pc [.ref y] (q_R (dC, dI) [(y, .inr (1, [.ref dr, .int tt]))] [])) (q_i o) 0 0 (fun _ => False) := by
  refine Met.ofW (cc := cX1_shown) (maxL := 1) (ret := (some .int)) (by decide) rfl ?_
  intro p e s m args below meth c s₁ B hml hv
  obtain ⟨rfl, hP, hK⟩ := hv
  have hx := B.exec
  have hb := B.bytes
  have hr := B.returns
  have hts := atoms_spec (ws := .code yX1_shown cX1_shown 1 (some .int) :: wA) B.pre
  have hown : s.vm.findClass RX1 = some m.cls := findClass_of_methodNamed B.named
  have hlocks := B.notSynchronized
  have hS : va_S (fun _ => False) s.heap s.heap [] := va_S.rf
  have hl := lv_entry ([.ref y]) (n := 1) (Nat.le_of_ble_eq_true rfl)
  rw [lg_entry_eq]
  generalize (lg_sl ([.ref y]) ++ List.replicate (1 - (lg_sl ([.ref y])).length) Slot.unset).toArray = ls at hl ⊢
  have hl : lv_has ls 1 [(0, .ref y)] := hl
  unfold F_X1_shown at hG
  refine lv_aload_n hx hb dX1_shown_0 rfl (lv_at hl 0 rfl) ?_
  refine va_get (D := (dC, dI)) (ci := 1) (v := .int tt) (C := RX1) (T := TX1) (N := 2) hx hb hts iA_1 hown hK hP 0 rfl rfl 1 (by decide) (hts (.fieldLink RX1 15 "HubTree$Diary" "total" "I") (List.mem_cons_of_mem _ m_106)) (fun _ h9 => h9) rfl dX1_shown_1 ?_
  refine lv_bipush (v := 60) hx hb dX1_shown_4 (by decide) ?_
  refine va_mmin hx hb (by rw [hml, hl.1]) hown (hts (.methodLink RX1 19 Lib.Math.min.name) (List.mem_cons_of_mem _ m_1151)) (hts (.static Lib.Math.min.name) (List.mem_cons_of_mem _ m_227)) (hts (.initialized "java/lang/Math") (List.mem_cons_of_mem _ m_224)) (hts (.code Lib.Math.min.name Lib.Math.min.code 2 (some .int)) (List.mem_cons_of_mem _ m_228)) (Nat.le_of_ble_eq_true rfl) (Nat.le_of_ble_eq_true rfl) (Nat.zero_le _) (Nat.zero_le _) dX1_shown_6 ?_
  obtain rfl := Option.some.inj hG
  exact W.iret (v := (if 60 < tt then 60 else tt)) hx hb hr (fun t ht hW => ⟨⟨(if 60 < tt then 60 else tt), (), rfl, rfl, trivial⟩, hS.F ht⟩) hS.2.2 dX1_shown_9

def F_X1_write (fd : Nat → Int32) (tt : Int32) (z1 : Int32) (z2 : Int32) (z3 : Int32) : Option ((Nat → Int32) × Int32) := (if ((tt - tt / 100 * 100) * 3) < 0 ∨ 300 ≤ (((tt - tt / 100 * 100) * 3)).toNatClampNeg then none else (if (((tt - tt / 100 * 100) * 3) + 1) < 0 ∨ 300 ≤ ((((tt - tt / 100 * 100) * 3) + 1)).toNatClampNeg then none else (if (((tt - tt / 100 * 100) * 3) + 2) < 0 ∨ 300 ≤ ((((tt - tt / 100 * 100) * 3) + 2)).toNatClampNeg then none else some ((upd (upd (upd fd ((tt - tt / 100 * 100) * 3).toNatClampNeg z1) (((tt - tt / 100 * 100) * 3) + 1).toNatClampNeg z2) (((tt - tt / 100 * 100) * 3) + 2).toNatClampNeg z3), (tt + 1)))))
set_option maxHeartbeats 4000000 in
set_option maxRecDepth 100000 in
theorem c_X1_write (l : Launch) (dC : Nat → ClassId) (dI : Nat → Nat → Nat) (y : Nat) (dr : Nat) (cd : ClassId) (fd : Nat → Int32) (tt : Int32) (z1 : Int32) (z2 : Int32) (z3 : Int32) (A : Nat → Prop) (o : (Nat → Int32) × Int32) (hG : F_X1_write fd tt z1 z2 z3 = some o) : Met l yX1_write (.code yX1_write cX1_write 5 none :: wA) ({ frames := 0, cells := 0, slots := 0, locals := 0 }) (va_Pc [.ref y, .int z1, .int z2, .int z3] (q_W (dC, dI) A [(y, .inr (1, [.ref dr, .int tt])), (dr, .inl (cd, 300, .inl fd))] [(cd, .int)])) (va_Qv (fun _ : Unit => True) (fun (_ : Unit) t => q_B (dC, dI) A [(y, .inr (1, [.ref dr, .int (o.2)])), (dr, .inl (cd, 300, .inl (o.1)))] [(cd, .int)] t) A) 0 0 A := by
  refine Met.ofW (cc := cX1_write) (maxL := 5) (ret := none) (by decide) rfl ?_
  intro p e s m args below meth c s₁ B hml hv
  obtain ⟨rfl, hP, hK, hD, hA⟩ := hv
  have hx := B.exec
  have hb := B.bytes
  have hr := B.returns
  have hts := atoms_spec (ws := .code yX1_write cX1_write 5 none :: wA) B.pre
  have hown : s.vm.findClass RX1 = some m.cls := findClass_of_methodNamed B.named
  have hlocks := B.notSynchronized
  have hS : va_S A s.heap s.heap [] := va_S.rf
  have hl := lv_entry ([.ref y, .int z1, .int z2, .int z3]) (n := 5) (Nat.le_of_ble_eq_true rfl)
  rw [lg_entry_eq]
  generalize (lg_sl ([.ref y, .int z1, .int z2, .int z3]) ++ List.replicate (5 - (lg_sl ([.ref y, .int z1, .int z2, .int z3])).length) Slot.unset).toArray = ls at hl ⊢
  have hl : lv_has ls 5 [(0, .ref y), (1, .int z1), (2, .int z2), (3, .int z3)] := hl
  unfold F_X1_write at hG
  refine lv_aload_n hx hb dX1_write_0 rfl (lv_at hl 0 rfl) ?_
  refine va_get (D := (dC, dI)) (ci := 1) (v := .int tt) (C := RX1) (T := TX1) (N := 2) hx hb hts iA_1 hown hK hP 0 rfl rfl 1 (by decide) (hts (.fieldLink RX1 15 "HubTree$Diary" "total" "I") (List.mem_cons_of_mem _ m_106)) (fun _ h9 => h9) rfl dX1_write_1 ?_
  refine lv_bipush (v := 100) hx hb dX1_write_4 (by decide) ?_
  refine lv_irem hx hb dX1_write_6 (by decide) ?_
  refine lv_iconst (v := 3) hx hb dX1_write_7 (by decide) ?_
  refine lv_imul hx hb dX1_write_8 ?_
  refine lv_istore (lv' := [(4, .int ((tt - tt / 100 * 100) * 3)), (0, .ref y), (1, .int z1), (2, .int z2), (3, .int z3)]) hx hb dX1_write_9 hl (by decide) rfl (fun ls hl => ?_)
  refine lv_aload_n hx hb dX1_write_11 rfl (lv_at hl 1 rfl) ?_
  refine va_get (D := (dC, dI)) (ci := 1) (v := .ref dr) (C := RX1) (T := TX1) (N := 2) hx hb hts iA_1 hown hK hP 0 rfl rfl 0 (by decide) (hts (.fieldLink RX1 11 "HubTree$Diary" "rows" "[I") (List.mem_cons_of_mem _ m_105)) (fun _ h9 => h9) rfl dX1_write_12 ?_
  refine lv_iload hx hb dX1_write_15 (lv_at hl 0 rfl) ?_
  refine lv_iload_n hx hb dX1_write_17 rfl (lv_at hl 2 rfl) ?_
  obtain ⟨h_1, hG⟩ := q_ix hG
  refine va_iast hx hb hK hP hD hS 1 0 rfl rfl (i := ((tt - tt / 100 * 100) * 3)) (x := z1) h_1 dX1_write_18 (fun H locs hP hD hS => ?_)
  have hP : va_P (dC, dI) vwCl [(y, .inr (1, [.ref dr, .int tt])), (dr, .inl (cd, 300, .inl (upd fd ((tt - tt / 100 * 100) * 3).toNatClampNeg z1)))] H := hP
  have hD : va_D A [(y, .inr (1, [.ref dr, .int tt])), (dr, .inl (cd, 300, .inl (upd fd ((tt - tt / 100 * 100) * 3).toNatClampNeg z1)))] := hD
  refine lv_aload_n hx hb dX1_write_19 rfl (lv_at hl 1 rfl) ?_
  refine va_get (D := (dC, dI)) (ci := 1) (v := .ref dr) (C := RX1) (T := TX1) (N := 2) hx hb hts iA_1 hown hK hP 0 rfl rfl 0 (by decide) (hts (.fieldLink RX1 11 "HubTree$Diary" "rows" "[I") (List.mem_cons_of_mem _ m_105)) (fun _ h9 => h9) rfl dX1_write_20 ?_
  refine lv_iload hx hb dX1_write_23 (lv_at hl 0 rfl) ?_
  refine lv_iconst (v := 1) hx hb dX1_write_25 (by decide) ?_
  refine lv_iadd hx hb dX1_write_26 ?_
  refine lv_iload_n hx hb dX1_write_27 rfl (lv_at hl 3 rfl) ?_
  obtain ⟨h_2, hG⟩ := q_ix hG
  refine va_iast hx hb hK hP hD hS 1 0 rfl rfl (i := (((tt - tt / 100 * 100) * 3) + 1)) (x := z2) h_2 dX1_write_28 (fun H locs hP hD hS => ?_)
  have hP : va_P (dC, dI) vwCl [(y, .inr (1, [.ref dr, .int tt])), (dr, .inl (cd, 300, .inl (upd (upd fd ((tt - tt / 100 * 100) * 3).toNatClampNeg z1) (((tt - tt / 100 * 100) * 3) + 1).toNatClampNeg z2)))] H := hP
  have hD : va_D A [(y, .inr (1, [.ref dr, .int tt])), (dr, .inl (cd, 300, .inl (upd (upd fd ((tt - tt / 100 * 100) * 3).toNatClampNeg z1) (((tt - tt / 100 * 100) * 3) + 1).toNatClampNeg z2)))] := hD
  refine lv_aload_n hx hb dX1_write_29 rfl (lv_at hl 1 rfl) ?_
  refine va_get (D := (dC, dI)) (ci := 1) (v := .ref dr) (C := RX1) (T := TX1) (N := 2) hx hb hts iA_1 hown hK hP 0 rfl rfl 0 (by decide) (hts (.fieldLink RX1 11 "HubTree$Diary" "rows" "[I") (List.mem_cons_of_mem _ m_105)) (fun _ h9 => h9) rfl dX1_write_30 ?_
  refine lv_iload hx hb dX1_write_33 (lv_at hl 0 rfl) ?_
  refine lv_iconst (v := 2) hx hb dX1_write_35 (by decide) ?_
  refine lv_iadd hx hb dX1_write_36 ?_
  refine lv_iload_n hx hb dX1_write_37 rfl (lv_at hl 4 rfl) ?_
  obtain ⟨h_3, hG⟩ := q_ix hG
  refine va_iast hx hb hK hP hD hS 1 0 rfl rfl (i := (((tt - tt / 100 * 100) * 3) + 2)) (x := z3) h_3 dX1_write_38 (fun H locs hP hD hS => ?_)
  have hP : va_P (dC, dI) vwCl [(y, .inr (1, [.ref dr, .int tt])), (dr, .inl (cd, 300, .inl (upd (upd (upd fd ((tt - tt / 100 * 100) * 3).toNatClampNeg z1) (((tt - tt / 100 * 100) * 3) + 1).toNatClampNeg z2) (((tt - tt / 100 * 100) * 3) + 2).toNatClampNeg z3)))] H := hP
  have hD : va_D A [(y, .inr (1, [.ref dr, .int tt])), (dr, .inl (cd, 300, .inl (upd (upd (upd fd ((tt - tt / 100 * 100) * 3).toNatClampNeg z1) (((tt - tt / 100 * 100) * 3) + 1).toNatClampNeg z2) (((tt - tt / 100 * 100) * 3) + 2).toNatClampNeg z3)))] := hD
  refine lv_aload_n hx hb dX1_write_39 rfl (lv_at hl 1 rfl) ?_
  refine lv_dup hx hb dX1_write_40 rfl ?_
  refine va_get (D := (dC, dI)) (ci := 1) (v := .int tt) (C := RX1) (T := TX1) (N := 2) hx hb hts iA_1 hown hK hP 0 rfl rfl 1 (by decide) (hts (.fieldLink RX1 15 "HubTree$Diary" "total" "I") (List.mem_cons_of_mem _ m_106)) (fun _ h9 => h9) rfl dX1_write_41 ?_
  refine lv_iconst (v := 1) hx hb dX1_write_44 (by decide) ?_
  refine lv_iadd hx hb dX1_write_45 ?_
  refine va_put (D := (dC, dI)) (ci := 1) (v := .int (tt + 1)) (ty := .int) (C := RX1) (T := TX1) (N := 2) hx hb hts iA_1 tyX1 tyX1_ok nmX1 hown hK hP hD hS 0 rfl rfl 1 (by decide) (hts (.fieldLink RX1 15 "HubTree$Diary" "total" "I") (List.mem_cons_of_mem _ m_106)) (fun _ h9 => h9) rfl (by decide +kernel) rfl rfl (Nat.le_of_ble_eq_true rfl) dX1_write_46 (fun H locs hP hD hS => ?_)
  have hP : va_P (dC, dI) vwCl [(y, .inr (1, [.ref dr, .int (tt + 1)])), (dr, .inl (cd, 300, .inl (upd (upd (upd fd ((tt - tt / 100 * 100) * 3).toNatClampNeg z1) (((tt - tt / 100 * 100) * 3) + 1).toNatClampNeg z2) (((tt - tt / 100 * 100) * 3) + 2).toNatClampNeg z3)))] H := hP
  have hD : va_D A [(y, .inr (1, [.ref dr, .int (tt + 1)])), (dr, .inl (cd, 300, .inl (upd (upd (upd fd ((tt - tt / 100 * 100) * 3).toNatClampNeg z1) (((tt - tt / 100 * 100) * 3) + 1).toNatClampNeg z2) (((tt - tt / 100 * 100) * 3) + 2).toNatClampNeg z3)))] := hD
  obtain rfl := Option.some.inj hG
  have hP9 := hP.sub (ws' := [(y, .inr (1, [.ref dr, .int (tt + 1)])), (dr, .inl (cd, 300, .inl (upd (upd (upd fd ((tt - tt / 100 * 100) * 3).toNatClampNeg z1) (((tt - tt / 100 * 100) * 3) + 1).toNatClampNeg z2) (((tt - tt / 100 * 100) * 3) + 2).toNatClampNeg z3)))]) [0, 1] rfl
  have hD9 := hD.sub (ws' := [(y, .inr (1, [.ref dr, .int (tt + 1)])), (dr, .inl (cd, 300, .inl (upd (upd (upd fd ((tt - tt / 100 * 100) * 3).toNatClampNeg z1) (((tt - tt / 100 * 100) * 3) + 1).toNatClampNeg z2) (((tt - tt / 100 * 100) * 3) + 2).toNatClampNeg z3)))]) [0, 1] (by decide) rfl
  have hK9 := hK.sub (tys' := [(cd, .int)]) [0] rfl
  exact W.vret hx hb hr (fun t ht hW => ⟨⟨(), rfl, trivial, by rw [ht]; exact hP9, va_K.moved hW.alike hK9, hD9⟩, hS.F ht⟩) hS.2.2 dX1_write_49

def F_X1_read (fd : Nat → Int32) (tt : Int32) (z1 : Int32) (z2 : Int32) : Option (Int32) := (if (((((tt - 1) - z1) - ((tt - 1) - z1) / 100 * 100) * 3) + z2) < 0 ∨ 300 ≤ ((((((tt - 1) - z1) - ((tt - 1) - z1) / 100 * 100) * 3) + z2)).toNatClampNeg then none else some ((fd (((((tt - 1) - z1) - ((tt - 1) - z1) / 100 * 100) * 3) + z2).toNatClampNeg)))
set_option maxHeartbeats 4000000 in
set_option maxRecDepth 100000 in
theorem c_X1_read (l : Launch) (dC : Nat → ClassId) (dI : Nat → Nat → Nat) (y : Nat) (dr : Nat) (cd : ClassId) (fd : Nat → Int32) (tt : Int32) (z1 : Int32) (z2 : Int32) (o : Int32) (hG : F_X1_read fd tt z1 z2 = some o) : Met l yX1_read (.code yX1_read cX1_read 3 (some .int) :: wA) ({ frames := 0, cells := 0, slots := 0, locals := 0 }) (va_Pc [.ref y, .int z1, .int z2] (q_R (dC, dI) [(y, .inr (1, [.ref dr, .int tt])), (dr, .inl (cd, 300, .inl fd))] [(cd, .int)])) (q_i o) 0 0 (fun _ => False) := by
  refine Met.ofW (cc := cX1_read) (maxL := 3) (ret := (some .int)) (by decide) rfl ?_
  intro p e s m args below meth c s₁ B hml hv
  obtain ⟨rfl, hP, hK⟩ := hv
  have hx := B.exec
  have hb := B.bytes
  have hr := B.returns
  have hts := atoms_spec (ws := .code yX1_read cX1_read 3 (some .int) :: wA) B.pre
  have hown : s.vm.findClass RX1 = some m.cls := findClass_of_methodNamed B.named
  have hlocks := B.notSynchronized
  have hS : va_S (fun _ => False) s.heap s.heap [] := va_S.rf
  have hl := lv_entry ([.ref y, .int z1, .int z2]) (n := 3) (Nat.le_of_ble_eq_true rfl)
  rw [lg_entry_eq]
  generalize (lg_sl ([.ref y, .int z1, .int z2]) ++ List.replicate (3 - (lg_sl ([.ref y, .int z1, .int z2])).length) Slot.unset).toArray = ls at hl ⊢
  have hl : lv_has ls 3 [(0, .ref y), (1, .int z1), (2, .int z2)] := hl
  unfold F_X1_read at hG
  refine lv_aload_n hx hb dX1_read_0 rfl (lv_at hl 0 rfl) ?_
  refine va_get (D := (dC, dI)) (ci := 1) (v := .ref dr) (C := RX1) (T := TX1) (N := 2) hx hb hts iA_1 hown hK hP 0 rfl rfl 0 (by decide) (hts (.fieldLink RX1 11 "HubTree$Diary" "rows" "[I") (List.mem_cons_of_mem _ m_105)) (fun _ h9 => h9) rfl dX1_read_1 ?_
  refine lv_aload_n hx hb dX1_read_4 rfl (lv_at hl 0 rfl) ?_
  refine va_get (D := (dC, dI)) (ci := 1) (v := .int tt) (C := RX1) (T := TX1) (N := 2) hx hb hts iA_1 hown hK hP 0 rfl rfl 1 (by decide) (hts (.fieldLink RX1 15 "HubTree$Diary" "total" "I") (List.mem_cons_of_mem _ m_106)) (fun _ h9 => h9) rfl dX1_read_5 ?_
  refine lv_iconst (v := 1) hx hb dX1_read_8 (by decide) ?_
  refine lv_isub hx hb dX1_read_9 ?_
  refine lv_iload_n hx hb dX1_read_10 rfl (lv_at hl 1 rfl) ?_
  refine lv_isub hx hb dX1_read_11 ?_
  refine lv_bipush (v := 100) hx hb dX1_read_12 (by decide) ?_
  refine lv_irem hx hb dX1_read_14 (by decide) ?_
  refine lv_iconst (v := 3) hx hb dX1_read_15 (by decide) ?_
  refine lv_imul hx hb dX1_read_16 ?_
  refine lv_iload_n hx hb dX1_read_17 rfl (lv_at hl 2 rfl) ?_
  refine lv_iadd hx hb dX1_read_18 ?_
  obtain ⟨h_1, hG⟩ := q_ix hG
  refine va_iald hx hb hK hP 1 0 rfl rfl (i := (((((tt - 1) - z1) - ((tt - 1) - z1) / 100 * 100) * 3) + z2)) h_1 dX1_read_19 ?_
  refine q_top (y := (fd (((((tt - 1) - z1) - ((tt - 1) - z1) / 100 * 100) * 3) + z2).toNatClampNeg)) rfl ?_
  obtain rfl := Option.some.inj hG
  exact W.iret (v := (fd (((((tt - 1) - z1) - ((tt - 1) - z1) / 100 * 100) * 3) + z2).toNatClampNeg)) hx hb hr (fun t ht hW => ⟨⟨(fd (((((tt - 1) - z1) - ((tt - 1) - z1) / 100 * 100) * 3) + z2).toNatClampNeg), (), rfl, rfl, trivial⟩, hS.F ht⟩) hS.2.2 dX1_read_20

def F_X1_forgetLatest (tt : Int32) : Option (Int32) := some ((if (tt - 1) < 0 then 0 else (tt - 1)))
set_option maxHeartbeats 4000000 in
set_option maxRecDepth 100000 in
theorem c_X1_forgetLatest (l : Launch) (dC : Nat → ClassId) (dI : Nat → Nat → Nat) (y : Nat) (dr : Nat) (tt : Int32) (A : Nat → Prop) (o : Int32) (hG : F_X1_forgetLatest tt = some o) : Met l yX1_forgetLatest (.code yX1_forgetLatest cX1_forgetLatest 1 none :: wA) ({ frames := 1, cells := 0, slots := 0, locals := 21 }) (va_Pc [.ref y] (q_W (dC, dI) A [(y, .inr (1, [.ref dr, .int tt]))] [])) (va_Qv (fun _ : Unit => True) (fun (_ : Unit) t => q_B (dC, dI) A [(y, .inr (1, [.ref dr, .int (o)]))] [] t) A) 0 0 A := by
  refine Met.ofW (cc := cX1_forgetLatest) (maxL := 1) (ret := none) (by decide) rfl ?_
  intro p e s m args below meth c s₁ B hml hv
  obtain ⟨rfl, hP, hK, hD, hA⟩ := hv
  have hx := B.exec
  have hb := B.bytes
  have hr := B.returns
  have hts := atoms_spec (ws := .code yX1_forgetLatest cX1_forgetLatest 1 none :: wA) B.pre
  have hown : s.vm.findClass RX1 = some m.cls := findClass_of_methodNamed B.named
  have hlocks := B.notSynchronized
  have hS : va_S A s.heap s.heap [] := va_S.rf
  have hl := lv_entry ([.ref y]) (n := 1) (Nat.le_of_ble_eq_true rfl)
  rw [lg_entry_eq]
  generalize (lg_sl ([.ref y]) ++ List.replicate (1 - (lg_sl ([.ref y])).length) Slot.unset).toArray = ls at hl ⊢
  have hl : lv_has ls 1 [(0, .ref y)] := hl
  unfold F_X1_forgetLatest at hG
  refine lv_aload_n hx hb dX1_forgetLatest_0 rfl (lv_at hl 0 rfl) ?_
  refine lv_aload_n hx hb dX1_forgetLatest_1 rfl (lv_at hl 0 rfl) ?_
  refine va_get (D := (dC, dI)) (ci := 1) (v := .int tt) (C := RX1) (T := TX1) (N := 2) hx hb hts iA_1 hown hK hP 0 rfl rfl 1 (by decide) (hts (.fieldLink RX1 15 "HubTree$Diary" "total" "I") (List.mem_cons_of_mem _ m_106)) (fun _ h9 => h9) rfl dX1_forgetLatest_2 ?_
  refine lv_iconst (v := 1) hx hb dX1_forgetLatest_5 (by decide) ?_
  refine lv_isub hx hb dX1_forgetLatest_6 ?_
  refine lv_iconst (v := 0) hx hb dX1_forgetLatest_7 (by decide) ?_
  refine va_mmax hx hb (by rw [hml, hl.1]) hown (hts (.methodLink RX1 25 Lib.Math.max.name) (List.mem_cons_of_mem _ m_1138)) (hts (.static Lib.Math.max.name) (List.mem_cons_of_mem _ m_223)) (hts (.initialized "java/lang/Math") (List.mem_cons_of_mem _ m_224)) (hts (.code Lib.Math.max.name Lib.Math.max.code 2 (some .int)) (List.mem_cons_of_mem _ m_225)) (Nat.le_of_ble_eq_true rfl) (Nat.le_of_ble_eq_true rfl) (Nat.zero_le _) (Nat.zero_le _) dX1_forgetLatest_8 ?_
  refine va_put (D := (dC, dI)) (ci := 1) (v := .int (if (tt - 1) < 0 then 0 else (tt - 1))) (ty := .int) (C := RX1) (T := TX1) (N := 2) hx hb hts iA_1 tyX1 tyX1_ok nmX1 hown hK hP hD hS 0 rfl rfl 1 (by decide) (hts (.fieldLink RX1 15 "HubTree$Diary" "total" "I") (List.mem_cons_of_mem _ m_106)) (fun _ h9 => h9) rfl (by decide +kernel) rfl rfl (Nat.le_of_ble_eq_true rfl) dX1_forgetLatest_11 (fun H locs hP hD hS => ?_)
  have hP : va_P (dC, dI) vwCl [(y, .inr (1, [.ref dr, .int (if (tt - 1) < 0 then 0 else (tt - 1))]))] H := hP
  have hD : va_D A [(y, .inr (1, [.ref dr, .int (if (tt - 1) < 0 then 0 else (tt - 1))]))] := hD
  obtain rfl := Option.some.inj hG
  have hP9 := hP.sub (ws' := [(y, .inr (1, [.ref dr, .int (if (tt - 1) < 0 then 0 else (tt - 1))]))]) [0] rfl
  have hD9 := hD.sub (ws' := [(y, .inr (1, [.ref dr, .int (if (tt - 1) < 0 then 0 else (tt - 1))]))]) [0] (by decide) rfl
  have hK9 := hK.sub (tys' := []) [] rfl
  exact W.vret hx hb hr (fun t ht hW => ⟨⟨(), rfl, trivial, by rw [ht]; exact hP9, va_K.moved hW.alike hK9, hD9⟩, hS.F ht⟩) hS.2.2 dX1_forgetLatest_14

def F_X1_copyFrom (fd : Nat → Int32) (fd2 : Nat → Int32) (tt2 : Int32) : Option ((Nat → Int32) × Int32) := some ((va_cpy fd2 fd 0 0 300), tt2)
set_option maxHeartbeats 4000000 in
set_option maxRecDepth 100000 in
theorem c_X1_copyFrom (l : Launch) (dC : Nat → ClassId) (dI : Nat → Nat → Nat) (y : Nat) (dr : Nat) (cd : ClassId) (fd : Nat → Int32) (tt : Int32) (y2 : Nat) (dr2 : Nat) (cd2 : ClassId) (fd2 : Nat → Int32) (tt2 : Int32) (A : Nat → Prop) (o : (Nat → Int32) × Int32) (hG : F_X1_copyFrom fd fd2 tt2 = some o) : Met l yX1_copyFrom (.code yX1_copyFrom cX1_copyFrom 2 none :: wA) ({ frames := 1, cells := 0, slots := 0, locals := 60 }) (va_Pc [.ref y, .ref y2] (q_W (dC, dI) A [(y, .inr (1, [.ref dr, .int tt])), (dr, .inl (cd, 300, .inl fd)), (y2, .inr (1, [.ref dr2, .int tt2])), (dr2, .inl (cd2, 300, .inl fd2))] [(cd, .int), (cd2, .int)])) (va_Qv (fun _ : Unit => True) (fun (_ : Unit) t => q_B (dC, dI) A [(y, .inr (1, [.ref dr, .int (o.2)])), (dr, .inl (cd, 300, .inl (o.1))), (y2, .inr (1, [.ref dr2, .int tt2])), (dr2, .inl (cd2, 300, .inl fd2))] [(cd, .int), (cd2, .int)] t) A) 0 0 A := by
  refine Met.ofW (cc := cX1_copyFrom) (maxL := 2) (ret := none) (by decide) rfl ?_
  intro p e s m args below meth c s₁ B hml hv
  obtain ⟨rfl, hP, hK, hD, hA⟩ := hv
  have hx := B.exec
  have hb := B.bytes
  have hr := B.returns
  have hts := atoms_spec (ws := .code yX1_copyFrom cX1_copyFrom 2 none :: wA) B.pre
  have hown : s.vm.findClass RX1 = some m.cls := findClass_of_methodNamed B.named
  have hlocks := B.notSynchronized
  have hS : va_S A s.heap s.heap [] := va_S.rf
  have hl := lv_entry ([.ref y, .ref y2]) (n := 2) (Nat.le_of_ble_eq_true rfl)
  rw [lg_entry_eq]
  generalize (lg_sl ([.ref y, .ref y2]) ++ List.replicate (2 - (lg_sl ([.ref y, .ref y2])).length) Slot.unset).toArray = ls at hl ⊢
  have hl : lv_has ls 2 [(0, .ref y), (1, .ref y2)] := hl
  unfold F_X1_copyFrom at hG
  refine lv_aload_n hx hb dX1_copyFrom_0 rfl (lv_at hl 1 rfl) ?_
  refine va_get (D := (dC, dI)) (ci := 1) (v := .ref dr2) (C := RX1) (T := TX1) (N := 2) hx hb hts iA_1 hown hK hP 2 rfl rfl 0 (by decide) (hts (.fieldLink RX1 11 "HubTree$Diary" "rows" "[I") (List.mem_cons_of_mem _ m_105)) (fun _ h9 => h9) rfl dX1_copyFrom_1 ?_
  refine lv_iconst (v := 0) hx hb dX1_copyFrom_4 (by decide) ?_
  refine lv_aload_n hx hb dX1_copyFrom_5 rfl (lv_at hl 0 rfl) ?_
  refine va_get (D := (dC, dI)) (ci := 1) (v := .ref dr) (C := RX1) (T := TX1) (N := 2) hx hb hts iA_1 hown hK hP 0 rfl rfl 0 (by decide) (hts (.fieldLink RX1 11 "HubTree$Diary" "rows" "[I") (List.mem_cons_of_mem _ m_105)) (fun _ h9 => h9) rfl dX1_copyFrom_6 ?_
  refine lv_iconst (v := 0) hx hb dX1_copyFrom_9 (by decide) ?_
  refine lv_aload_n hx hb dX1_copyFrom_10 rfl (lv_at hl 0 rfl) ?_
  refine va_get (D := (dC, dI)) (ci := 1) (v := .ref dr) (C := RX1) (T := TX1) (N := 2) hx hb hts iA_1 hown hK hP 0 rfl rfl 0 (by decide) (hts (.fieldLink RX1 11 "HubTree$Diary" "rows" "[I") (List.mem_cons_of_mem _ m_105)) (fun _ h9 => h9) rfl dX1_copyFrom_11 ?_
  refine va_alen hx hb hK hP 1 0 rfl rfl (v := 300) rfl dX1_copyFrom_14 ?_
  refine va_copyi hx hb (by rw [hml, hl.1]) hown (hts (.methodLink RX1 28 arraycopyName) (List.mem_cons_of_mem _ m_1402)) (hts (.native arraycopyName) (List.mem_cons_of_mem _ m_177)) (hts (.static arraycopyName) (List.mem_cons_of_mem _ m_178)) (hts (.initialized "java/lang/System") (List.mem_cons_of_mem _ m_179)) hK hP hD hS 3 1 1 0 rfl rfl rfl rfl rfl (by decide) (by decide) (by decide) (by decide) (by decide) (fun _ _ => rfl) (Nat.le_of_ble_eq_true rfl) (Nat.le_of_ble_eq_true rfl) dX1_copyFrom_15 (fun H locs hP hD hS => ?_)
  have hP : va_P (dC, dI) vwCl [(y, .inr (1, [.ref dr, .int tt])), (dr, .inl (cd, 300, .inl (va_cpy fd2 fd 0 0 300))), (y2, .inr (1, [.ref dr2, .int tt2])), (dr2, .inl (cd2, 300, .inl fd2))] H := hP
  have hD : va_D A [(y, .inr (1, [.ref dr, .int tt])), (dr, .inl (cd, 300, .inl (va_cpy fd2 fd 0 0 300))), (y2, .inr (1, [.ref dr2, .int tt2])), (dr2, .inl (cd2, 300, .inl fd2))] := hD
  refine lv_aload_n hx hb dX1_copyFrom_18 rfl (lv_at hl 0 rfl) ?_
  refine lv_aload_n hx hb dX1_copyFrom_19 rfl (lv_at hl 1 rfl) ?_
  refine va_get (D := (dC, dI)) (ci := 1) (v := .int tt2) (C := RX1) (T := TX1) (N := 2) hx hb hts iA_1 hown hK hP 2 rfl rfl 1 (by decide) (hts (.fieldLink RX1 15 "HubTree$Diary" "total" "I") (List.mem_cons_of_mem _ m_106)) (fun _ h9 => h9) rfl dX1_copyFrom_20 ?_
  refine va_put (D := (dC, dI)) (ci := 1) (v := .int tt2) (ty := .int) (C := RX1) (T := TX1) (N := 2) hx hb hts iA_1 tyX1 tyX1_ok nmX1 hown hK hP hD hS 0 rfl rfl 1 (by decide) (hts (.fieldLink RX1 15 "HubTree$Diary" "total" "I") (List.mem_cons_of_mem _ m_106)) (fun _ h9 => h9) rfl (by decide +kernel) rfl rfl (Nat.le_of_ble_eq_true rfl) dX1_copyFrom_23 (fun H locs hP hD hS => ?_)
  have hP : va_P (dC, dI) vwCl [(y, .inr (1, [.ref dr, .int tt2])), (dr, .inl (cd, 300, .inl (va_cpy fd2 fd 0 0 300))), (y2, .inr (1, [.ref dr2, .int tt2])), (dr2, .inl (cd2, 300, .inl fd2))] H := hP
  have hD : va_D A [(y, .inr (1, [.ref dr, .int tt2])), (dr, .inl (cd, 300, .inl (va_cpy fd2 fd 0 0 300))), (y2, .inr (1, [.ref dr2, .int tt2])), (dr2, .inl (cd2, 300, .inl fd2))] := hD
  obtain rfl := Option.some.inj hG
  have hP9 := hP.sub (ws' := [(y, .inr (1, [.ref dr, .int tt2])), (dr, .inl (cd, 300, .inl (va_cpy fd2 fd 0 0 300))), (y2, .inr (1, [.ref dr2, .int tt2])), (dr2, .inl (cd2, 300, .inl fd2))]) [0, 1, 2, 3] rfl
  have hD9 := hD.sub (ws' := [(y, .inr (1, [.ref dr, .int tt2])), (dr, .inl (cd, 300, .inl (va_cpy fd2 fd 0 0 300))), (y2, .inr (1, [.ref dr2, .int tt2])), (dr2, .inl (cd2, 300, .inl fd2))]) [0, 1, 2, 3] (by decide) rfl
  have hK9 := hK.sub (tys' := [(cd, .int), (cd2, .int)]) [0, 1] rfl
  exact W.vret hx hb hr (fun t ht hW => ⟨⟨(), rfl, trivial, by rw [ht]; exact hP9, va_K.moved hW.alike hK9, hD9⟩, hS.F ht⟩) hS.2.2 dX1_copyFrom_26

def F_X4_keep (fq : Nat → Int32) (nx : Int32) (ph : Int32) (fr : Nat → Int32) : Option ((Nat → Int32) × Int32 × Int32) := (if ¬ (nx * 98) < 0 then (if (nx * 98).toNatClampNeg + 98 ≤ 3920 then some ((va_cpy fr fq 0 ((nx * 98).toNatClampNeg) 98), ((nx + 1) - (nx + 1) / 40 * 40), (if 40 < (ph + 1) then 40 else (ph + 1))) else none) else none)
set_option maxHeartbeats 4000000 in
set_option maxRecDepth 100000 in
theorem c_X4_keep (l : Launch) (dC : Nat → ClassId) (dI : Nat → Nat → Nat) (pa : Nat) (pr : Nat) (cq : ClassId) (fq : Nat → Int32) (nx : Int32) (ph : Int32) (g : Nat) (r0 : Nat) (h : Nat) (c0 : ClassId) (fr : Nat → Int32) (A : Nat → Prop) (o : (Nat → Int32) × Int32 × Int32) (hG : F_X4_keep fq nx ph fr = some o) : Met l yX4_keep (.code yX4_keep cX4_keep 2 none :: wA) ({ frames := 1, cells := 0, slots := 0, locals := 60 }) (va_Pc [.ref pa, .ref g] (q_W (dC, dI) A [(pa, .inr (4, [.ref pr, .int nx, .int ph])), (pr, .inl (cq, 3920, .inl fq)), (g, .inr (0, [.ref r0, .ref h])), (r0, .inl (c0, 98, .inl fr))] [(cq, .int), (c0, .int)])) (va_Qv (fun _ : Unit => True) (fun (_ : Unit) t => q_B (dC, dI) A [(pa, .inr (4, [.ref pr, .int (o.2.1), .int (o.2.2)])), (pr, .inl (cq, 3920, .inl (o.1))), (g, .inr (0, [.ref r0, .ref h])), (r0, .inl (c0, 98, .inl fr))] [(cq, .int), (c0, .int)] t) A) 0 0 A := by
  refine Met.ofW (cc := cX4_keep) (maxL := 2) (ret := none) (by decide) rfl ?_
  intro p e s m args below meth c s₁ B hml hv
  obtain ⟨rfl, hP, hK, hD, hA⟩ := hv
  have hx := B.exec
  have hb := B.bytes
  have hr := B.returns
  have hts := atoms_spec (ws := .code yX4_keep cX4_keep 2 none :: wA) B.pre
  have hown : s.vm.findClass RX4 = some m.cls := findClass_of_methodNamed B.named
  have hlocks := B.notSynchronized
  have hS : va_S A s.heap s.heap [] := va_S.rf
  have hl := lv_entry ([.ref pa, .ref g]) (n := 2) (Nat.le_of_ble_eq_true rfl)
  rw [lg_entry_eq]
  generalize (lg_sl ([.ref pa, .ref g]) ++ List.replicate (2 - (lg_sl ([.ref pa, .ref g])).length) Slot.unset).toArray = ls at hl ⊢
  have hl : lv_has ls 2 [(0, .ref pa), (1, .ref g)] := hl
  unfold F_X4_keep at hG
  refine lv_aload_n hx hb dX4_keep_0 rfl (lv_at hl 1 rfl) ?_
  refine va_get (D := (dC, dI)) (ci := 0) (v := .ref r0) (C := RX0) (T := TX0) (N := 2) hx hb hts iA_0 hown hK hP 2 rfl rfl 0 (by decide) (hts (.fieldLink RX4 24 "HubTree$Bus" "row" "[I") (List.mem_cons_of_mem _ m_796)) (fun _ h9 => h9) rfl dX4_keep_1 ?_
  refine lv_iconst (v := 0) hx hb dX4_keep_4 (by decide) ?_
  refine lv_aload_n hx hb dX4_keep_5 rfl (lv_at hl 0 rfl) ?_
  refine va_get (D := (dC, dI)) (ci := 4) (v := .ref pr) (C := RX4) (T := TX4) (N := 3) hx hb hts iA_4 hown hK hP 0 rfl rfl 0 (by decide) (hts (.fieldLink RX4 11 "HubTree$Past" "rows" "[I") (List.mem_cons_of_mem _ m_99)) (fun _ h9 => h9) rfl dX4_keep_6 ?_
  refine lv_aload_n hx hb dX4_keep_9 rfl (lv_at hl 0 rfl) ?_
  refine va_get (D := (dC, dI)) (ci := 4) (v := .int nx) (C := RX4) (T := TX4) (N := 3) hx hb hts iA_4 hown hK hP 0 rfl rfl 1 (by decide) (hts (.fieldLink RX4 17 "HubTree$Past" "next" "I") (List.mem_cons_of_mem _ m_100)) (fun _ h9 => h9) rfl dX4_keep_10 ?_
  refine lv_bipush (v := 98) hx hb dX4_keep_13 (by decide) ?_
  refine lv_imul hx hb dX4_keep_15 ?_
  refine lv_bipush (v := 98) hx hb dX4_keep_16 (by decide) ?_
  obtain ⟨g_1, hG⟩ := q_gu hG
  obtain ⟨g_2, hG⟩ := q_gu hG
  refine va_copyi hx hb (by rw [hml, hl.1]) hown (hts (.methodLink RX4 27 arraycopyName) (List.mem_cons_of_mem _ m_797)) (hts (.native arraycopyName) (List.mem_cons_of_mem _ m_177)) (hts (.static arraycopyName) (List.mem_cons_of_mem _ m_178)) (hts (.initialized "java/lang/System") (List.mem_cons_of_mem _ m_179)) hK hP hD hS 3 1 1 0 rfl rfl rfl rfl rfl (by decide) g_1 (by decide) (by decide) g_2 (fun _ _ => rfl) (Nat.le_of_ble_eq_true rfl) (Nat.le_of_ble_eq_true rfl) dX4_keep_18 (fun H locs hP hD hS => ?_)
  have hP : va_P (dC, dI) vwCl [(pa, .inr (4, [.ref pr, .int nx, .int ph])), (pr, .inl (cq, 3920, .inl (va_cpy fr fq 0 ((nx * 98).toNatClampNeg) 98))), (g, .inr (0, [.ref r0, .ref h])), (r0, .inl (c0, 98, .inl fr))] H := hP
  have hD : va_D A [(pa, .inr (4, [.ref pr, .int nx, .int ph])), (pr, .inl (cq, 3920, .inl (va_cpy fr fq 0 ((nx * 98).toNatClampNeg) 98))), (g, .inr (0, [.ref r0, .ref h])), (r0, .inl (c0, 98, .inl fr))] := hD
  refine lv_aload_n hx hb dX4_keep_21 rfl (lv_at hl 0 rfl) ?_
  refine lv_aload_n hx hb dX4_keep_22 rfl (lv_at hl 0 rfl) ?_
  refine va_get (D := (dC, dI)) (ci := 4) (v := .int nx) (C := RX4) (T := TX4) (N := 3) hx hb hts iA_4 hown hK hP 0 rfl rfl 1 (by decide) (hts (.fieldLink RX4 17 "HubTree$Past" "next" "I") (List.mem_cons_of_mem _ m_100)) (fun _ h9 => h9) rfl dX4_keep_23 ?_
  refine lv_iconst (v := 1) hx hb dX4_keep_26 (by decide) ?_
  refine lv_iadd hx hb dX4_keep_27 ?_
  refine lv_bipush (v := 40) hx hb dX4_keep_28 (by decide) ?_
  refine lv_irem hx hb dX4_keep_30 (by decide) ?_
  refine va_put (D := (dC, dI)) (ci := 4) (v := .int ((nx + 1) - (nx + 1) / 40 * 40)) (ty := .int) (C := RX4) (T := TX4) (N := 3) hx hb hts iA_4 tyX4 tyX4_ok nmX4 hown hK hP hD hS 0 rfl rfl 1 (by decide) (hts (.fieldLink RX4 17 "HubTree$Past" "next" "I") (List.mem_cons_of_mem _ m_100)) (fun _ h9 => h9) rfl (by decide +kernel) rfl rfl (Nat.le_of_ble_eq_true rfl) dX4_keep_31 (fun H locs hP hD hS => ?_)
  have hP : va_P (dC, dI) vwCl [(pa, .inr (4, [.ref pr, .int ((nx + 1) - (nx + 1) / 40 * 40), .int ph])), (pr, .inl (cq, 3920, .inl (va_cpy fr fq 0 ((nx * 98).toNatClampNeg) 98))), (g, .inr (0, [.ref r0, .ref h])), (r0, .inl (c0, 98, .inl fr))] H := hP
  have hD : va_D A [(pa, .inr (4, [.ref pr, .int ((nx + 1) - (nx + 1) / 40 * 40), .int ph])), (pr, .inl (cq, 3920, .inl (va_cpy fr fq 0 ((nx * 98).toNatClampNeg) 98))), (g, .inr (0, [.ref r0, .ref h])), (r0, .inl (c0, 98, .inl fr))] := hD
  refine lv_aload_n hx hb dX4_keep_34 rfl (lv_at hl 0 rfl) ?_
  refine lv_aload_n hx hb dX4_keep_35 rfl (lv_at hl 0 rfl) ?_
  refine va_get (D := (dC, dI)) (ci := 4) (v := .int ph) (C := RX4) (T := TX4) (N := 3) hx hb hts iA_4 hown hK hP 0 rfl rfl 2 (by decide) (hts (.fieldLink RX4 21 "HubTree$Past" "held" "I") (List.mem_cons_of_mem _ m_101)) (fun _ h9 => h9) rfl dX4_keep_36 ?_
  refine lv_iconst (v := 1) hx hb dX4_keep_39 (by decide) ?_
  refine lv_iadd hx hb dX4_keep_40 ?_
  refine lv_bipush (v := 40) hx hb dX4_keep_41 (by decide) ?_
  refine va_mmin hx hb (by rw [hml, hl.1]) hown (hts (.methodLink RX4 33 Lib.Math.min.name) (List.mem_cons_of_mem _ m_798)) (hts (.static Lib.Math.min.name) (List.mem_cons_of_mem _ m_227)) (hts (.initialized "java/lang/Math") (List.mem_cons_of_mem _ m_224)) (hts (.code Lib.Math.min.name Lib.Math.min.code 2 (some .int)) (List.mem_cons_of_mem _ m_228)) (Nat.le_of_ble_eq_true rfl) (Nat.le_of_ble_eq_true rfl) (Nat.zero_le _) (Nat.zero_le _) dX4_keep_43 ?_
  refine va_put (D := (dC, dI)) (ci := 4) (v := .int (if 40 < (ph + 1) then 40 else (ph + 1))) (ty := .int) (C := RX4) (T := TX4) (N := 3) hx hb hts iA_4 tyX4 tyX4_ok nmX4 hown hK hP hD hS 0 rfl rfl 2 (by decide) (hts (.fieldLink RX4 21 "HubTree$Past" "held" "I") (List.mem_cons_of_mem _ m_101)) (fun _ h9 => h9) rfl (by decide +kernel) rfl rfl (Nat.le_of_ble_eq_true rfl) dX4_keep_46 (fun H locs hP hD hS => ?_)
  have hP : va_P (dC, dI) vwCl [(pa, .inr (4, [.ref pr, .int ((nx + 1) - (nx + 1) / 40 * 40), .int (if 40 < (ph + 1) then 40 else (ph + 1))])), (pr, .inl (cq, 3920, .inl (va_cpy fr fq 0 ((nx * 98).toNatClampNeg) 98))), (g, .inr (0, [.ref r0, .ref h])), (r0, .inl (c0, 98, .inl fr))] H := hP
  have hD : va_D A [(pa, .inr (4, [.ref pr, .int ((nx + 1) - (nx + 1) / 40 * 40), .int (if 40 < (ph + 1) then 40 else (ph + 1))])), (pr, .inl (cq, 3920, .inl (va_cpy fr fq 0 ((nx * 98).toNatClampNeg) 98))), (g, .inr (0, [.ref r0, .ref h])), (r0, .inl (c0, 98, .inl fr))] := hD
  obtain rfl := Option.some.inj hG
  have hP9 := hP.sub (ws' := [(pa, .inr (4, [.ref pr, .int ((nx + 1) - (nx + 1) / 40 * 40), .int (if 40 < (ph + 1) then 40 else (ph + 1))])), (pr, .inl (cq, 3920, .inl (va_cpy fr fq 0 ((nx * 98).toNatClampNeg) 98))), (g, .inr (0, [.ref r0, .ref h])), (r0, .inl (c0, 98, .inl fr))]) [0, 1, 2, 3] rfl
  have hD9 := hD.sub (ws' := [(pa, .inr (4, [.ref pr, .int ((nx + 1) - (nx + 1) / 40 * 40), .int (if 40 < (ph + 1) then 40 else (ph + 1))])), (pr, .inl (cq, 3920, .inl (va_cpy fr fq 0 ((nx * 98).toNatClampNeg) 98))), (g, .inr (0, [.ref r0, .ref h])), (r0, .inl (c0, 98, .inl fr))]) [0, 1, 2, 3] (by decide) rfl
  have hK9 := hK.sub (tys' := [(cq, .int), (c0, .int)]) [0, 1] rfl
  exact W.vret hx hb hr (fun t ht hW => ⟨⟨(), rfl, trivial, by rw [ht]; exact hP9, va_K.moved hW.alike hK9, hD9⟩, hS.F ht⟩) hS.2.2 dX4_keep_49

def F_X4_restore (fq : Nat → Int32) (nx : Int32) (ph : Int32) (fr : Nat → Int32) : Option (Int32 × Int32 × (Nat → Int32)) := (if ph ≤ 0 then some (nx, ph, fr) else (if ¬ ((((nx + 40) - 1) - ((nx + 40) - 1) / 40 * 40) * 98) < 0 then (if ((((nx + 40) - 1) - ((nx + 40) - 1) / 40 * 40) * 98).toNatClampNeg + 98 ≤ 3920 then some ((((nx + 40) - 1) - ((nx + 40) - 1) / 40 * 40), (ph - 1), (va_cpy fq fr (((((nx + 40) - 1) - ((nx + 40) - 1) / 40 * 40) * 98).toNatClampNeg) 0 98)) else none) else none))
set_option maxHeartbeats 4000000 in
set_option maxRecDepth 100000 in
theorem c_X4_restore (l : Launch) (dC : Nat → ClassId) (dI : Nat → Nat → Nat) (pa : Nat) (pr : Nat) (cq : ClassId) (fq : Nat → Int32) (nx : Int32) (ph : Int32) (g : Nat) (r0 : Nat) (h : Nat) (c0 : ClassId) (fr : Nat → Int32) (A : Nat → Prop) (o : Int32 × Int32 × (Nat → Int32)) (hG : F_X4_restore fq nx ph fr = some o) : Met l yX4_restore (.code yX4_restore cX4_restore 2 none :: wA) ({ frames := 1, cells := 0, slots := 0, locals := 60 }) (va_Pc [.ref pa, .ref g] (q_W (dC, dI) A [(pa, .inr (4, [.ref pr, .int nx, .int ph])), (pr, .inl (cq, 3920, .inl fq)), (g, .inr (0, [.ref r0, .ref h])), (r0, .inl (c0, 98, .inl fr))] [(cq, .int), (c0, .int)])) (va_Qv (fun _ : Unit => True) (fun (_ : Unit) t => q_B (dC, dI) A [(pa, .inr (4, [.ref pr, .int (o.1), .int (o.2.1)])), (pr, .inl (cq, 3920, .inl fq)), (g, .inr (0, [.ref r0, .ref h])), (r0, .inl (c0, 98, .inl (o.2.2)))] [(cq, .int), (c0, .int)] t) A) 0 0 A := by
  refine Met.ofW (cc := cX4_restore) (maxL := 2) (ret := none) (by decide) rfl ?_
  intro p e s m args below meth c s₁ B hml hv
  obtain ⟨rfl, hP, hK, hD, hA⟩ := hv
  have hx := B.exec
  have hb := B.bytes
  have hr := B.returns
  have hts := atoms_spec (ws := .code yX4_restore cX4_restore 2 none :: wA) B.pre
  have hown : s.vm.findClass RX4 = some m.cls := findClass_of_methodNamed B.named
  have hlocks := B.notSynchronized
  have hS : va_S A s.heap s.heap [] := va_S.rf
  have hl := lv_entry ([.ref pa, .ref g]) (n := 2) (Nat.le_of_ble_eq_true rfl)
  rw [lg_entry_eq]
  generalize (lg_sl ([.ref pa, .ref g]) ++ List.replicate (2 - (lg_sl ([.ref pa, .ref g])).length) Slot.unset).toArray = ls at hl ⊢
  have hl : lv_has ls 2 [(0, .ref pa), (1, .ref g)] := hl
  unfold F_X4_restore at hG
  refine lv_aload_n hx hb dX4_restore_0 rfl (lv_at hl 0 rfl) ?_
  refine va_get (D := (dC, dI)) (ci := 4) (v := .int ph) (C := RX4) (T := TX4) (N := 3) hx hb hts iA_4 hown hK hP 0 rfl rfl 2 (by decide) (hts (.fieldLink RX4 21 "HubTree$Past" "held" "I") (List.mem_cons_of_mem _ m_101)) (fun _ h9 => h9) rfl dX4_restore_1 ?_
  refine lv_if_le (tgt := 54) hx hb dX4_restore_4 (by decide) (fun c_1 => ?_) (fun c_1 => ?_)
  · have hG := q_ifp c_1 hG
    obtain rfl := Option.some.inj hG
    have hP9 := hP.sub (ws' := [(pa, .inr (4, [.ref pr, .int nx, .int ph])), (pr, .inl (cq, 3920, .inl fq)), (g, .inr (0, [.ref r0, .ref h])), (r0, .inl (c0, 98, .inl fr))]) [0, 1, 2, 3] rfl
    have hD9 := hD.sub (ws' := [(pa, .inr (4, [.ref pr, .int nx, .int ph])), (pr, .inl (cq, 3920, .inl fq)), (g, .inr (0, [.ref r0, .ref h])), (r0, .inl (c0, 98, .inl fr))]) [0, 1, 2, 3] (by decide) rfl
    have hK9 := hK.sub (tys' := [(cq, .int), (c0, .int)]) [0, 1] rfl
    exact W.vret hx hb hr (fun t ht hW => ⟨⟨(), rfl, trivial, by rw [ht]; exact hP9, va_K.moved hW.alike hK9, hD9⟩, hS.F ht⟩) hS.2.2 dX4_restore_54
  · have hG := q_ifn c_1 hG
    refine lv_aload_n hx hb dX4_restore_7 rfl (lv_at hl 0 rfl) ?_
    refine lv_aload_n hx hb dX4_restore_8 rfl (lv_at hl 0 rfl) ?_
    refine va_get (D := (dC, dI)) (ci := 4) (v := .int nx) (C := RX4) (T := TX4) (N := 3) hx hb hts iA_4 hown hK hP 0 rfl rfl 1 (by decide) (hts (.fieldLink RX4 17 "HubTree$Past" "next" "I") (List.mem_cons_of_mem _ m_100)) (fun _ h9 => h9) rfl dX4_restore_9 ?_
    refine lv_bipush (v := 40) hx hb dX4_restore_12 (by decide) ?_
    refine lv_iadd hx hb dX4_restore_14 ?_
    refine lv_iconst (v := 1) hx hb dX4_restore_15 (by decide) ?_
    refine lv_isub hx hb dX4_restore_16 ?_
    refine lv_bipush (v := 40) hx hb dX4_restore_17 (by decide) ?_
    refine lv_irem hx hb dX4_restore_19 (by decide) ?_
    refine va_put (D := (dC, dI)) (ci := 4) (v := .int (((nx + 40) - 1) - ((nx + 40) - 1) / 40 * 40)) (ty := .int) (C := RX4) (T := TX4) (N := 3) hx hb hts iA_4 tyX4 tyX4_ok nmX4 hown hK hP hD hS 0 rfl rfl 1 (by decide) (hts (.fieldLink RX4 17 "HubTree$Past" "next" "I") (List.mem_cons_of_mem _ m_100)) (fun _ h9 => h9) rfl (by decide +kernel) rfl rfl (Nat.le_of_ble_eq_true rfl) dX4_restore_20 (fun H locs hP hD hS => ?_)
    have hP : va_P (dC, dI) vwCl [(pa, .inr (4, [.ref pr, .int (((nx + 40) - 1) - ((nx + 40) - 1) / 40 * 40), .int ph])), (pr, .inl (cq, 3920, .inl fq)), (g, .inr (0, [.ref r0, .ref h])), (r0, .inl (c0, 98, .inl fr))] H := hP
    have hD : va_D A [(pa, .inr (4, [.ref pr, .int (((nx + 40) - 1) - ((nx + 40) - 1) / 40 * 40), .int ph])), (pr, .inl (cq, 3920, .inl fq)), (g, .inr (0, [.ref r0, .ref h])), (r0, .inl (c0, 98, .inl fr))] := hD
    refine lv_aload_n hx hb dX4_restore_23 rfl (lv_at hl 0 rfl) ?_
    refine lv_dup hx hb dX4_restore_24 rfl ?_
    refine va_get (D := (dC, dI)) (ci := 4) (v := .int ph) (C := RX4) (T := TX4) (N := 3) hx hb hts iA_4 hown hK hP 0 rfl rfl 2 (by decide) (hts (.fieldLink RX4 21 "HubTree$Past" "held" "I") (List.mem_cons_of_mem _ m_101)) (fun _ h9 => h9) rfl dX4_restore_25 ?_
    refine lv_iconst (v := 1) hx hb dX4_restore_28 (by decide) ?_
    refine lv_isub hx hb dX4_restore_29 ?_
    refine va_put (D := (dC, dI)) (ci := 4) (v := .int (ph - 1)) (ty := .int) (C := RX4) (T := TX4) (N := 3) hx hb hts iA_4 tyX4 tyX4_ok nmX4 hown hK hP hD hS 0 rfl rfl 2 (by decide) (hts (.fieldLink RX4 21 "HubTree$Past" "held" "I") (List.mem_cons_of_mem _ m_101)) (fun _ h9 => h9) rfl (by decide +kernel) rfl rfl (Nat.le_of_ble_eq_true rfl) dX4_restore_30 (fun H locs hP hD hS => ?_)
    have hP : va_P (dC, dI) vwCl [(pa, .inr (4, [.ref pr, .int (((nx + 40) - 1) - ((nx + 40) - 1) / 40 * 40), .int (ph - 1)])), (pr, .inl (cq, 3920, .inl fq)), (g, .inr (0, [.ref r0, .ref h])), (r0, .inl (c0, 98, .inl fr))] H := hP
    have hD : va_D A [(pa, .inr (4, [.ref pr, .int (((nx + 40) - 1) - ((nx + 40) - 1) / 40 * 40), .int (ph - 1)])), (pr, .inl (cq, 3920, .inl fq)), (g, .inr (0, [.ref r0, .ref h])), (r0, .inl (c0, 98, .inl fr))] := hD
    refine lv_aload_n hx hb dX4_restore_33 rfl (lv_at hl 0 rfl) ?_
    refine va_get (D := (dC, dI)) (ci := 4) (v := .ref pr) (C := RX4) (T := TX4) (N := 3) hx hb hts iA_4 hown hK hP 0 rfl rfl 0 (by decide) (hts (.fieldLink RX4 11 "HubTree$Past" "rows" "[I") (List.mem_cons_of_mem _ m_99)) (fun _ h9 => h9) rfl dX4_restore_34 ?_
    refine lv_aload_n hx hb dX4_restore_37 rfl (lv_at hl 0 rfl) ?_
    refine va_get (D := (dC, dI)) (ci := 4) (v := .int (((nx + 40) - 1) - ((nx + 40) - 1) / 40 * 40)) (C := RX4) (T := TX4) (N := 3) hx hb hts iA_4 hown hK hP 0 rfl rfl 1 (by decide) (hts (.fieldLink RX4 17 "HubTree$Past" "next" "I") (List.mem_cons_of_mem _ m_100)) (fun _ h9 => h9) rfl dX4_restore_38 ?_
    refine lv_bipush (v := 98) hx hb dX4_restore_41 (by decide) ?_
    refine lv_imul hx hb dX4_restore_43 ?_
    refine lv_aload_n hx hb dX4_restore_44 rfl (lv_at hl 1 rfl) ?_
    refine va_get (D := (dC, dI)) (ci := 0) (v := .ref r0) (C := RX0) (T := TX0) (N := 2) hx hb hts iA_0 hown hK hP 2 rfl rfl 0 (by decide) (hts (.fieldLink RX4 24 "HubTree$Bus" "row" "[I") (List.mem_cons_of_mem _ m_796)) (fun _ h9 => h9) rfl dX4_restore_45 ?_
    refine lv_iconst (v := 0) hx hb dX4_restore_48 (by decide) ?_
    refine lv_bipush (v := 98) hx hb dX4_restore_49 (by decide) ?_
    obtain ⟨g_2, hG⟩ := q_gu hG
    obtain ⟨g_3, hG⟩ := q_gu hG
    refine va_copyi hx hb (by rw [hml, hl.1]) hown (hts (.methodLink RX4 27 arraycopyName) (List.mem_cons_of_mem _ m_797)) (hts (.native arraycopyName) (List.mem_cons_of_mem _ m_177)) (hts (.static arraycopyName) (List.mem_cons_of_mem _ m_178)) (hts (.initialized "java/lang/System") (List.mem_cons_of_mem _ m_179)) hK hP hD hS 1 3 0 1 rfl rfl rfl rfl rfl g_2 (by decide) (by decide) g_3 (by decide) (fun _ _ => rfl) (Nat.le_of_ble_eq_true rfl) (Nat.le_of_ble_eq_true rfl) dX4_restore_51 (fun H locs hP hD hS => ?_)
    have hP : va_P (dC, dI) vwCl [(pa, .inr (4, [.ref pr, .int (((nx + 40) - 1) - ((nx + 40) - 1) / 40 * 40), .int (ph - 1)])), (pr, .inl (cq, 3920, .inl fq)), (g, .inr (0, [.ref r0, .ref h])), (r0, .inl (c0, 98, .inl (va_cpy fq fr (((((nx + 40) - 1) - ((nx + 40) - 1) / 40 * 40) * 98).toNatClampNeg) 0 98)))] H := hP
    have hD : va_D A [(pa, .inr (4, [.ref pr, .int (((nx + 40) - 1) - ((nx + 40) - 1) / 40 * 40), .int (ph - 1)])), (pr, .inl (cq, 3920, .inl fq)), (g, .inr (0, [.ref r0, .ref h])), (r0, .inl (c0, 98, .inl (va_cpy fq fr (((((nx + 40) - 1) - ((nx + 40) - 1) / 40 * 40) * 98).toNatClampNeg) 0 98)))] := hD
    obtain rfl := Option.some.inj hG
    have hP9 := hP.sub (ws' := [(pa, .inr (4, [.ref pr, .int (((nx + 40) - 1) - ((nx + 40) - 1) / 40 * 40), .int (ph - 1)])), (pr, .inl (cq, 3920, .inl fq)), (g, .inr (0, [.ref r0, .ref h])), (r0, .inl (c0, 98, .inl (va_cpy fq fr (((((nx + 40) - 1) - ((nx + 40) - 1) / 40 * 40) * 98).toNatClampNeg) 0 98)))]) [0, 1, 2, 3] rfl
    have hD9 := hD.sub (ws' := [(pa, .inr (4, [.ref pr, .int (((nx + 40) - 1) - ((nx + 40) - 1) / 40 * 40), .int (ph - 1)])), (pr, .inl (cq, 3920, .inl fq)), (g, .inr (0, [.ref r0, .ref h])), (r0, .inl (c0, 98, .inl (va_cpy fq fr (((((nx + 40) - 1) - ((nx + 40) - 1) / 40 * 40) * 98).toNatClampNeg) 0 98)))]) [0, 1, 2, 3] (by decide) rfl
    have hK9 := hK.sub (tys' := [(cq, .int), (c0, .int)]) [0, 1] rfl
    exact W.vret hx hb hr (fun t ht hW => ⟨⟨(), rfl, trivial, by rw [ht]; exact hP9, va_K.moved hW.alike hK9, hD9⟩, hS.F ht⟩) hS.2.2 dX4_restore_54

def F_X4_forget : Option (Int32) := some (0)
set_option maxHeartbeats 4000000 in
set_option maxRecDepth 100000 in
theorem c_X4_forget (l : Launch) (dC : Nat → ClassId) (dI : Nat → Nat → Nat) (pa : Nat) (pr : Nat) (nx : Int32) (ph : Int32) (A : Nat → Prop) (o : Int32) (hG : F_X4_forget = some o) : Met l yX4_forget (.code yX4_forget cX4_forget 1 none :: wA) ({ frames := 0, cells := 0, slots := 0, locals := 0 }) (va_Pc [.ref pa] (q_W (dC, dI) A [(pa, .inr (4, [.ref pr, .int nx, .int ph]))] [])) (va_Qv (fun _ : Unit => True) (fun (_ : Unit) t => q_B (dC, dI) A [(pa, .inr (4, [.ref pr, .int nx, .int (o)]))] [] t) A) 0 0 A := by
  refine Met.ofW (cc := cX4_forget) (maxL := 1) (ret := none) (by decide) rfl ?_
  intro p e s m args below meth c s₁ B hml hv
  obtain ⟨rfl, hP, hK, hD, hA⟩ := hv
  have hx := B.exec
  have hb := B.bytes
  have hr := B.returns
  have hts := atoms_spec (ws := .code yX4_forget cX4_forget 1 none :: wA) B.pre
  have hown : s.vm.findClass RX4 = some m.cls := findClass_of_methodNamed B.named
  have hlocks := B.notSynchronized
  have hS : va_S A s.heap s.heap [] := va_S.rf
  have hl := lv_entry ([.ref pa]) (n := 1) (Nat.le_of_ble_eq_true rfl)
  rw [lg_entry_eq]
  generalize (lg_sl ([.ref pa]) ++ List.replicate (1 - (lg_sl ([.ref pa])).length) Slot.unset).toArray = ls at hl ⊢
  have hl : lv_has ls 1 [(0, .ref pa)] := hl
  unfold F_X4_forget at hG
  refine lv_aload_n hx hb dX4_forget_0 rfl (lv_at hl 0 rfl) ?_
  refine lv_iconst (v := 0) hx hb dX4_forget_1 (by decide) ?_
  refine va_put (D := (dC, dI)) (ci := 4) (v := .int 0) (ty := .int) (C := RX4) (T := TX4) (N := 3) hx hb hts iA_4 tyX4 tyX4_ok nmX4 hown hK hP hD hS 0 rfl rfl 2 (by decide) (hts (.fieldLink RX4 21 "HubTree$Past" "held" "I") (List.mem_cons_of_mem _ m_101)) (fun _ h9 => h9) rfl (by decide +kernel) rfl rfl (Nat.le_of_ble_eq_true rfl) dX4_forget_2 (fun H locs hP hD hS => ?_)
  have hP : va_P (dC, dI) vwCl [(pa, .inr (4, [.ref pr, .int nx, .int 0]))] H := hP
  have hD : va_D A [(pa, .inr (4, [.ref pr, .int nx, .int 0]))] := hD
  obtain rfl := Option.some.inj hG
  have hP9 := hP.sub (ws' := [(pa, .inr (4, [.ref pr, .int nx, .int 0]))]) [0] rfl
  have hD9 := hD.sub (ws' := [(pa, .inr (4, [.ref pr, .int nx, .int 0]))]) [0] (by decide) rfl
  have hK9 := hK.sub (tys' := []) [] rfl
  exact W.vret hx hb hr (fun t ht hW => ⟨⟨(), rfl, trivial, by rw [ht]; exact hP9, va_K.moved hW.alike hK9, hD9⟩, hS.F ht⟩) hS.2.2 dX4_forget_5

def F_X2_next (xx : Int64) (z : Int32) : Option (Int32 × Int64) := (if 1 ≤ z then (if ¬ ((z : Int32).toInt64) = 0 then some (((((((((xx * (6364136223846793005)) + (1442695040888963407))).toUInt64 >>> ((33 : Int32).toInt64.toUInt64 &&& Int64.toUInt64 63)).toInt64) - (((((xx * (6364136223846793005)) + (1442695040888963407))).toUInt64 >>> ((33 : Int32).toInt64.toUInt64 &&& Int64.toUInt64 63)).toInt64) / ((z : Int32).toInt64) * ((z : Int32).toInt64))).toInt32), ((xx * (6364136223846793005)) + (1442695040888963407))) else none) else some (0, ((xx * (6364136223846793005)) + (1442695040888963407))))
set_option maxHeartbeats 4000000 in
set_option maxRecDepth 100000 in
theorem c_X2_next (l : Launch) (dC : Nat → ClassId) (dI : Nat → Nat → Nat) (dw : Nat) (xx : Int64) (z : Int32) (A : Nat → Prop) (o : Int32 × Int64) (hG : F_X2_next xx z = some o) : Met l yX2_next (.code yX2_next cX2_next 2 (some .int) :: wA) ({ frames := 0, cells := 0, slots := 0, locals := 0 }) (va_Pc [.ref dw, .int z] (q_W (dC, dI) A [(dw, .inr (2, [.long xx]))] [])) (va_Qi (fun (r : Int32) (_ : Unit) => r = o.1 ∧ True) (fun (_ : Unit) t => q_B (dC, dI) A [(dw, .inr (2, [.long (o.2)]))] [] t) A) 0 0 A := by
  refine Met.ofW (cc := cX2_next) (maxL := 2) (ret := (some .int)) (by decide) rfl ?_
  intro p e s m args below meth c s₁ B hml hv
  obtain ⟨rfl, hP, hK, hD, hA⟩ := hv
  have hx := B.exec
  have hb := B.bytes
  have hr := B.returns
  have hts := atoms_spec (ws := .code yX2_next cX2_next 2 (some .int) :: wA) B.pre
  have hown : s.vm.findClass RX2 = some m.cls := findClass_of_methodNamed B.named
  have hlocks := B.notSynchronized
  have hS : va_S A s.heap s.heap [] := va_S.rf
  have hl := lv_entry ([.ref dw, .int z]) (n := 2) (Nat.le_of_ble_eq_true rfl)
  rw [lg_entry_eq]
  generalize (lg_sl ([.ref dw, .int z]) ++ List.replicate (2 - (lg_sl ([.ref dw, .int z])).length) Slot.unset).toArray = ls at hl ⊢
  have hl : lv_has ls 2 [(0, .ref dw), (1, .int z)] := hl
  unfold F_X2_next at hG
  refine lv_aload_n hx hb dX2_next_0 rfl (lv_at hl 0 rfl) ?_
  refine lv_aload_n hx hb dX2_next_1 rfl (lv_at hl 0 rfl) ?_
  refine va_get (D := (dC, dI)) (ci := 2) (v := .long xx) (C := RX2) (T := TX2) (N := 1) hx hb hts iA_2 hown hK hP 0 rfl rfl 0 (by decide) (hts (.fieldLink RX2 7 "HubTree$Draws" "x" "J") (List.mem_cons_of_mem _ m_110)) (fun _ h9 => h9) rfl dX2_next_2 ?_
  refine lv_ldc2 (v := (6364136223846793005)) hx hb hown (hts (.constantLong RX2 13 (6364136223846793005)) (List.mem_cons_of_mem _ m_1096)) dX2_next_5 ?_
  refine lv_lmul hx hb dX2_next_8 ?_
  refine lv_ldc2 (v := (1442695040888963407)) hx hb hown (hts (.constantLong RX2 15 (1442695040888963407)) (List.mem_cons_of_mem _ m_1097)) dX2_next_9 ?_
  refine lv_ladd hx hb dX2_next_12 ?_
  refine va_put (D := (dC, dI)) (ci := 2) (v := .long ((xx * (6364136223846793005)) + (1442695040888963407))) (ty := .long) (C := RX2) (T := TX2) (N := 1) hx hb hts iA_2 tyX2 tyX2_ok nmX2 hown hK hP hD hS 0 rfl rfl 0 (by decide) (hts (.fieldLink RX2 7 "HubTree$Draws" "x" "J") (List.mem_cons_of_mem _ m_110)) (fun _ h9 => h9) rfl (by decide +kernel) rfl rfl (Nat.le_of_ble_eq_true rfl) dX2_next_13 (fun H locs hP hD hS => ?_)
  have hP : va_P (dC, dI) vwCl [(dw, .inr (2, [.long ((xx * (6364136223846793005)) + (1442695040888963407))]))] H := hP
  have hD : va_D A [(dw, .inr (2, [.long ((xx * (6364136223846793005)) + (1442695040888963407))]))] := hD
  refine lv_iload_n hx hb dX2_next_16 rfl (lv_at hl 1 rfl) ?_
  refine lv_iconst (v := 1) hx hb dX2_next_17 (by decide) ?_
  refine lv_icmp_ge (tgt := 25) hx hb dX2_next_18 (by decide) (fun c_1 => ?_) (fun c_1 => ?_)
  · have hG := q_ifp c_1 hG
    refine lv_aload_n hx hb dX2_next_25 rfl (lv_at hl 0 rfl) ?_
    refine va_get (D := (dC, dI)) (ci := 2) (v := .long ((xx * (6364136223846793005)) + (1442695040888963407))) (C := RX2) (T := TX2) (N := 1) hx hb hts iA_2 hown hK hP 0 rfl rfl 0 (by decide) (hts (.fieldLink RX2 7 "HubTree$Draws" "x" "J") (List.mem_cons_of_mem _ m_110)) (fun _ h9 => h9) rfl dX2_next_26 ?_
    refine lv_bipush (v := 33) hx hb dX2_next_29 (by decide) ?_
    refine lv_lushr hx hb dX2_next_31 rfl ?_
    refine lv_iload_n hx hb dX2_next_32 rfl (lv_at hl 1 rfl) ?_
    refine lv_i2l hx hb dX2_next_33 rfl ?_
    obtain ⟨g_2, hG⟩ := q_gu hG
    refine lv_lrem hx hb dX2_next_34 g_2 ?_
    refine lv_l2i hx hb dX2_next_35 rfl ?_
    obtain rfl := Option.some.inj hG
    have hP9 := hP.sub (ws' := [(dw, .inr (2, [.long ((xx * (6364136223846793005)) + (1442695040888963407))]))]) [0] rfl
    have hD9 := hD.sub (ws' := [(dw, .inr (2, [.long ((xx * (6364136223846793005)) + (1442695040888963407))]))]) [0] (by decide) rfl
    have hK9 := hK.sub (tys' := []) [] rfl
    exact W.iret (v := ((((((((xx * (6364136223846793005)) + (1442695040888963407))).toUInt64 >>> ((33 : Int32).toInt64.toUInt64 &&& Int64.toUInt64 63)).toInt64) - (((((xx * (6364136223846793005)) + (1442695040888963407))).toUInt64 >>> ((33 : Int32).toInt64.toUInt64 &&& Int64.toUInt64 63)).toInt64) / ((z : Int32).toInt64) * ((z : Int32).toInt64))).toInt32)) hx hb hr (fun t ht hW => ⟨⟨((((((((xx * (6364136223846793005)) + (1442695040888963407))).toUInt64 >>> ((33 : Int32).toInt64.toUInt64 &&& Int64.toUInt64 63)).toInt64) - (((((xx * (6364136223846793005)) + (1442695040888963407))).toUInt64 >>> ((33 : Int32).toInt64.toUInt64 &&& Int64.toUInt64 63)).toInt64) / ((z : Int32).toInt64) * ((z : Int32).toInt64))).toInt32), (), rfl, ⟨rfl, trivial⟩, by rw [ht]; exact hP9, va_K.moved hW.alike hK9, hD9⟩, hS.F ht⟩) hS.2.2 dX2_next_36
  · have hG := q_ifn c_1 hG
    refine lv_iconst (v := 0) hx hb dX2_next_21 (by decide) ?_
    refine lv_goto (tgt := 36) hx hb dX2_next_22 (by decide) ?_
    obtain rfl := Option.some.inj hG
    have hP9 := hP.sub (ws' := [(dw, .inr (2, [.long ((xx * (6364136223846793005)) + (1442695040888963407))]))]) [0] rfl
    have hD9 := hD.sub (ws' := [(dw, .inr (2, [.long ((xx * (6364136223846793005)) + (1442695040888963407))]))]) [0] (by decide) rfl
    have hK9 := hK.sub (tys' := []) [] rfl
    exact W.iret (v := 0) hx hb hr (fun t ht hW => ⟨⟨0, (), rfl, ⟨rfl, trivial⟩, by rw [ht]; exact hP9, va_K.moved hW.alike hK9, hD9⟩, hS.F ht⟩) hS.2.2 dX2_next_36

def F_X7_has (sh : Int32) (z : Int32) : Option (Int32) := (if z < 0 then some (0) else (if sh ≤ z then some (0) else some (1)))
set_option maxHeartbeats 4000000 in
set_option maxRecDepth 100000 in
theorem c_X7_has (l : Launch) (dC : Nat → ClassId) (dI : Nat → Nat → Nat) (sc : Nat) (s1 : Nat) (s2 : Nat) (s3 : Nat) (ds : Int32) (sh : Int32) (z : Int32) (o : Int32) (hG : F_X7_has sh z = some o) : Met l yX7_has (.code yX7_has cX7_has 2 (some .boolean) :: wA) ({ frames := 0, cells := 0, slots := 0, locals := 0 }) (va_Pc [.ref sc, .int z] (q_R (dC, dI) [(sc, .inr (7, [.ref s1, .ref s2, .ref s3, .int ds, .int sh]))] [])) (q_i o) 0 0 (fun _ => False) := by
  refine Met.ofW (cc := cX7_has) (maxL := 2) (ret := (some .boolean)) (by decide) rfl ?_
  intro p e s m args below meth c s₁ B hml hv
  obtain ⟨rfl, hP, hK⟩ := hv
  have hx := B.exec
  have hb := B.bytes
  have hr := B.returns
  have hts := atoms_spec (ws := .code yX7_has cX7_has 2 (some .boolean) :: wA) B.pre
  have hown : s.vm.findClass RX7 = some m.cls := findClass_of_methodNamed B.named
  have hlocks := B.notSynchronized
  have hS : va_S (fun _ => False) s.heap s.heap [] := va_S.rf
  have hl := lv_entry ([.ref sc, .int z]) (n := 2) (Nat.le_of_ble_eq_true rfl)
  rw [lg_entry_eq]
  generalize (lg_sl ([.ref sc, .int z]) ++ List.replicate (2 - (lg_sl ([.ref sc, .int z])).length) Slot.unset).toArray = ls at hl ⊢
  have hl : lv_has ls 2 [(0, .ref sc), (1, .int z)] := hl
  unfold F_X7_has at hG
  refine lv_iload_n hx hb dX7_has_0 rfl (lv_at hl 1 rfl) ?_
  refine lv_if_lt (tgt := 16) hx hb dX7_has_1 (by decide) (fun c_1 => ?_) (fun c_1 => ?_)
  · have hG := q_ifp c_1 hG
    refine lv_iconst (v := 0) hx hb dX7_has_16 (by decide) ?_
    obtain rfl := Option.some.inj hG
    exact W.zret (v := 0) hx hb hr rfl (fun t ht hW => ⟨⟨0, (), rfl, rfl, trivial⟩, hS.F ht⟩) hS.2.2 dX7_has_17
  · have hG := q_ifn c_1 hG
    refine lv_iload_n hx hb dX7_has_4 rfl (lv_at hl 1 rfl) ?_
    refine lv_aload_n hx hb dX7_has_5 rfl (lv_at hl 0 rfl) ?_
    refine va_get (D := (dC, dI)) (ci := 7) (v := .int sh) (C := RX7) (T := TX7) (N := 5) hx hb hts iA_7 hown hK hP 0 rfl rfl 4 (by decide) (hts (.fieldLink RX7 25 "HubTree$Scripts" "held" "I") (List.mem_cons_of_mem _ m_83)) (fun _ h9 => h9) rfl dX7_has_6 ?_
    refine lv_icmp_ge (tgt := 16) hx hb dX7_has_9 (by decide) (fun c_2 => ?_) (fun c_2 => ?_)
    · have hG := q_ifp c_2 hG
      refine lv_iconst (v := 0) hx hb dX7_has_16 (by decide) ?_
      obtain rfl := Option.some.inj hG
      exact W.zret (v := 0) hx hb hr rfl (fun t ht hW => ⟨⟨0, (), rfl, rfl, trivial⟩, hS.F ht⟩) hS.2.2 dX7_has_17
    · have hG := q_ifn c_2 hG
      refine lv_iconst (v := 1) hx hb dX7_has_12 (by decide) ?_
      refine lv_goto (tgt := 17) hx hb dX7_has_13 (by decide) ?_
      obtain rfl := Option.some.inj hG
      exact W.zret (v := 1) hx hb hr rfl (fun t ht hW => ⟨⟨1, (), rfl, rfl, trivial⟩, hS.F ht⟩) hS.2.2 dX7_has_17

def F_X7_read (f1 : Nat → Int32) (z1 : Int32) (z2 : Int32) (z3 : Int32) : Option (Int32) := (if (((z1 * 64) + (z2 * 4)) + z3) < 0 ∨ 256 ≤ ((((z1 * 64) + (z2 * 4)) + z3)).toNatClampNeg then none else some ((f1 (((z1 * 64) + (z2 * 4)) + z3).toNatClampNeg)))
set_option maxHeartbeats 4000000 in
set_option maxRecDepth 100000 in
theorem c_X7_read (l : Launch) (dC : Nat → ClassId) (dI : Nat → Nat → Nat) (sc : Nat) (s1 : Nat) (s2 : Nat) (s3 : Nat) (cs1 : ClassId) (cs2 : ClassId) (cs3 : ClassId) (f1 : Nat → Int32) (f2 : Nat → Int32) (f3 : Nat → Int32) (ds : Int32) (sh : Int32) (z1 : Int32) (z2 : Int32) (z3 : Int32) (o : Int32) (hG : F_X7_read f1 z1 z2 z3 = some o) : Met l yX7_read (.code yX7_read cX7_read 4 (some .int) :: wA) ({ frames := 0, cells := 0, slots := 0, locals := 0 }) (va_Pc [.ref sc, .int z1, .int z2, .int z3] (q_R (dC, dI) [(sc, .inr (7, [.ref s1, .ref s2, .ref s3, .int ds, .int sh])), (s1, .inl (cs1, 256, .inl f1)), (s2, .inl (cs2, 4, .inl f2)), (s3, .inl (cs3, 64, .inl f3))] [(cs1, .int), (cs2, .int), (cs3, .int)])) (q_i o) 0 0 (fun _ => False) := by
  refine Met.ofW (cc := cX7_read) (maxL := 4) (ret := (some .int)) (by decide) rfl ?_
  intro p e s m args below meth c s₁ B hml hv
  obtain ⟨rfl, hP, hK⟩ := hv
  have hx := B.exec
  have hb := B.bytes
  have hr := B.returns
  have hts := atoms_spec (ws := .code yX7_read cX7_read 4 (some .int) :: wA) B.pre
  have hown : s.vm.findClass RX7 = some m.cls := findClass_of_methodNamed B.named
  have hlocks := B.notSynchronized
  have hS : va_S (fun _ => False) s.heap s.heap [] := va_S.rf
  have hl := lv_entry ([.ref sc, .int z1, .int z2, .int z3]) (n := 4) (Nat.le_of_ble_eq_true rfl)
  rw [lg_entry_eq]
  generalize (lg_sl ([.ref sc, .int z1, .int z2, .int z3]) ++ List.replicate (4 - (lg_sl ([.ref sc, .int z1, .int z2, .int z3])).length) Slot.unset).toArray = ls at hl ⊢
  have hl : lv_has ls 4 [(0, .ref sc), (1, .int z1), (2, .int z2), (3, .int z3)] := hl
  unfold F_X7_read at hG
  refine lv_aload_n hx hb dX7_read_0 rfl (lv_at hl 0 rfl) ?_
  refine va_get (D := (dC, dI)) (ci := 7) (v := .ref s1) (C := RX7) (T := TX7) (N := 5) hx hb hts iA_7 hown hK hP 0 rfl rfl 0 (by decide) (hts (.fieldLink RX7 9 "HubTree$Scripts" "rows" "[I") (List.mem_cons_of_mem _ m_79)) (fun _ h9 => h9) rfl dX7_read_1 ?_
  refine lv_iload_n hx hb dX7_read_4 rfl (lv_at hl 1 rfl) ?_
  refine lv_bipush (v := 64) hx hb dX7_read_5 (by decide) ?_
  refine lv_imul hx hb dX7_read_7 ?_
  refine lv_iload_n hx hb dX7_read_8 rfl (lv_at hl 2 rfl) ?_
  refine lv_iconst (v := 4) hx hb dX7_read_9 (by decide) ?_
  refine lv_imul hx hb dX7_read_10 ?_
  refine lv_iadd hx hb dX7_read_11 ?_
  refine lv_iload_n hx hb dX7_read_12 rfl (lv_at hl 3 rfl) ?_
  refine lv_iadd hx hb dX7_read_13 ?_
  obtain ⟨h_1, hG⟩ := q_ix hG
  refine va_iald hx hb hK hP 1 0 rfl rfl (i := (((z1 * 64) + (z2 * 4)) + z3)) h_1 dX7_read_14 ?_
  refine q_top (y := (f1 (((z1 * 64) + (z2 * 4)) + z3).toNatClampNeg)) rfl ?_
  obtain rfl := Option.some.inj hG
  exact W.iret (v := (f1 (((z1 * 64) + (z2 * 4)) + z3).toNatClampNeg)) hx hb hr (fun t ht hW => ⟨⟨(f1 (((z1 * 64) + (z2 * 4)) + z3).toNatClampNeg), (), rfl, rfl, trivial⟩, hS.F ht⟩) hS.2.2 dX7_read_15

def F_X7_keepDraft (f1 : Nat → Int32) (f2 : Nat → Int32) (f3 : Nat → Int32) (ds : Int32) (sh : Int32) : Option (Int32 × (Nat → Int32) × (Nat → Int32) × Int32) := (if sh < 4 then (if ¬ (sh * 64) < 0 then (if (sh * 64).toNatClampNeg + 64 ≤ 256 then (if sh < 0 ∨ 4 ≤ (sh).toNatClampNeg then none else some (((sh + 1) - 1), (va_cpy f3 f1 0 ((sh * 64).toNatClampNeg) 64), (upd f2 (sh).toNatClampNeg ds), (sh + 1))) else none) else none) else some ((-1), f1, f2, sh))
set_option maxHeartbeats 4000000 in
set_option maxRecDepth 100000 in
theorem c_X7_keepDraft (l : Launch) (dC : Nat → ClassId) (dI : Nat → Nat → Nat) (sc : Nat) (s1 : Nat) (s2 : Nat) (s3 : Nat) (cs1 : ClassId) (cs2 : ClassId) (cs3 : ClassId) (f1 : Nat → Int32) (f2 : Nat → Int32) (f3 : Nat → Int32) (ds : Int32) (sh : Int32) (A : Nat → Prop) (o : Int32 × (Nat → Int32) × (Nat → Int32) × Int32) (hG : F_X7_keepDraft f1 f2 f3 ds sh = some o) : Met l yX7_keepDraft (.code yX7_keepDraft cX7_keepDraft 1 (some .int) :: wA) ({ frames := 1, cells := 0, slots := 0, locals := 60 }) (va_Pc [.ref sc] (q_W (dC, dI) A [(sc, .inr (7, [.ref s1, .ref s2, .ref s3, .int ds, .int sh])), (s1, .inl (cs1, 256, .inl f1)), (s2, .inl (cs2, 4, .inl f2)), (s3, .inl (cs3, 64, .inl f3))] [(cs1, .int), (cs2, .int), (cs3, .int)])) (va_Qi (fun (r : Int32) (_ : Unit) => r = o.1 ∧ True) (fun (_ : Unit) t => q_B (dC, dI) A [(sc, .inr (7, [.ref s1, .ref s2, .ref s3, .int ds, .int (o.2.2.2)])), (s1, .inl (cs1, 256, .inl (o.2.1))), (s2, .inl (cs2, 4, .inl (o.2.2.1))), (s3, .inl (cs3, 64, .inl f3))] [(cs1, .int), (cs2, .int), (cs3, .int)] t) A) 0 0 A := by
  refine Met.ofW (cc := cX7_keepDraft) (maxL := 1) (ret := (some .int)) (by decide) rfl ?_
  intro p e s m args below meth c s₁ B hml hv
  obtain ⟨rfl, hP, hK, hD, hA⟩ := hv
  have hx := B.exec
  have hb := B.bytes
  have hr := B.returns
  have hts := atoms_spec (ws := .code yX7_keepDraft cX7_keepDraft 1 (some .int) :: wA) B.pre
  have hown : s.vm.findClass RX7 = some m.cls := findClass_of_methodNamed B.named
  have hlocks := B.notSynchronized
  have hS : va_S A s.heap s.heap [] := va_S.rf
  have hl := lv_entry ([.ref sc]) (n := 1) (Nat.le_of_ble_eq_true rfl)
  rw [lg_entry_eq]
  generalize (lg_sl ([.ref sc]) ++ List.replicate (1 - (lg_sl ([.ref sc])).length) Slot.unset).toArray = ls at hl ⊢
  have hl : lv_has ls 1 [(0, .ref sc)] := hl
  unfold F_X7_keepDraft at hG
  refine lv_aload_n hx hb dX7_keepDraft_0 rfl (lv_at hl 0 rfl) ?_
  refine va_get (D := (dC, dI)) (ci := 7) (v := .int sh) (C := RX7) (T := TX7) (N := 5) hx hb hts iA_7 hown hK hP 0 rfl rfl 4 (by decide) (hts (.fieldLink RX7 25 "HubTree$Scripts" "held" "I") (List.mem_cons_of_mem _ m_83)) (fun _ h9 => h9) rfl dX7_keepDraft_1 ?_
  refine lv_iconst (v := 4) hx hb dX7_keepDraft_4 (by decide) ?_
  refine lv_icmp_lt (tgt := 10) hx hb dX7_keepDraft_5 (by decide) (fun c_1 => ?_) (fun c_1 => ?_)
  · have hG := q_ifp c_1 hG
    refine lv_aload_n hx hb dX7_keepDraft_10 rfl (lv_at hl 0 rfl) ?_
    refine va_get (D := (dC, dI)) (ci := 7) (v := .ref s3) (C := RX7) (T := TX7) (N := 5) hx hb hts iA_7 hown hK hP 0 rfl rfl 2 (by decide) (hts (.fieldLink RX7 18 "HubTree$Scripts" "draft" "[I") (List.mem_cons_of_mem _ m_81)) (fun _ h9 => h9) rfl dX7_keepDraft_11 ?_
    refine lv_iconst (v := 0) hx hb dX7_keepDraft_14 (by decide) ?_
    refine lv_aload_n hx hb dX7_keepDraft_15 rfl (lv_at hl 0 rfl) ?_
    refine va_get (D := (dC, dI)) (ci := 7) (v := .ref s1) (C := RX7) (T := TX7) (N := 5) hx hb hts iA_7 hown hK hP 0 rfl rfl 0 (by decide) (hts (.fieldLink RX7 9 "HubTree$Scripts" "rows" "[I") (List.mem_cons_of_mem _ m_79)) (fun _ h9 => h9) rfl dX7_keepDraft_16 ?_
    refine lv_aload_n hx hb dX7_keepDraft_19 rfl (lv_at hl 0 rfl) ?_
    refine va_get (D := (dC, dI)) (ci := 7) (v := .int sh) (C := RX7) (T := TX7) (N := 5) hx hb hts iA_7 hown hK hP 0 rfl rfl 4 (by decide) (hts (.fieldLink RX7 25 "HubTree$Scripts" "held" "I") (List.mem_cons_of_mem _ m_83)) (fun _ h9 => h9) rfl dX7_keepDraft_20 ?_
    refine lv_bipush (v := 64) hx hb dX7_keepDraft_23 (by decide) ?_
    refine lv_imul hx hb dX7_keepDraft_25 ?_
    refine lv_bipush (v := 64) hx hb dX7_keepDraft_26 (by decide) ?_
    obtain ⟨g_2, hG⟩ := q_gu hG
    obtain ⟨g_3, hG⟩ := q_gu hG
    refine va_copyi hx hb (by rw [hml, hl.1]) hown (hts (.methodLink RX7 28 arraycopyName) (List.mem_cons_of_mem _ m_423)) (hts (.native arraycopyName) (List.mem_cons_of_mem _ m_177)) (hts (.static arraycopyName) (List.mem_cons_of_mem _ m_178)) (hts (.initialized "java/lang/System") (List.mem_cons_of_mem _ m_179)) hK hP hD hS 3 1 2 0 rfl rfl rfl rfl rfl (by decide) g_2 (by decide) (by decide) g_3 (fun _ _ => rfl) (Nat.le_of_ble_eq_true rfl) (Nat.le_of_ble_eq_true rfl) dX7_keepDraft_28 (fun H locs hP hD hS => ?_)
    have hP : va_P (dC, dI) vwCl [(sc, .inr (7, [.ref s1, .ref s2, .ref s3, .int ds, .int sh])), (s1, .inl (cs1, 256, .inl (va_cpy f3 f1 0 ((sh * 64).toNatClampNeg) 64))), (s2, .inl (cs2, 4, .inl f2)), (s3, .inl (cs3, 64, .inl f3))] H := hP
    have hD : va_D A [(sc, .inr (7, [.ref s1, .ref s2, .ref s3, .int ds, .int sh])), (s1, .inl (cs1, 256, .inl (va_cpy f3 f1 0 ((sh * 64).toNatClampNeg) 64))), (s2, .inl (cs2, 4, .inl f2)), (s3, .inl (cs3, 64, .inl f3))] := hD
    refine lv_aload_n hx hb dX7_keepDraft_31 rfl (lv_at hl 0 rfl) ?_
    refine va_get (D := (dC, dI)) (ci := 7) (v := .ref s2) (C := RX7) (T := TX7) (N := 5) hx hb hts iA_7 hown hK hP 0 rfl rfl 1 (by decide) (hts (.fieldLink RX7 15 "HubTree$Scripts" "steps" "[I") (List.mem_cons_of_mem _ m_80)) (fun _ h9 => h9) rfl dX7_keepDraft_32 ?_
    refine lv_aload_n hx hb dX7_keepDraft_35 rfl (lv_at hl 0 rfl) ?_
    refine va_get (D := (dC, dI)) (ci := 7) (v := .int sh) (C := RX7) (T := TX7) (N := 5) hx hb hts iA_7 hown hK hP 0 rfl rfl 4 (by decide) (hts (.fieldLink RX7 25 "HubTree$Scripts" "held" "I") (List.mem_cons_of_mem _ m_83)) (fun _ h9 => h9) rfl dX7_keepDraft_36 ?_
    refine lv_aload_n hx hb dX7_keepDraft_39 rfl (lv_at hl 0 rfl) ?_
    refine va_get (D := (dC, dI)) (ci := 7) (v := .int ds) (C := RX7) (T := TX7) (N := 5) hx hb hts iA_7 hown hK hP 0 rfl rfl 3 (by decide) (hts (.fieldLink RX7 21 "HubTree$Scripts" "draftSteps" "I") (List.mem_cons_of_mem _ m_82)) (fun _ h9 => h9) rfl dX7_keepDraft_40 ?_
    obtain ⟨h_4, hG⟩ := q_ix hG
    refine va_iast hx hb hK hP hD hS 2 1 rfl rfl (i := sh) (x := ds) h_4 dX7_keepDraft_43 (fun H locs hP hD hS => ?_)
    have hP : va_P (dC, dI) vwCl [(sc, .inr (7, [.ref s1, .ref s2, .ref s3, .int ds, .int sh])), (s1, .inl (cs1, 256, .inl (va_cpy f3 f1 0 ((sh * 64).toNatClampNeg) 64))), (s2, .inl (cs2, 4, .inl (upd f2 (sh).toNatClampNeg ds))), (s3, .inl (cs3, 64, .inl f3))] H := hP
    have hD : va_D A [(sc, .inr (7, [.ref s1, .ref s2, .ref s3, .int ds, .int sh])), (s1, .inl (cs1, 256, .inl (va_cpy f3 f1 0 ((sh * 64).toNatClampNeg) 64))), (s2, .inl (cs2, 4, .inl (upd f2 (sh).toNatClampNeg ds))), (s3, .inl (cs3, 64, .inl f3))] := hD
    refine lv_aload_n hx hb dX7_keepDraft_44 rfl (lv_at hl 0 rfl) ?_
    refine lv_dup hx hb dX7_keepDraft_45 rfl ?_
    refine va_get (D := (dC, dI)) (ci := 7) (v := .int sh) (C := RX7) (T := TX7) (N := 5) hx hb hts iA_7 hown hK hP 0 rfl rfl 4 (by decide) (hts (.fieldLink RX7 25 "HubTree$Scripts" "held" "I") (List.mem_cons_of_mem _ m_83)) (fun _ h9 => h9) rfl dX7_keepDraft_46 ?_
    refine lv_iconst (v := 1) hx hb dX7_keepDraft_49 (by decide) ?_
    refine lv_iadd hx hb dX7_keepDraft_50 ?_
    refine va_put (D := (dC, dI)) (ci := 7) (v := .int (sh + 1)) (ty := .int) (C := RX7) (T := TX7) (N := 5) hx hb hts iA_7 tyX7 tyX7_ok nmX7 hown hK hP hD hS 0 rfl rfl 4 (by decide) (hts (.fieldLink RX7 25 "HubTree$Scripts" "held" "I") (List.mem_cons_of_mem _ m_83)) (fun _ h9 => h9) rfl (by decide +kernel) rfl rfl (Nat.le_of_ble_eq_true rfl) dX7_keepDraft_51 (fun H locs hP hD hS => ?_)
    have hP : va_P (dC, dI) vwCl [(sc, .inr (7, [.ref s1, .ref s2, .ref s3, .int ds, .int (sh + 1)])), (s1, .inl (cs1, 256, .inl (va_cpy f3 f1 0 ((sh * 64).toNatClampNeg) 64))), (s2, .inl (cs2, 4, .inl (upd f2 (sh).toNatClampNeg ds))), (s3, .inl (cs3, 64, .inl f3))] H := hP
    have hD : va_D A [(sc, .inr (7, [.ref s1, .ref s2, .ref s3, .int ds, .int (sh + 1)])), (s1, .inl (cs1, 256, .inl (va_cpy f3 f1 0 ((sh * 64).toNatClampNeg) 64))), (s2, .inl (cs2, 4, .inl (upd f2 (sh).toNatClampNeg ds))), (s3, .inl (cs3, 64, .inl f3))] := hD
    refine lv_aload_n hx hb dX7_keepDraft_54 rfl (lv_at hl 0 rfl) ?_
    refine va_get (D := (dC, dI)) (ci := 7) (v := .int (sh + 1)) (C := RX7) (T := TX7) (N := 5) hx hb hts iA_7 hown hK hP 0 rfl rfl 4 (by decide) (hts (.fieldLink RX7 25 "HubTree$Scripts" "held" "I") (List.mem_cons_of_mem _ m_83)) (fun _ h9 => h9) rfl dX7_keepDraft_55 ?_
    refine lv_iconst (v := 1) hx hb dX7_keepDraft_58 (by decide) ?_
    refine lv_isub hx hb dX7_keepDraft_59 ?_
    obtain rfl := Option.some.inj hG
    have hP9 := hP.sub (ws' := [(sc, .inr (7, [.ref s1, .ref s2, .ref s3, .int ds, .int (sh + 1)])), (s1, .inl (cs1, 256, .inl (va_cpy f3 f1 0 ((sh * 64).toNatClampNeg) 64))), (s2, .inl (cs2, 4, .inl (upd f2 (sh).toNatClampNeg ds))), (s3, .inl (cs3, 64, .inl f3))]) [0, 1, 2, 3] rfl
    have hD9 := hD.sub (ws' := [(sc, .inr (7, [.ref s1, .ref s2, .ref s3, .int ds, .int (sh + 1)])), (s1, .inl (cs1, 256, .inl (va_cpy f3 f1 0 ((sh * 64).toNatClampNeg) 64))), (s2, .inl (cs2, 4, .inl (upd f2 (sh).toNatClampNeg ds))), (s3, .inl (cs3, 64, .inl f3))]) [0, 1, 2, 3] (by decide) rfl
    have hK9 := hK.sub (tys' := [(cs1, .int), (cs2, .int), (cs3, .int)]) [0, 1, 2] rfl
    exact W.iret (v := ((sh + 1) - 1)) hx hb hr (fun t ht hW => ⟨⟨((sh + 1) - 1), (), rfl, ⟨rfl, trivial⟩, by rw [ht]; exact hP9, va_K.moved hW.alike hK9, hD9⟩, hS.F ht⟩) hS.2.2 dX7_keepDraft_60
  · have hG := q_ifn c_1 hG
    refine lv_iconst (v := (-1)) hx hb dX7_keepDraft_8 (by decide) ?_
    obtain rfl := Option.some.inj hG
    have hP9 := hP.sub (ws' := [(sc, .inr (7, [.ref s1, .ref s2, .ref s3, .int ds, .int sh])), (s1, .inl (cs1, 256, .inl f1)), (s2, .inl (cs2, 4, .inl f2)), (s3, .inl (cs3, 64, .inl f3))]) [0, 1, 2, 3] rfl
    have hD9 := hD.sub (ws' := [(sc, .inr (7, [.ref s1, .ref s2, .ref s3, .int ds, .int sh])), (s1, .inl (cs1, 256, .inl f1)), (s2, .inl (cs2, 4, .inl f2)), (s3, .inl (cs3, 64, .inl f3))]) [0, 1, 2, 3] (by decide) rfl
    have hK9 := hK.sub (tys' := [(cs1, .int), (cs2, .int), (cs3, .int)]) [0, 1, 2] rfl
    exact W.iret (v := (-1)) hx hb hr (fun t ht hW => ⟨⟨(-1), (), rfl, ⟨rfl, trivial⟩, by rw [ht]; exact hP9, va_K.moved hW.alike hK9, hD9⟩, hS.F ht⟩) hS.2.2 dX7_keepDraft_9

def FL_X3_playTillRunning_2 (fa : Nat → Int32) (fr : Nat → Int32) (dv : Int32) (fu : Nat → Int32) (fp : Nat → Int32) (z1 : Int32) (z2 : Int32) : Nat → Int32 → (Nat → Int32) → Option (Int32 × (Nat → Int32))
  | 0, _, _ => none
  | n + 1, x3_2, fa_c => (if z2 < x3_2 then some ((-1), fa_c) else ((F_X0_is fa_c dv fu fp z1 6).bind fun o_2 => (if o_2 = 0 then ((F_X0_isOver fa_c dv fu fp).bind fun o_5 => (if o_5 = 0 then ((F_X0_isStill fa_c dv fu fp).bind fun o_8 => (if o_8 = 0 then ((F_X0_passTick fa_c dv fu fp).bind fun o_11 => (FL_X3_playTillRunning_2 fa fr dv fu fp z1 z2 n (x3_2 + 1) (o_11))) else some ((-1), fa_c))) else some ((-1), fa_c))) else some (x3_2, fa_c))))

def F_X3_playTillRunning (fa : Nat → Int32) (fr : Nat → Int32) (dv : Int32) (fu : Nat → Int32) (fp : Nat → Int32) (z1 : Int32) (z2 : Int32) : Option (Int32 × (Nat → Int32)) := (FL_X3_playTillRunning_2 fa fr dv fu fp z1 z2 1000 0 fa)
set_option maxHeartbeats 4000000 in
set_option maxRecDepth 100000 in
theorem c_X3_playTillRunning (l : Launch) (dC : Nat → ClassId) (dI : Nat → Nat → Nat) (fo : Nat) (ga : Nat) (ra : Nat) (ca : ClassId) (fa : Nat → Int32) (g : Nat) (r0 : Nat) (h : Nat) (r1 : Nat) (r2 : Nat) (dv : Int32) (c0 : ClassId) (fr : Nat → Int32) (c1 : ClassId) (c2 : ClassId) (fu : Nat → Int32) (fp : Nat → Int32) (z1 : Int32) (z2 : Int32) (A : Nat → Prop) (o : Int32 × (Nat → Int32)) (hG : F_X3_playTillRunning fa fr dv fu fp z1 z2 = some o) : Met l yX3_playTillRunning (.code yX3_playTillRunning cX3_playTillRunning 4 (some .int) :: wA) ({ frames := 5, cells := 0, slots := 0, locals := 116 }) (va_Pc [.ref fo, .int z1, .int z2] (q_W (dC, dI) A [(fo, .inr (3, [.ref g, .ref ga])), (ga, .inr (0, [.ref ra, .ref h])), (ra, .inl (ca, 98, .inl fa)), (g, .inr (0, [.ref r0, .ref h])), (r0, .inl (c0, 98, .inl fr)), (h, .inr (5, [.ref r1, .ref r2, .int dv])), (r1, .inl (c1, 8, .inl fu)), (r2, .inl (c2, 48, .inl fp))] [(ca, .int), (c0, .int), (c1, .int), (c2, .int)])) (va_Qi (fun (r : Int32) (_ : Unit) => r = o.1 ∧ True) (fun (_ : Unit) t => q_B (dC, dI) A [(fo, .inr (3, [.ref g, .ref ga])), (ga, .inr (0, [.ref ra, .ref h])), (ra, .inl (ca, 98, .inl (o.2))), (g, .inr (0, [.ref r0, .ref h])), (r0, .inl (c0, 98, .inl fr)), (h, .inr (5, [.ref r1, .ref r2, .int dv])), (r1, .inl (c1, 8, .inl fu)), (r2, .inl (c2, 48, .inl fp))] [(ca, .int), (c0, .int), (c1, .int), (c2, .int)] t) A) 0 0 A := by
  refine Met.ofW (cc := cX3_playTillRunning) (maxL := 4) (ret := (some .int)) (by decide) rfl ?_
  intro p e s m args below meth c s₁ B hml hv
  obtain ⟨rfl, hP, hK, hD, hA⟩ := hv
  have hx := B.exec
  have hb := B.bytes
  have hr := B.returns
  have hts := atoms_spec (ws := .code yX3_playTillRunning cX3_playTillRunning 4 (some .int) :: wA) B.pre
  have hown : s.vm.findClass RX3 = some m.cls := findClass_of_methodNamed B.named
  have hlocks := B.notSynchronized
  have hS : va_S A s.heap s.heap [] := va_S.rf
  have hl := lv_entry ([.ref fo, .int z1, .int z2]) (n := 4) (Nat.le_of_ble_eq_true rfl)
  rw [lg_entry_eq]
  generalize (lg_sl ([.ref fo, .int z1, .int z2]) ++ List.replicate (4 - (lg_sl ([.ref fo, .int z1, .int z2])).length) Slot.unset).toArray = ls at hl ⊢
  have hl : lv_has ls 4 [(0, .ref fo), (1, .int z1), (2, .int z2)] := hl
  unfold F_X3_playTillRunning at hG
  refine lv_iconst (v := 0) hx hb dX3_playTillRunning_0 (by decide) ?_
  refine lv_istore_n (lv' := [(3, .int 0), (0, .ref fo), (1, .int z1), (2, .int z2)]) hx hb dX3_playTillRunning_1 rfl hl (by decide) rfl (fun ls hl => ?_)
  have L_2 : ∀ (n_2 : Nat) (x3_2 : Int32) (fa_c : Nat → Int32) (H : Heap) (locs : List Loc) (ls : Array Slot), FL_X3_playTillRunning_2 fa fr dv fu fp z1 z2 n_2 x3_2 fa_c = some o → va_P (dC, dI) vwCl [(fo, .inr (3, [.ref g, .ref ga])), (ga, .inr (0, [.ref ra, .ref h])), (ra, .inl (ca, 98, .inl fa_c)), (g, .inr (0, [.ref r0, .ref h])), (r0, .inl (c0, 98, .inl fr)), (h, .inr (5, [.ref r1, .ref r2, .int dv])), (r1, .inl (c1, 8, .inl fu)), (r2, .inl (c2, 48, .inl fp))] H → va_D A [(fo, .inr (3, [.ref g, .ref ga])), (ga, .inr (0, [.ref ra, .ref h])), (ra, .inl (ca, 98, .inl fa_c)), (g, .inr (0, [.ref r0, .ref h])), (r0, .inl (c0, 98, .inl fr)), (h, .inr (5, [.ref r1, .ref r2, .int dv])), (r1, .inl (c1, 8, .inl fu)), (r2, .inl (c2, 48, .inl fp))] → va_S A s.heap H locs → lv_has ls 4 [(3, .int x3_2), (0, .ref fo), (1, .int z1), (2, .int z2)] → W p l e (headSpec (.code yX3_playTillRunning cX3_playTillRunning 4 (some .int) :: wA) ({ frames := 5, cells := 0, slots := 0, locals := 116 })).room s m #[.ref fo, .int z1, .int z2] below meth c H locs 0 0 (MQ below (va_Qi (fun (r : Int32) (_ : Unit) => r = o.1 ∧ True) (fun (_ : Unit) t => q_B (dC, dI) A [(fo, .inr (3, [.ref g, .ref ga])), (ga, .inr (0, [.ref ra, .ref h])), (ra, .inl (ca, 98, .inl (o.2))), (g, .inr (0, [.ref r0, .ref h])), (r0, .inl (c0, 98, .inl fr)), (h, .inr (5, [.ref r1, .ref r2, .int dv])), (r1, .inl (c1, 8, .inl fu)), (r2, .inl (c2, 48, .inl fp))] [(ca, .int), (c0, .int), (c1, .int), (c2, .int)] t) A) #[.ref fo, .int z1, .int z2] s 0 0 A) (F0 m 2 ls []) := by
    intro n_2
    induction n_2 with
    | zero =>
      intro x3_2 fa_c H locs ls hG
      exact q_no hG
    | succ n_2 ih_2 =>
      intro x3_2 fa_c H locs ls hG hP hD hS hl
      unfold FL_X3_playTillRunning_2 at hG
      refine lv_iload_n hx hb dX3_playTillRunning_2 rfl (lv_at hl 0 rfl) ?_
      refine lv_iload_n hx hb dX3_playTillRunning_3 rfl (lv_at hl 3 rfl) ?_
      refine lv_icmp_gt (tgt := 57) hx hb dX3_playTillRunning_4 (by decide) (fun c_1 => ?_) (fun c_1 => ?_)
      · have hG := q_ifp c_1 hG
        refine lv_iconst (v := (-1)) hx hb dX3_playTillRunning_57 (by decide) ?_
        obtain rfl := Option.some.inj hG
        have hP9 := hP.sub (ws' := [(fo, .inr (3, [.ref g, .ref ga])), (ga, .inr (0, [.ref ra, .ref h])), (ra, .inl (ca, 98, .inl fa_c)), (g, .inr (0, [.ref r0, .ref h])), (r0, .inl (c0, 98, .inl fr)), (h, .inr (5, [.ref r1, .ref r2, .int dv])), (r1, .inl (c1, 8, .inl fu)), (r2, .inl (c2, 48, .inl fp))]) [0, 1, 2, 3, 4, 5, 6, 7] rfl
        have hD9 := hD.sub (ws' := [(fo, .inr (3, [.ref g, .ref ga])), (ga, .inr (0, [.ref ra, .ref h])), (ra, .inl (ca, 98, .inl fa_c)), (g, .inr (0, [.ref r0, .ref h])), (r0, .inl (c0, 98, .inl fr)), (h, .inr (5, [.ref r1, .ref r2, .int dv])), (r1, .inl (c1, 8, .inl fu)), (r2, .inl (c2, 48, .inl fp))]) [0, 1, 2, 3, 4, 5, 6, 7] (by decide) rfl
        have hK9 := hK.sub (tys' := [(ca, .int), (c0, .int), (c1, .int), (c2, .int)]) [0, 1, 2, 3] rfl
        exact W.iret (v := (-1)) hx hb hr (fun t ht hW => ⟨⟨(-1), (), rfl, ⟨rfl, trivial⟩, by rw [ht]; exact hP9, va_K.moved hW.alike hK9, hD9⟩, hS.F ht⟩) hS.2.2 dX3_playTillRunning_58
      · have hG := q_ifn c_1 hG
        refine lv_aload_n hx hb dX3_playTillRunning_7 rfl (lv_at hl 1 rfl) ?_
        refine va_get (D := (dC, dI)) (ci := 3) (v := .ref ga) (C := RX3) (T := TX3) (N := 2) hx hb hts iA_3 hown hK hP 0 rfl rfl 1 (by decide) (hts (.fieldLink RX3 15 "HubTree$Foresight" "apart" "LHubTree$Bus;") (List.mem_cons_of_mem _ m_95)) (fun _ h9 => h9) rfl dX3_playTillRunning_8 ?_
        refine lv_iload_n hx hb dX3_playTillRunning_11 rfl (lv_at hl 2 rfl) ?_
        refine lv_bipush (v := 6) hx hb dX3_playTillRunning_12 (by decide) ?_
        obtain ⟨o_2, r_3, hG⟩ := q_bi hG
        refine q_goi (v := o_2) (va_runV (As := [.int z1, .int 6]) (rest := []) ⟨hx, hb, hml, hown, hts⟩ (c_X0_is l dC dI ga ra h r1 r2 dv ca fa_c c1 c2 fu fp z1 6 o_2 r_3) (cwV 2 hts (q_gV m_1177 m_583 m_584 m_33 m_585) rfl rfl rfl hdV_yX0_is_2 ⟨Nat.le_of_ble_eq_true rfl, Nat.le_of_ble_eq_true rfl⟩) (q_preV hK hP (q := (RX0, TX0, 2)) (ci := 0) (q0 := 1) rfl rfl [1, 2, 5, 6, 7] rfl [0, 2, 3] rfl) rfl rfl hl.1 rfl (lv_room (Nat.le_of_ble_eq_true rfl)) dX3_playTillRunning_14 ⟨Nat.le_of_ble_eq_true rfl, Nat.le_of_ble_eq_true rfl⟩) hP hS (fun H locs hP hS => ?_)
        refine lv_if_eq (tgt := 22) hx hb dX3_playTillRunning_17 (by decide) (fun c_4 => ?_) (fun c_4 => ?_)
        · have hG := q_ifp c_4 hG
          refine lv_aload_n hx hb dX3_playTillRunning_22 rfl (lv_at hl 1 rfl) ?_
          refine va_get (D := (dC, dI)) (ci := 3) (v := .ref ga) (C := RX3) (T := TX3) (N := 2) hx hb hts iA_3 hown hK hP 0 rfl rfl 1 (by decide) (hts (.fieldLink RX3 15 "HubTree$Foresight" "apart" "LHubTree$Bus;") (List.mem_cons_of_mem _ m_95)) (fun _ h9 => h9) rfl dX3_playTillRunning_23 ?_
          obtain ⟨o_5, r_6, hG⟩ := q_bi hG
          refine q_goi (v := o_5) (va_runV (As := []) (rest := []) ⟨hx, hb, hml, hown, hts⟩ (c_X0_isOver l dC dI ga ra h r1 r2 dv ca fa_c c1 c2 fu fp o_5 r_6) (cwV 0 hts (q_gV m_1178 m_1179 m_1180 m_33 m_1181) rfl rfl rfl hdV_yX0_isOver_0 ⟨Nat.le_of_ble_eq_true rfl, Nat.le_of_ble_eq_true rfl⟩) (q_preV hK hP (q := (RX0, TX0, 2)) (ci := 0) (q0 := 1) rfl rfl [1, 2, 5, 6, 7] rfl [0, 2, 3] rfl) rfl rfl hl.1 rfl (lv_room (Nat.le_of_ble_eq_true rfl)) dX3_playTillRunning_26 ⟨Nat.le_of_ble_eq_true rfl, Nat.le_of_ble_eq_true rfl⟩) hP hS (fun H locs hP hS => ?_)
          refine lv_if_ne (tgt := 42) hx hb dX3_playTillRunning_29 (by decide) (fun c_7 => ?_) (fun c_7 => ?_)
          · have hG := q_ifn c_7 hG
            refine lv_iconst (v := (-1)) hx hb dX3_playTillRunning_42 (by decide) ?_
            obtain rfl := Option.some.inj hG
            have hP9 := hP.sub (ws' := [(fo, .inr (3, [.ref g, .ref ga])), (ga, .inr (0, [.ref ra, .ref h])), (ra, .inl (ca, 98, .inl fa_c)), (g, .inr (0, [.ref r0, .ref h])), (r0, .inl (c0, 98, .inl fr)), (h, .inr (5, [.ref r1, .ref r2, .int dv])), (r1, .inl (c1, 8, .inl fu)), (r2, .inl (c2, 48, .inl fp))]) [0, 1, 2, 3, 4, 5, 6, 7] rfl
            have hD9 := hD.sub (ws' := [(fo, .inr (3, [.ref g, .ref ga])), (ga, .inr (0, [.ref ra, .ref h])), (ra, .inl (ca, 98, .inl fa_c)), (g, .inr (0, [.ref r0, .ref h])), (r0, .inl (c0, 98, .inl fr)), (h, .inr (5, [.ref r1, .ref r2, .int dv])), (r1, .inl (c1, 8, .inl fu)), (r2, .inl (c2, 48, .inl fp))]) [0, 1, 2, 3, 4, 5, 6, 7] (by decide) rfl
            have hK9 := hK.sub (tys' := [(ca, .int), (c0, .int), (c1, .int), (c2, .int)]) [0, 1, 2, 3] rfl
            exact W.iret (v := (-1)) hx hb hr (fun t ht hW => ⟨⟨(-1), (), rfl, ⟨rfl, trivial⟩, by rw [ht]; exact hP9, va_K.moved hW.alike hK9, hD9⟩, hS.F ht⟩) hS.2.2 dX3_playTillRunning_43
          · have hG := q_ifp c_7 hG
            refine lv_aload_n hx hb dX3_playTillRunning_32 rfl (lv_at hl 1 rfl) ?_
            refine va_get (D := (dC, dI)) (ci := 3) (v := .ref ga) (C := RX3) (T := TX3) (N := 2) hx hb hts iA_3 hown hK hP 0 rfl rfl 1 (by decide) (hts (.fieldLink RX3 15 "HubTree$Foresight" "apart" "LHubTree$Bus;") (List.mem_cons_of_mem _ m_95)) (fun _ h9 => h9) rfl dX3_playTillRunning_33 ?_
            obtain ⟨o_8, r_9, hG⟩ := q_bi hG
            refine q_goi (v := o_8) (va_runV (As := []) (rest := []) ⟨hx, hb, hml, hown, hts⟩ (c_X0_isStill l dC dI ga ra h r1 r2 dv ca fa_c c1 c2 fu fp o_8 r_9) (cwV 0 hts (q_gV m_1182 m_1183 m_1184 m_33 m_1185) rfl rfl rfl hdV_yX0_isStill_0 ⟨Nat.le_of_ble_eq_true rfl, Nat.le_of_ble_eq_true rfl⟩) (q_preV hK hP (q := (RX0, TX0, 2)) (ci := 0) (q0 := 1) rfl rfl [1, 2, 5, 6, 7] rfl [0, 2, 3] rfl) rfl rfl hl.1 rfl (lv_room (Nat.le_of_ble_eq_true rfl)) dX3_playTillRunning_36 ⟨Nat.le_of_ble_eq_true rfl, Nat.le_of_ble_eq_true rfl⟩) hP hS (fun H locs hP hS => ?_)
            refine lv_if_eq (tgt := 44) hx hb dX3_playTillRunning_39 (by decide) (fun c_10 => ?_) (fun c_10 => ?_)
            · have hG := q_ifp c_10 hG
              refine lv_aload_n hx hb dX3_playTillRunning_44 rfl (lv_at hl 1 rfl) ?_
              refine va_get (D := (dC, dI)) (ci := 3) (v := .ref ga) (C := RX3) (T := TX3) (N := 2) hx hb hts iA_3 hown hK hP 0 rfl rfl 1 (by decide) (hts (.fieldLink RX3 15 "HubTree$Foresight" "apart" "LHubTree$Bus;") (List.mem_cons_of_mem _ m_95)) (fun _ h9 => h9) rfl dX3_playTillRunning_45 ?_
              obtain ⟨o_11, r_12, hG⟩ := q_bi hG
              refine q_gov2 (wr := [(fo, .inr (3, [.ref g, .ref ga])), (g, .inr (0, [.ref r0, .ref h])), (r0, .inl (c0, 98, .inl fr))]) (va_runV (As := []) (rest := []) ⟨hx, hb, hml, hown, hts⟩ (c_X0_passTick l dC dI ga ra h r1 r2 dv ca fa_c c1 c2 fu fp (va_A [(ga, .inr (0, [.ref ra, .ref h])), (ra, .inl (ca, 98, .inl fa_c)), (h, .inr (5, [.ref r1, .ref r2, .int dv])), (r1, .inl (c1, 8, .inl fu)), (r2, .inl (c2, 48, .inl fp))] H.size) o_11 r_12) (cwV 0 hts (q_gV m_1186 m_809 m_810 m_33 m_811) rfl rfl rfl hdV_yX0_passTick_0 ⟨Nat.le_of_ble_eq_true rfl, Nat.le_of_ble_eq_true rfl⟩) (q_preWV hK hP hD (q := (RX0, TX0, 2)) (ci := 0) (q0 := 1) rfl rfl [1, 2, 5, 6, 7] (by decide) rfl rfl [0, 2, 3] rfl) rfl rfl hl.1 rfl (lv_room (Nat.le_of_ble_eq_true rfl)) dX3_playTillRunning_48 ⟨Nat.le_of_ble_eq_true rfl, Nat.le_of_ble_eq_true rfl⟩) hK hP hD hS hA [1, 2, 5, 6, 7] [0, 3, 4] rfl rfl (by decide) (by decide) (fun _ H locs _ hP hD hK9 hS => ?_)
              have hP : va_P (dC, dI) vwCl [(fo, .inr (3, [.ref g, .ref ga])), (ga, .inr (0, [.ref ra, .ref h])), (ra, .inl (ca, 98, .inl (o_11))), (g, .inr (0, [.ref r0, .ref h])), (r0, .inl (c0, 98, .inl fr)), (h, .inr (5, [.ref r1, .ref r2, .int dv])), (r1, .inl (c1, 8, .inl fu)), (r2, .inl (c2, 48, .inl fp))] H := hP.sub [0, 3, 4, 1, 2, 5, 6, 7] rfl
              have hD : va_D A [(fo, .inr (3, [.ref g, .ref ga])), (ga, .inr (0, [.ref ra, .ref h])), (ra, .inl (ca, 98, .inl (o_11))), (g, .inr (0, [.ref r0, .ref h])), (r0, .inl (c0, 98, .inl fr)), (h, .inr (5, [.ref r1, .ref r2, .int dv])), (r1, .inl (c1, 8, .inl fu)), (r2, .inl (c2, 48, .inl fp))] := hD.sub [0, 3, 4, 1, 2, 5, 6, 7] (by decide) rfl
              refine lv_iinc (v := (x3_2 + 1)) (lv' := [(3, .int (x3_2 + 1)), (0, .ref fo), (1, .int z1), (2, .int z2)]) hx hb dX3_playTillRunning_51 hl (k := 0) rfl (rfl) (by decide) rfl (fun ls hl => ?_)
              refine lv_goto (tgt := 2) hx hb dX3_playTillRunning_54 (by decide) ?_
              exact ih_2 (x3_2 + 1) (o_11) H locs ls hG hP hD hS (lv_sub hl [0, 1, 2, 3] rfl)
            · have hG := q_ifn c_10 hG
              refine lv_iconst (v := (-1)) hx hb dX3_playTillRunning_42 (by decide) ?_
              obtain rfl := Option.some.inj hG
              have hP9 := hP.sub (ws' := [(fo, .inr (3, [.ref g, .ref ga])), (ga, .inr (0, [.ref ra, .ref h])), (ra, .inl (ca, 98, .inl fa_c)), (g, .inr (0, [.ref r0, .ref h])), (r0, .inl (c0, 98, .inl fr)), (h, .inr (5, [.ref r1, .ref r2, .int dv])), (r1, .inl (c1, 8, .inl fu)), (r2, .inl (c2, 48, .inl fp))]) [0, 1, 2, 3, 4, 5, 6, 7] rfl
              have hD9 := hD.sub (ws' := [(fo, .inr (3, [.ref g, .ref ga])), (ga, .inr (0, [.ref ra, .ref h])), (ra, .inl (ca, 98, .inl fa_c)), (g, .inr (0, [.ref r0, .ref h])), (r0, .inl (c0, 98, .inl fr)), (h, .inr (5, [.ref r1, .ref r2, .int dv])), (r1, .inl (c1, 8, .inl fu)), (r2, .inl (c2, 48, .inl fp))]) [0, 1, 2, 3, 4, 5, 6, 7] (by decide) rfl
              have hK9 := hK.sub (tys' := [(ca, .int), (c0, .int), (c1, .int), (c2, .int)]) [0, 1, 2, 3] rfl
              exact W.iret (v := (-1)) hx hb hr (fun t ht hW => ⟨⟨(-1), (), rfl, ⟨rfl, trivial⟩, by rw [ht]; exact hP9, va_K.moved hW.alike hK9, hD9⟩, hS.F ht⟩) hS.2.2 dX3_playTillRunning_43
        · have hG := q_ifn c_4 hG
          refine lv_iload_n hx hb dX3_playTillRunning_20 rfl (lv_at hl 0 rfl) ?_
          obtain rfl := Option.some.inj hG
          have hP9 := hP.sub (ws' := [(fo, .inr (3, [.ref g, .ref ga])), (ga, .inr (0, [.ref ra, .ref h])), (ra, .inl (ca, 98, .inl fa_c)), (g, .inr (0, [.ref r0, .ref h])), (r0, .inl (c0, 98, .inl fr)), (h, .inr (5, [.ref r1, .ref r2, .int dv])), (r1, .inl (c1, 8, .inl fu)), (r2, .inl (c2, 48, .inl fp))]) [0, 1, 2, 3, 4, 5, 6, 7] rfl
          have hD9 := hD.sub (ws' := [(fo, .inr (3, [.ref g, .ref ga])), (ga, .inr (0, [.ref ra, .ref h])), (ra, .inl (ca, 98, .inl fa_c)), (g, .inr (0, [.ref r0, .ref h])), (r0, .inl (c0, 98, .inl fr)), (h, .inr (5, [.ref r1, .ref r2, .int dv])), (r1, .inl (c1, 8, .inl fu)), (r2, .inl (c2, 48, .inl fp))]) [0, 1, 2, 3, 4, 5, 6, 7] (by decide) rfl
          have hK9 := hK.sub (tys' := [(ca, .int), (c0, .int), (c1, .int), (c2, .int)]) [0, 1, 2, 3] rfl
          exact W.iret (v := x3_2) hx hb hr (fun t ht hW => ⟨⟨x3_2, (), rfl, ⟨rfl, trivial⟩, by rw [ht]; exact hP9, va_K.moved hW.alike hK9, hD9⟩, hS.F ht⟩) hS.2.2 dX3_playTillRunning_21
  exact L_2 1000 0 fa s.heap [] ls hG hP hD hS hl

def F_X3_ticksTillRunning (fa : Nat → Int32) (fr : Nat → Int32) (dv : Int32) (fu : Nat → Int32) (fp : Nat → Int32) (z1 : Int32) : Option (Int32 × (Nat → Int32)) := ((F_X0_copyFrom fa fr).bind fun o_1 => ((F_X3_playTillRunning (o_1) fr dv fu fp z1 200).bind fun o_3 => some (o_3.1, (o_3.2))))
set_option maxHeartbeats 4000000 in
set_option maxRecDepth 100000 in
theorem c_X3_ticksTillRunning (l : Launch) (dC : Nat → ClassId) (dI : Nat → Nat → Nat) (fo : Nat) (ga : Nat) (ra : Nat) (ca : ClassId) (fa : Nat → Int32) (g : Nat) (r0 : Nat) (h : Nat) (r1 : Nat) (r2 : Nat) (dv : Int32) (c0 : ClassId) (fr : Nat → Int32) (c1 : ClassId) (c2 : ClassId) (fu : Nat → Int32) (fp : Nat → Int32) (z1 : Int32) (A : Nat → Prop) (o : Int32 × (Nat → Int32)) (hG : F_X3_ticksTillRunning fa fr dv fu fp z1 = some o) : Met l yX3_ticksTillRunning (.code yX3_ticksTillRunning cX3_ticksTillRunning 2 (some .int) :: wA) ({ frames := 6, cells := 0, slots := 0, locals := 139 }) (va_Pc [.ref fo, .int z1] (q_W (dC, dI) A [(fo, .inr (3, [.ref g, .ref ga])), (ga, .inr (0, [.ref ra, .ref h])), (ra, .inl (ca, 98, .inl fa)), (g, .inr (0, [.ref r0, .ref h])), (r0, .inl (c0, 98, .inl fr)), (h, .inr (5, [.ref r1, .ref r2, .int dv])), (r1, .inl (c1, 8, .inl fu)), (r2, .inl (c2, 48, .inl fp))] [(ca, .int), (c0, .int), (c1, .int), (c2, .int)])) (va_Qi (fun (r : Int32) (_ : Unit) => r = o.1 ∧ True) (fun (_ : Unit) t => q_B (dC, dI) A [(fo, .inr (3, [.ref g, .ref ga])), (ga, .inr (0, [.ref ra, .ref h])), (ra, .inl (ca, 98, .inl (o.2))), (g, .inr (0, [.ref r0, .ref h])), (r0, .inl (c0, 98, .inl fr)), (h, .inr (5, [.ref r1, .ref r2, .int dv])), (r1, .inl (c1, 8, .inl fu)), (r2, .inl (c2, 48, .inl fp))] [(ca, .int), (c0, .int), (c1, .int), (c2, .int)] t) A) 0 0 A := by
  refine Met.ofW (cc := cX3_ticksTillRunning) (maxL := 2) (ret := (some .int)) (by decide) rfl ?_
  intro p e s m args below meth c s₁ B hml hv
  obtain ⟨rfl, hP, hK, hD, hA⟩ := hv
  have hx := B.exec
  have hb := B.bytes
  have hr := B.returns
  have hts := atoms_spec (ws := .code yX3_ticksTillRunning cX3_ticksTillRunning 2 (some .int) :: wA) B.pre
  have hown : s.vm.findClass RX3 = some m.cls := findClass_of_methodNamed B.named
  have hlocks := B.notSynchronized
  have hS : va_S A s.heap s.heap [] := va_S.rf
  have hl := lv_entry ([.ref fo, .int z1]) (n := 2) (Nat.le_of_ble_eq_true rfl)
  rw [lg_entry_eq]
  generalize (lg_sl ([.ref fo, .int z1]) ++ List.replicate (2 - (lg_sl ([.ref fo, .int z1])).length) Slot.unset).toArray = ls at hl ⊢
  have hl : lv_has ls 2 [(0, .ref fo), (1, .int z1)] := hl
  unfold F_X3_ticksTillRunning at hG
  refine lv_aload_n hx hb dX3_ticksTillRunning_0 rfl (lv_at hl 0 rfl) ?_
  refine va_get (D := (dC, dI)) (ci := 3) (v := .ref ga) (C := RX3) (T := TX3) (N := 2) hx hb hts iA_3 hown hK hP 0 rfl rfl 1 (by decide) (hts (.fieldLink RX3 15 "HubTree$Foresight" "apart" "LHubTree$Bus;") (List.mem_cons_of_mem _ m_95)) (fun _ h9 => h9) rfl dX3_ticksTillRunning_1 ?_
  refine lv_aload_n hx hb dX3_ticksTillRunning_4 rfl (lv_at hl 0 rfl) ?_
  refine va_get (D := (dC, dI)) (ci := 3) (v := .ref g) (C := RX3) (T := TX3) (N := 2) hx hb hts iA_3 hown hK hP 0 rfl rfl 0 (by decide) (hts (.fieldLink RX3 9 "HubTree$Foresight" "now" "LHubTree$Bus;") (List.mem_cons_of_mem _ m_94)) (fun _ h9 => h9) rfl dX3_ticksTillRunning_5 ?_
  obtain ⟨o_1, r_2, hG⟩ := q_bi hG
  refine q_gov2 (wr := [(fo, .inr (3, [.ref g, .ref ga])), (h, .inr (5, [.ref r1, .ref r2, .int dv])), (r1, .inl (c1, 8, .inl fu)), (r2, .inl (c2, 48, .inl fp))]) (va_runV (As := [.ref g]) (rest := []) ⟨hx, hb, hml, hown, hts⟩ (c_X0_copyFrom l dC dI ga ra h ca fa g r0 h c0 fr (va_A [(ga, .inr (0, [.ref ra, .ref h])), (ra, .inl (ca, 98, .inl fa)), (g, .inr (0, [.ref r0, .ref h])), (r0, .inl (c0, 98, .inl fr))] s.heap.size) o_1 r_2) (cwV 1 hts (q_gV m_1168 m_1169 m_1170 m_33 m_1171) rfl rfl rfl hdV_yX0_copyFrom_1 ⟨Nat.le_of_ble_eq_true rfl, Nat.le_of_ble_eq_true rfl⟩) (q_preWV hK hP hD (q := (RX0, TX0, 2)) (ci := 0) (q0 := 1) rfl rfl [1, 2, 3, 4] (by decide) rfl rfl [0, 1] rfl) rfl rfl hl.1 rfl (lv_room (Nat.le_of_ble_eq_true rfl)) dX3_ticksTillRunning_8 ⟨Nat.le_of_ble_eq_true rfl, Nat.le_of_ble_eq_true rfl⟩) hK hP hD hS hA [1, 2, 3, 4] [0, 5, 6, 7] rfl rfl (by decide) (by decide) (fun _ H locs _ hP hD hK9 hS => ?_)
  have hP : va_P (dC, dI) vwCl [(fo, .inr (3, [.ref g, .ref ga])), (ga, .inr (0, [.ref ra, .ref h])), (ra, .inl (ca, 98, .inl (o_1))), (g, .inr (0, [.ref r0, .ref h])), (r0, .inl (c0, 98, .inl fr)), (h, .inr (5, [.ref r1, .ref r2, .int dv])), (r1, .inl (c1, 8, .inl fu)), (r2, .inl (c2, 48, .inl fp))] H := hP.sub [0, 4, 5, 6, 7, 1, 2, 3] rfl
  have hD : va_D A [(fo, .inr (3, [.ref g, .ref ga])), (ga, .inr (0, [.ref ra, .ref h])), (ra, .inl (ca, 98, .inl (o_1))), (g, .inr (0, [.ref r0, .ref h])), (r0, .inl (c0, 98, .inl fr)), (h, .inr (5, [.ref r1, .ref r2, .int dv])), (r1, .inl (c1, 8, .inl fu)), (r2, .inl (c2, 48, .inl fp))] := hD.sub [0, 4, 5, 6, 7, 1, 2, 3] (by decide) rfl
  refine lv_aload_n hx hb dX3_ticksTillRunning_11 rfl (lv_at hl 0 rfl) ?_
  refine lv_iload_n hx hb dX3_ticksTillRunning_12 rfl (lv_at hl 1 rfl) ?_
  refine lv_sipush (v := 200) hx hb dX3_ticksTillRunning_13 (by decide) ?_
  obtain ⟨o_3, r_4, hG⟩ := q_bi hG
  refine q_goi2 (v := o_3.1) (wr := []) (va_runV (As := [.int z1, .int 200]) (rest := []) ⟨hx, hb, hml, hown, hts⟩ (c_X3_playTillRunning l dC dI fo ga ra ca (o_1) g r0 h r1 r2 dv c0 fr c1 c2 fu fp z1 200 (va_A [(fo, .inr (3, [.ref g, .ref ga])), (ga, .inr (0, [.ref ra, .ref h])), (ra, .inl (ca, 98, .inl (o_1))), (g, .inr (0, [.ref r0, .ref h])), (r0, .inl (c0, 98, .inl fr)), (h, .inr (5, [.ref r1, .ref r2, .int dv])), (r1, .inl (c1, 8, .inl fu)), (r2, .inl (c2, 48, .inl fp))] H.size) o_3 r_4) (cwV 2 hts (q_gV m_1173 m_1174 m_1175 m_38 m_1176) rfl rfl rfl hdV_yX3_playTillRunning_2 ⟨Nat.le_of_ble_eq_true rfl, Nat.le_of_ble_eq_true rfl⟩) (q_preWV hK hP hD (q := (RX3, TX3, 2)) (ci := 3) (q0 := 0) rfl rfl [0, 1, 2, 3, 4, 5, 6, 7] (by decide) rfl rfl [0, 1, 2, 3] rfl) rfl rfl hl.1 rfl (lv_room (Nat.le_of_ble_eq_true rfl)) dX3_ticksTillRunning_16 ⟨Nat.le_of_ble_eq_true rfl, Nat.le_of_ble_eq_true rfl⟩) hK hP hD hS hA [0, 1, 2, 3, 4, 5, 6, 7] [] rfl rfl (by decide) (by decide) (fun _ H locs _ hP hD hK9 hS => ?_)
  have hP : va_P (dC, dI) vwCl [(fo, .inr (3, [.ref g, .ref ga])), (ga, .inr (0, [.ref ra, .ref h])), (ra, .inl (ca, 98, .inl (o_3.2))), (g, .inr (0, [.ref r0, .ref h])), (r0, .inl (c0, 98, .inl fr)), (h, .inr (5, [.ref r1, .ref r2, .int dv])), (r1, .inl (c1, 8, .inl fu)), (r2, .inl (c2, 48, .inl fp))] H := hP.sub [0, 1, 2, 3, 4, 5, 6, 7] rfl
  have hD : va_D A [(fo, .inr (3, [.ref g, .ref ga])), (ga, .inr (0, [.ref ra, .ref h])), (ra, .inl (ca, 98, .inl (o_3.2))), (g, .inr (0, [.ref r0, .ref h])), (r0, .inl (c0, 98, .inl fr)), (h, .inr (5, [.ref r1, .ref r2, .int dv])), (r1, .inl (c1, 8, .inl fu)), (r2, .inl (c2, 48, .inl fp))] := hD.sub [0, 1, 2, 3, 4, 5, 6, 7] (by decide) rfl
  obtain rfl := Option.some.inj hG
  have hP9 := hP.sub (ws' := [(fo, .inr (3, [.ref g, .ref ga])), (ga, .inr (0, [.ref ra, .ref h])), (ra, .inl (ca, 98, .inl (o_3.2))), (g, .inr (0, [.ref r0, .ref h])), (r0, .inl (c0, 98, .inl fr)), (h, .inr (5, [.ref r1, .ref r2, .int dv])), (r1, .inl (c1, 8, .inl fu)), (r2, .inl (c2, 48, .inl fp))]) [0, 1, 2, 3, 4, 5, 6, 7] rfl
  have hD9 := hD.sub (ws' := [(fo, .inr (3, [.ref g, .ref ga])), (ga, .inr (0, [.ref ra, .ref h])), (ra, .inl (ca, 98, .inl (o_3.2))), (g, .inr (0, [.ref r0, .ref h])), (r0, .inl (c0, 98, .inl fr)), (h, .inr (5, [.ref r1, .ref r2, .int dv])), (r1, .inl (c1, 8, .inl fu)), (r2, .inl (c2, 48, .inl fp))]) [0, 1, 2, 3, 4, 5, 6, 7] (by decide) rfl
  have hK9 := hK.sub (tys' := [(ca, .int), (c0, .int), (c1, .int), (c2, .int)]) [0, 1, 2, 3] rfl
  exact W.iret (v := o_3.1) hx hb hr (fun t ht hW => ⟨⟨o_3.1, (), rfl, ⟨rfl, trivial⟩, by rw [ht]; exact hP9, va_K.moved hW.alike hK9, hD9⟩, hS.F ht⟩) hS.2.2 dX3_ticksTillRunning_19

def FL_X3_allBehind_13 (fa : Nat → Int32) (fr : Nat → Int32) (dv : Int32) (fu : Nat → Int32) (fp : Nat → Int32) (z1 : Int32) (z2 : Int32) : Nat → Int32 → (Nat → Int32) → Option (Int32 × (Nat → Int32))
  | 0, _, _ => none
  | n + 1, x3_13, fa_c => (if z1 ≤ x3_13 then ((F_X0_allThatAre fa_c dv fu fp z2).bind fun o_4 => some (o_4, fa_c)) else ((F_X0_passTick fa_c dv fu fp).bind fun o_6 => (FL_X3_allBehind_13 fa fr dv fu fp z1 z2 n (x3_13 + 1) (o_6))))

def F_X3_allBehind (fa : Nat → Int32) (fr : Nat → Int32) (dv : Int32) (fu : Nat → Int32) (fp : Nat → Int32) (z1 : Int32) (z2 : Int32) : Option (Int32 × (Nat → Int32)) := ((F_X0_copyFrom fa fr).bind fun o_1 => (FL_X3_allBehind_13 fa fr dv fu fp z1 z2 1000 0 (o_1)))
set_option maxHeartbeats 4000000 in
set_option maxRecDepth 100000 in
theorem c_X3_allBehind (l : Launch) (dC : Nat → ClassId) (dI : Nat → Nat → Nat) (fo : Nat) (ga : Nat) (ra : Nat) (ca : ClassId) (fa : Nat → Int32) (g : Nat) (r0 : Nat) (h : Nat) (r1 : Nat) (r2 : Nat) (dv : Int32) (c0 : ClassId) (fr : Nat → Int32) (c1 : ClassId) (c2 : ClassId) (fu : Nat → Int32) (fp : Nat → Int32) (z1 : Int32) (z2 : Int32) (A : Nat → Prop) (o : Int32 × (Nat → Int32)) (hG : F_X3_allBehind fa fr dv fu fp z1 z2 = some o) : Met l yX3_allBehind (.code yX3_allBehind cX3_allBehind 4 (some .int) :: wA) ({ frames := 5, cells := 0, slots := 0, locals := 116 }) (va_Pc [.ref fo, .int z1, .int z2] (q_W (dC, dI) A [(fo, .inr (3, [.ref g, .ref ga])), (ga, .inr (0, [.ref ra, .ref h])), (ra, .inl (ca, 98, .inl fa)), (g, .inr (0, [.ref r0, .ref h])), (r0, .inl (c0, 98, .inl fr)), (h, .inr (5, [.ref r1, .ref r2, .int dv])), (r1, .inl (c1, 8, .inl fu)), (r2, .inl (c2, 48, .inl fp))] [(ca, .int), (c0, .int), (c1, .int), (c2, .int)])) (va_Qi (fun (r : Int32) (_ : Unit) => r = o.1 ∧ True) (fun (_ : Unit) t => q_B (dC, dI) A [(fo, .inr (3, [.ref g, .ref ga])), (ga, .inr (0, [.ref ra, .ref h])), (ra, .inl (ca, 98, .inl (o.2))), (g, .inr (0, [.ref r0, .ref h])), (r0, .inl (c0, 98, .inl fr)), (h, .inr (5, [.ref r1, .ref r2, .int dv])), (r1, .inl (c1, 8, .inl fu)), (r2, .inl (c2, 48, .inl fp))] [(ca, .int), (c0, .int), (c1, .int), (c2, .int)] t) A) 0 0 A := by
  refine Met.ofW (cc := cX3_allBehind) (maxL := 4) (ret := (some .int)) (by decide) rfl ?_
  intro p e s m args below meth c s₁ B hml hv
  obtain ⟨rfl, hP, hK, hD, hA⟩ := hv
  have hx := B.exec
  have hb := B.bytes
  have hr := B.returns
  have hts := atoms_spec (ws := .code yX3_allBehind cX3_allBehind 4 (some .int) :: wA) B.pre
  have hown : s.vm.findClass RX3 = some m.cls := findClass_of_methodNamed B.named
  have hlocks := B.notSynchronized
  have hS : va_S A s.heap s.heap [] := va_S.rf
  have hl := lv_entry ([.ref fo, .int z1, .int z2]) (n := 4) (Nat.le_of_ble_eq_true rfl)
  rw [lg_entry_eq]
  generalize (lg_sl ([.ref fo, .int z1, .int z2]) ++ List.replicate (4 - (lg_sl ([.ref fo, .int z1, .int z2])).length) Slot.unset).toArray = ls at hl ⊢
  have hl : lv_has ls 4 [(0, .ref fo), (1, .int z1), (2, .int z2)] := hl
  unfold F_X3_allBehind at hG
  refine lv_aload_n hx hb dX3_allBehind_0 rfl (lv_at hl 0 rfl) ?_
  refine va_get (D := (dC, dI)) (ci := 3) (v := .ref ga) (C := RX3) (T := TX3) (N := 2) hx hb hts iA_3 hown hK hP 0 rfl rfl 1 (by decide) (hts (.fieldLink RX3 15 "HubTree$Foresight" "apart" "LHubTree$Bus;") (List.mem_cons_of_mem _ m_95)) (fun _ h9 => h9) rfl dX3_allBehind_1 ?_
  refine lv_aload_n hx hb dX3_allBehind_4 rfl (lv_at hl 0 rfl) ?_
  refine va_get (D := (dC, dI)) (ci := 3) (v := .ref g) (C := RX3) (T := TX3) (N := 2) hx hb hts iA_3 hown hK hP 0 rfl rfl 0 (by decide) (hts (.fieldLink RX3 9 "HubTree$Foresight" "now" "LHubTree$Bus;") (List.mem_cons_of_mem _ m_94)) (fun _ h9 => h9) rfl dX3_allBehind_5 ?_
  obtain ⟨o_1, r_2, hG⟩ := q_bi hG
  refine q_gov2 (wr := [(fo, .inr (3, [.ref g, .ref ga])), (h, .inr (5, [.ref r1, .ref r2, .int dv])), (r1, .inl (c1, 8, .inl fu)), (r2, .inl (c2, 48, .inl fp))]) (va_runV (As := [.ref g]) (rest := []) ⟨hx, hb, hml, hown, hts⟩ (c_X0_copyFrom l dC dI ga ra h ca fa g r0 h c0 fr (va_A [(ga, .inr (0, [.ref ra, .ref h])), (ra, .inl (ca, 98, .inl fa)), (g, .inr (0, [.ref r0, .ref h])), (r0, .inl (c0, 98, .inl fr))] s.heap.size) o_1 r_2) (cwV 1 hts (q_gV m_1168 m_1169 m_1170 m_33 m_1171) rfl rfl rfl hdV_yX0_copyFrom_1 ⟨Nat.le_of_ble_eq_true rfl, Nat.le_of_ble_eq_true rfl⟩) (q_preWV hK hP hD (q := (RX0, TX0, 2)) (ci := 0) (q0 := 1) rfl rfl [1, 2, 3, 4] (by decide) rfl rfl [0, 1] rfl) rfl rfl hl.1 rfl (lv_room (Nat.le_of_ble_eq_true rfl)) dX3_allBehind_8 ⟨Nat.le_of_ble_eq_true rfl, Nat.le_of_ble_eq_true rfl⟩) hK hP hD hS hA [1, 2, 3, 4] [0, 5, 6, 7] rfl rfl (by decide) (by decide) (fun _ H locs _ hP hD hK9 hS => ?_)
  have hP : va_P (dC, dI) vwCl [(fo, .inr (3, [.ref g, .ref ga])), (ga, .inr (0, [.ref ra, .ref h])), (ra, .inl (ca, 98, .inl (o_1))), (g, .inr (0, [.ref r0, .ref h])), (r0, .inl (c0, 98, .inl fr)), (h, .inr (5, [.ref r1, .ref r2, .int dv])), (r1, .inl (c1, 8, .inl fu)), (r2, .inl (c2, 48, .inl fp))] H := hP.sub [0, 4, 5, 6, 7, 1, 2, 3] rfl
  have hD : va_D A [(fo, .inr (3, [.ref g, .ref ga])), (ga, .inr (0, [.ref ra, .ref h])), (ra, .inl (ca, 98, .inl (o_1))), (g, .inr (0, [.ref r0, .ref h])), (r0, .inl (c0, 98, .inl fr)), (h, .inr (5, [.ref r1, .ref r2, .int dv])), (r1, .inl (c1, 8, .inl fu)), (r2, .inl (c2, 48, .inl fp))] := hD.sub [0, 4, 5, 6, 7, 1, 2, 3] (by decide) rfl
  refine lv_iconst (v := 0) hx hb dX3_allBehind_11 (by decide) ?_
  refine lv_istore_n (lv' := [(3, .int 0), (0, .ref fo), (1, .int z1), (2, .int z2)]) hx hb dX3_allBehind_12 rfl hl (by decide) rfl (fun ls hl => ?_)
  have L_13 : ∀ (n_13 : Nat) (x3_13 : Int32) (fa_c : Nat → Int32) (H : Heap) (locs : List Loc) (ls : Array Slot), FL_X3_allBehind_13 fa fr dv fu fp z1 z2 n_13 x3_13 fa_c = some o → va_P (dC, dI) vwCl [(fo, .inr (3, [.ref g, .ref ga])), (ga, .inr (0, [.ref ra, .ref h])), (ra, .inl (ca, 98, .inl fa_c)), (g, .inr (0, [.ref r0, .ref h])), (r0, .inl (c0, 98, .inl fr)), (h, .inr (5, [.ref r1, .ref r2, .int dv])), (r1, .inl (c1, 8, .inl fu)), (r2, .inl (c2, 48, .inl fp))] H → va_D A [(fo, .inr (3, [.ref g, .ref ga])), (ga, .inr (0, [.ref ra, .ref h])), (ra, .inl (ca, 98, .inl fa_c)), (g, .inr (0, [.ref r0, .ref h])), (r0, .inl (c0, 98, .inl fr)), (h, .inr (5, [.ref r1, .ref r2, .int dv])), (r1, .inl (c1, 8, .inl fu)), (r2, .inl (c2, 48, .inl fp))] → va_S A s.heap H locs → lv_has ls 4 [(3, .int x3_13), (0, .ref fo), (1, .int z1), (2, .int z2)] → W p l e (headSpec (.code yX3_allBehind cX3_allBehind 4 (some .int) :: wA) ({ frames := 5, cells := 0, slots := 0, locals := 116 })).room s m #[.ref fo, .int z1, .int z2] below meth c H locs 0 0 (MQ below (va_Qi (fun (r : Int32) (_ : Unit) => r = o.1 ∧ True) (fun (_ : Unit) t => q_B (dC, dI) A [(fo, .inr (3, [.ref g, .ref ga])), (ga, .inr (0, [.ref ra, .ref h])), (ra, .inl (ca, 98, .inl (o.2))), (g, .inr (0, [.ref r0, .ref h])), (r0, .inl (c0, 98, .inl fr)), (h, .inr (5, [.ref r1, .ref r2, .int dv])), (r1, .inl (c1, 8, .inl fu)), (r2, .inl (c2, 48, .inl fp))] [(ca, .int), (c0, .int), (c1, .int), (c2, .int)] t) A) #[.ref fo, .int z1, .int z2] s 0 0 A) (F0 m 13 ls []) := by
    intro n_13
    induction n_13 with
    | zero =>
      intro x3_13 fa_c H locs ls hG
      exact q_no hG
    | succ n_13 ih_13 =>
      intro x3_13 fa_c H locs ls hG hP hD hS hl
      unfold FL_X3_allBehind_13 at hG
      refine lv_iload_n hx hb dX3_allBehind_13 rfl (lv_at hl 0 rfl) ?_
      refine lv_iload_n hx hb dX3_allBehind_14 rfl (lv_at hl 2 rfl) ?_
      refine lv_icmp_ge (tgt := 31) hx hb dX3_allBehind_15 (by decide) (fun c_3 => ?_) (fun c_3 => ?_)
      · have hG := q_ifp c_3 hG
        refine lv_aload_n hx hb dX3_allBehind_31 rfl (lv_at hl 1 rfl) ?_
        refine va_get (D := (dC, dI)) (ci := 3) (v := .ref ga) (C := RX3) (T := TX3) (N := 2) hx hb hts iA_3 hown hK hP 0 rfl rfl 1 (by decide) (hts (.fieldLink RX3 15 "HubTree$Foresight" "apart" "LHubTree$Bus;") (List.mem_cons_of_mem _ m_95)) (fun _ h9 => h9) rfl dX3_allBehind_32 ?_
        refine lv_iload_n hx hb dX3_allBehind_35 rfl (lv_at hl 3 rfl) ?_
        obtain ⟨o_4, r_5, hG⟩ := q_bi hG
        refine q_goi (v := o_4) (va_runV (As := [.int z2]) (rest := []) ⟨hx, hb, hml, hown, hts⟩ (c_X0_allThatAre l dC dI ga ra h r1 r2 dv ca fa_c c1 c2 fu fp z2 o_4 r_5) (cwV 1 hts (q_gV m_1211 m_881 m_882 m_33 m_883) rfl rfl rfl hdV_yX0_allThatAre_1 ⟨Nat.le_of_ble_eq_true rfl, Nat.le_of_ble_eq_true rfl⟩) (q_preV hK hP (q := (RX0, TX0, 2)) (ci := 0) (q0 := 1) rfl rfl [1, 2, 5, 6, 7] rfl [0, 2, 3] rfl) rfl rfl hl.1 rfl (lv_room (Nat.le_of_ble_eq_true rfl)) dX3_allBehind_36 ⟨Nat.le_of_ble_eq_true rfl, Nat.le_of_ble_eq_true rfl⟩) hP hS (fun H locs hP hS => ?_)
        obtain rfl := Option.some.inj hG
        have hP9 := hP.sub (ws' := [(fo, .inr (3, [.ref g, .ref ga])), (ga, .inr (0, [.ref ra, .ref h])), (ra, .inl (ca, 98, .inl fa_c)), (g, .inr (0, [.ref r0, .ref h])), (r0, .inl (c0, 98, .inl fr)), (h, .inr (5, [.ref r1, .ref r2, .int dv])), (r1, .inl (c1, 8, .inl fu)), (r2, .inl (c2, 48, .inl fp))]) [0, 1, 2, 3, 4, 5, 6, 7] rfl
        have hD9 := hD.sub (ws' := [(fo, .inr (3, [.ref g, .ref ga])), (ga, .inr (0, [.ref ra, .ref h])), (ra, .inl (ca, 98, .inl fa_c)), (g, .inr (0, [.ref r0, .ref h])), (r0, .inl (c0, 98, .inl fr)), (h, .inr (5, [.ref r1, .ref r2, .int dv])), (r1, .inl (c1, 8, .inl fu)), (r2, .inl (c2, 48, .inl fp))]) [0, 1, 2, 3, 4, 5, 6, 7] (by decide) rfl
        have hK9 := hK.sub (tys' := [(ca, .int), (c0, .int), (c1, .int), (c2, .int)]) [0, 1, 2, 3] rfl
        exact W.iret (v := o_4) hx hb hr (fun t ht hW => ⟨⟨o_4, (), rfl, ⟨rfl, trivial⟩, by rw [ht]; exact hP9, va_K.moved hW.alike hK9, hD9⟩, hS.F ht⟩) hS.2.2 dX3_allBehind_39
      · have hG := q_ifn c_3 hG
        refine lv_aload_n hx hb dX3_allBehind_18 rfl (lv_at hl 1 rfl) ?_
        refine va_get (D := (dC, dI)) (ci := 3) (v := .ref ga) (C := RX3) (T := TX3) (N := 2) hx hb hts iA_3 hown hK hP 0 rfl rfl 1 (by decide) (hts (.fieldLink RX3 15 "HubTree$Foresight" "apart" "LHubTree$Bus;") (List.mem_cons_of_mem _ m_95)) (fun _ h9 => h9) rfl dX3_allBehind_19 ?_
        obtain ⟨o_6, r_7, hG⟩ := q_bi hG
        refine q_gov2 (wr := [(fo, .inr (3, [.ref g, .ref ga])), (g, .inr (0, [.ref r0, .ref h])), (r0, .inl (c0, 98, .inl fr))]) (va_runV (As := []) (rest := []) ⟨hx, hb, hml, hown, hts⟩ (c_X0_passTick l dC dI ga ra h r1 r2 dv ca fa_c c1 c2 fu fp (va_A [(ga, .inr (0, [.ref ra, .ref h])), (ra, .inl (ca, 98, .inl fa_c)), (h, .inr (5, [.ref r1, .ref r2, .int dv])), (r1, .inl (c1, 8, .inl fu)), (r2, .inl (c2, 48, .inl fp))] H.size) o_6 r_7) (cwV 0 hts (q_gV m_1186 m_809 m_810 m_33 m_811) rfl rfl rfl hdV_yX0_passTick_0 ⟨Nat.le_of_ble_eq_true rfl, Nat.le_of_ble_eq_true rfl⟩) (q_preWV hK hP hD (q := (RX0, TX0, 2)) (ci := 0) (q0 := 1) rfl rfl [1, 2, 5, 6, 7] (by decide) rfl rfl [0, 2, 3] rfl) rfl rfl hl.1 rfl (lv_room (Nat.le_of_ble_eq_true rfl)) dX3_allBehind_22 ⟨Nat.le_of_ble_eq_true rfl, Nat.le_of_ble_eq_true rfl⟩) hK hP hD hS hA [1, 2, 5, 6, 7] [0, 3, 4] rfl rfl (by decide) (by decide) (fun _ H locs _ hP hD hK9 hS => ?_)
        have hP : va_P (dC, dI) vwCl [(fo, .inr (3, [.ref g, .ref ga])), (ga, .inr (0, [.ref ra, .ref h])), (ra, .inl (ca, 98, .inl (o_6))), (g, .inr (0, [.ref r0, .ref h])), (r0, .inl (c0, 98, .inl fr)), (h, .inr (5, [.ref r1, .ref r2, .int dv])), (r1, .inl (c1, 8, .inl fu)), (r2, .inl (c2, 48, .inl fp))] H := hP.sub [0, 3, 4, 1, 2, 5, 6, 7] rfl
        have hD : va_D A [(fo, .inr (3, [.ref g, .ref ga])), (ga, .inr (0, [.ref ra, .ref h])), (ra, .inl (ca, 98, .inl (o_6))), (g, .inr (0, [.ref r0, .ref h])), (r0, .inl (c0, 98, .inl fr)), (h, .inr (5, [.ref r1, .ref r2, .int dv])), (r1, .inl (c1, 8, .inl fu)), (r2, .inl (c2, 48, .inl fp))] := hD.sub [0, 3, 4, 1, 2, 5, 6, 7] (by decide) rfl
        refine lv_iinc (v := (x3_13 + 1)) (lv' := [(3, .int (x3_13 + 1)), (0, .ref fo), (1, .int z1), (2, .int z2)]) hx hb dX3_allBehind_25 hl (k := 0) rfl (rfl) (by decide) rfl (fun ls hl => ?_)
        refine lv_goto (tgt := 13) hx hb dX3_allBehind_28 (by decide) ?_
        exact ih_13 (x3_13 + 1) (o_6) H locs ls hG hP hD hS (lv_sub hl [0, 1, 2, 3] rfl)
  exact L_13 1000 0 (o_1) H locs ls hG hP hD hS hl

def FL_X3_ticksTillStill_13 (fa : Nat → Int32) (fr : Nat → Int32) (dv : Int32) (fu : Nat → Int32) (fp : Nat → Int32) : Nat → Int32 → (Nat → Int32) → Option (Int32 × (Nat → Int32))
  | 0, _, _ => none
  | n + 1, x1_13, fa_c => (if 200 < x1_13 then some ((-1), fa_c) else ((F_X0_isStill fa_c dv fu fp).bind fun o_4 => (if o_4 = 0 then ((F_X0_isOver fa_c dv fu fp).bind fun o_7 => (if o_7 = 0 then ((F_X0_passTick fa_c dv fu fp).bind fun o_10 => (FL_X3_ticksTillStill_13 fa fr dv fu fp n (x1_13 + 1) (o_10))) else some ((-1), fa_c))) else some (x1_13, fa_c))))

def F_X3_ticksTillStill (fa : Nat → Int32) (fr : Nat → Int32) (dv : Int32) (fu : Nat → Int32) (fp : Nat → Int32) : Option (Int32 × (Nat → Int32)) := ((F_X0_copyFrom fa fr).bind fun o_1 => (FL_X3_ticksTillStill_13 fa fr dv fu fp 1000 0 (o_1)))
set_option maxHeartbeats 4000000 in
set_option maxRecDepth 100000 in
theorem c_X3_ticksTillStill (l : Launch) (dC : Nat → ClassId) (dI : Nat → Nat → Nat) (fo : Nat) (ga : Nat) (ra : Nat) (ca : ClassId) (fa : Nat → Int32) (g : Nat) (r0 : Nat) (h : Nat) (r1 : Nat) (r2 : Nat) (dv : Int32) (c0 : ClassId) (fr : Nat → Int32) (c1 : ClassId) (c2 : ClassId) (fu : Nat → Int32) (fp : Nat → Int32) (A : Nat → Prop) (o : Int32 × (Nat → Int32)) (hG : F_X3_ticksTillStill fa fr dv fu fp = some o) : Met l yX3_ticksTillStill (.code yX3_ticksTillStill cX3_ticksTillStill 2 (some .int) :: wA) ({ frames := 5, cells := 0, slots := 0, locals := 116 }) (va_Pc [.ref fo] (q_W (dC, dI) A [(fo, .inr (3, [.ref g, .ref ga])), (ga, .inr (0, [.ref ra, .ref h])), (ra, .inl (ca, 98, .inl fa)), (g, .inr (0, [.ref r0, .ref h])), (r0, .inl (c0, 98, .inl fr)), (h, .inr (5, [.ref r1, .ref r2, .int dv])), (r1, .inl (c1, 8, .inl fu)), (r2, .inl (c2, 48, .inl fp))] [(ca, .int), (c0, .int), (c1, .int), (c2, .int)])) (va_Qi (fun (r : Int32) (_ : Unit) => r = o.1 ∧ True) (fun (_ : Unit) t => q_B (dC, dI) A [(fo, .inr (3, [.ref g, .ref ga])), (ga, .inr (0, [.ref ra, .ref h])), (ra, .inl (ca, 98, .inl (o.2))), (g, .inr (0, [.ref r0, .ref h])), (r0, .inl (c0, 98, .inl fr)), (h, .inr (5, [.ref r1, .ref r2, .int dv])), (r1, .inl (c1, 8, .inl fu)), (r2, .inl (c2, 48, .inl fp))] [(ca, .int), (c0, .int), (c1, .int), (c2, .int)] t) A) 0 0 A := by
  refine Met.ofW (cc := cX3_ticksTillStill) (maxL := 2) (ret := (some .int)) (by decide) rfl ?_
  intro p e s m args below meth c s₁ B hml hv
  obtain ⟨rfl, hP, hK, hD, hA⟩ := hv
  have hx := B.exec
  have hb := B.bytes
  have hr := B.returns
  have hts := atoms_spec (ws := .code yX3_ticksTillStill cX3_ticksTillStill 2 (some .int) :: wA) B.pre
  have hown : s.vm.findClass RX3 = some m.cls := findClass_of_methodNamed B.named
  have hlocks := B.notSynchronized
  have hS : va_S A s.heap s.heap [] := va_S.rf
  have hl := lv_entry ([.ref fo]) (n := 2) (Nat.le_of_ble_eq_true rfl)
  rw [lg_entry_eq]
  generalize (lg_sl ([.ref fo]) ++ List.replicate (2 - (lg_sl ([.ref fo])).length) Slot.unset).toArray = ls at hl ⊢
  have hl : lv_has ls 2 [(0, .ref fo)] := hl
  unfold F_X3_ticksTillStill at hG
  refine lv_aload_n hx hb dX3_ticksTillStill_0 rfl (lv_at hl 0 rfl) ?_
  refine va_get (D := (dC, dI)) (ci := 3) (v := .ref ga) (C := RX3) (T := TX3) (N := 2) hx hb hts iA_3 hown hK hP 0 rfl rfl 1 (by decide) (hts (.fieldLink RX3 15 "HubTree$Foresight" "apart" "LHubTree$Bus;") (List.mem_cons_of_mem _ m_95)) (fun _ h9 => h9) rfl dX3_ticksTillStill_1 ?_
  refine lv_aload_n hx hb dX3_ticksTillStill_4 rfl (lv_at hl 0 rfl) ?_
  refine va_get (D := (dC, dI)) (ci := 3) (v := .ref g) (C := RX3) (T := TX3) (N := 2) hx hb hts iA_3 hown hK hP 0 rfl rfl 0 (by decide) (hts (.fieldLink RX3 9 "HubTree$Foresight" "now" "LHubTree$Bus;") (List.mem_cons_of_mem _ m_94)) (fun _ h9 => h9) rfl dX3_ticksTillStill_5 ?_
  obtain ⟨o_1, r_2, hG⟩ := q_bi hG
  refine q_gov2 (wr := [(fo, .inr (3, [.ref g, .ref ga])), (h, .inr (5, [.ref r1, .ref r2, .int dv])), (r1, .inl (c1, 8, .inl fu)), (r2, .inl (c2, 48, .inl fp))]) (va_runV (As := [.ref g]) (rest := []) ⟨hx, hb, hml, hown, hts⟩ (c_X0_copyFrom l dC dI ga ra h ca fa g r0 h c0 fr (va_A [(ga, .inr (0, [.ref ra, .ref h])), (ra, .inl (ca, 98, .inl fa)), (g, .inr (0, [.ref r0, .ref h])), (r0, .inl (c0, 98, .inl fr))] s.heap.size) o_1 r_2) (cwV 1 hts (q_gV m_1168 m_1169 m_1170 m_33 m_1171) rfl rfl rfl hdV_yX0_copyFrom_1 ⟨Nat.le_of_ble_eq_true rfl, Nat.le_of_ble_eq_true rfl⟩) (q_preWV hK hP hD (q := (RX0, TX0, 2)) (ci := 0) (q0 := 1) rfl rfl [1, 2, 3, 4] (by decide) rfl rfl [0, 1] rfl) rfl rfl hl.1 rfl (lv_room (Nat.le_of_ble_eq_true rfl)) dX3_ticksTillStill_8 ⟨Nat.le_of_ble_eq_true rfl, Nat.le_of_ble_eq_true rfl⟩) hK hP hD hS hA [1, 2, 3, 4] [0, 5, 6, 7] rfl rfl (by decide) (by decide) (fun _ H locs _ hP hD hK9 hS => ?_)
  have hP : va_P (dC, dI) vwCl [(fo, .inr (3, [.ref g, .ref ga])), (ga, .inr (0, [.ref ra, .ref h])), (ra, .inl (ca, 98, .inl (o_1))), (g, .inr (0, [.ref r0, .ref h])), (r0, .inl (c0, 98, .inl fr)), (h, .inr (5, [.ref r1, .ref r2, .int dv])), (r1, .inl (c1, 8, .inl fu)), (r2, .inl (c2, 48, .inl fp))] H := hP.sub [0, 4, 5, 6, 7, 1, 2, 3] rfl
  have hD : va_D A [(fo, .inr (3, [.ref g, .ref ga])), (ga, .inr (0, [.ref ra, .ref h])), (ra, .inl (ca, 98, .inl (o_1))), (g, .inr (0, [.ref r0, .ref h])), (r0, .inl (c0, 98, .inl fr)), (h, .inr (5, [.ref r1, .ref r2, .int dv])), (r1, .inl (c1, 8, .inl fu)), (r2, .inl (c2, 48, .inl fp))] := hD.sub [0, 4, 5, 6, 7, 1, 2, 3] (by decide) rfl
  refine lv_iconst (v := 0) hx hb dX3_ticksTillStill_11 (by decide) ?_
  refine lv_istore_n (lv' := [(1, .int 0), (0, .ref fo)]) hx hb dX3_ticksTillStill_12 rfl hl (by decide) rfl (fun ls hl => ?_)
  have L_13 : ∀ (n_13 : Nat) (x1_13 : Int32) (fa_c : Nat → Int32) (H : Heap) (locs : List Loc) (ls : Array Slot), FL_X3_ticksTillStill_13 fa fr dv fu fp n_13 x1_13 fa_c = some o → va_P (dC, dI) vwCl [(fo, .inr (3, [.ref g, .ref ga])), (ga, .inr (0, [.ref ra, .ref h])), (ra, .inl (ca, 98, .inl fa_c)), (g, .inr (0, [.ref r0, .ref h])), (r0, .inl (c0, 98, .inl fr)), (h, .inr (5, [.ref r1, .ref r2, .int dv])), (r1, .inl (c1, 8, .inl fu)), (r2, .inl (c2, 48, .inl fp))] H → va_D A [(fo, .inr (3, [.ref g, .ref ga])), (ga, .inr (0, [.ref ra, .ref h])), (ra, .inl (ca, 98, .inl fa_c)), (g, .inr (0, [.ref r0, .ref h])), (r0, .inl (c0, 98, .inl fr)), (h, .inr (5, [.ref r1, .ref r2, .int dv])), (r1, .inl (c1, 8, .inl fu)), (r2, .inl (c2, 48, .inl fp))] → va_S A s.heap H locs → lv_has ls 2 [(1, .int x1_13), (0, .ref fo)] → W p l e (headSpec (.code yX3_ticksTillStill cX3_ticksTillStill 2 (some .int) :: wA) ({ frames := 5, cells := 0, slots := 0, locals := 116 })).room s m #[.ref fo] below meth c H locs 0 0 (MQ below (va_Qi (fun (r : Int32) (_ : Unit) => r = o.1 ∧ True) (fun (_ : Unit) t => q_B (dC, dI) A [(fo, .inr (3, [.ref g, .ref ga])), (ga, .inr (0, [.ref ra, .ref h])), (ra, .inl (ca, 98, .inl (o.2))), (g, .inr (0, [.ref r0, .ref h])), (r0, .inl (c0, 98, .inl fr)), (h, .inr (5, [.ref r1, .ref r2, .int dv])), (r1, .inl (c1, 8, .inl fu)), (r2, .inl (c2, 48, .inl fp))] [(ca, .int), (c0, .int), (c1, .int), (c2, .int)] t) A) #[.ref fo] s 0 0 A) (F0 m 13 ls []) := by
    intro n_13
    induction n_13 with
    | zero =>
      intro x1_13 fa_c H locs ls hG
      exact q_no hG
    | succ n_13 ih_13 =>
      intro x1_13 fa_c H locs ls hG hP hD hS hl
      unfold FL_X3_ticksTillStill_13 at hG
      refine lv_iload_n hx hb dX3_ticksTillStill_13 rfl (lv_at hl 0 rfl) ?_
      refine lv_sipush (v := 200) hx hb dX3_ticksTillStill_14 (by decide) ?_
      refine lv_icmp_gt (tgt := 57) hx hb dX3_ticksTillStill_17 (by decide) (fun c_3 => ?_) (fun c_3 => ?_)
      · have hG := q_ifp c_3 hG
        refine lv_iconst (v := (-1)) hx hb dX3_ticksTillStill_57 (by decide) ?_
        obtain rfl := Option.some.inj hG
        have hP9 := hP.sub (ws' := [(fo, .inr (3, [.ref g, .ref ga])), (ga, .inr (0, [.ref ra, .ref h])), (ra, .inl (ca, 98, .inl fa_c)), (g, .inr (0, [.ref r0, .ref h])), (r0, .inl (c0, 98, .inl fr)), (h, .inr (5, [.ref r1, .ref r2, .int dv])), (r1, .inl (c1, 8, .inl fu)), (r2, .inl (c2, 48, .inl fp))]) [0, 1, 2, 3, 4, 5, 6, 7] rfl
        have hD9 := hD.sub (ws' := [(fo, .inr (3, [.ref g, .ref ga])), (ga, .inr (0, [.ref ra, .ref h])), (ra, .inl (ca, 98, .inl fa_c)), (g, .inr (0, [.ref r0, .ref h])), (r0, .inl (c0, 98, .inl fr)), (h, .inr (5, [.ref r1, .ref r2, .int dv])), (r1, .inl (c1, 8, .inl fu)), (r2, .inl (c2, 48, .inl fp))]) [0, 1, 2, 3, 4, 5, 6, 7] (by decide) rfl
        have hK9 := hK.sub (tys' := [(ca, .int), (c0, .int), (c1, .int), (c2, .int)]) [0, 1, 2, 3] rfl
        exact W.iret (v := (-1)) hx hb hr (fun t ht hW => ⟨⟨(-1), (), rfl, ⟨rfl, trivial⟩, by rw [ht]; exact hP9, va_K.moved hW.alike hK9, hD9⟩, hS.F ht⟩) hS.2.2 dX3_ticksTillStill_58
      · have hG := q_ifn c_3 hG
        refine lv_aload_n hx hb dX3_ticksTillStill_20 rfl (lv_at hl 1 rfl) ?_
        refine va_get (D := (dC, dI)) (ci := 3) (v := .ref ga) (C := RX3) (T := TX3) (N := 2) hx hb hts iA_3 hown hK hP 0 rfl rfl 1 (by decide) (hts (.fieldLink RX3 15 "HubTree$Foresight" "apart" "LHubTree$Bus;") (List.mem_cons_of_mem _ m_95)) (fun _ h9 => h9) rfl dX3_ticksTillStill_21 ?_
        obtain ⟨o_4, r_5, hG⟩ := q_bi hG
        refine q_goi (v := o_4) (va_runV (As := []) (rest := []) ⟨hx, hb, hml, hown, hts⟩ (c_X0_isStill l dC dI ga ra h r1 r2 dv ca fa_c c1 c2 fu fp o_4 r_5) (cwV 0 hts (q_gV m_1182 m_1183 m_1184 m_33 m_1185) rfl rfl rfl hdV_yX0_isStill_0 ⟨Nat.le_of_ble_eq_true rfl, Nat.le_of_ble_eq_true rfl⟩) (q_preV hK hP (q := (RX0, TX0, 2)) (ci := 0) (q0 := 1) rfl rfl [1, 2, 5, 6, 7] rfl [0, 2, 3] rfl) rfl rfl hl.1 rfl (lv_room (Nat.le_of_ble_eq_true rfl)) dX3_ticksTillStill_24 ⟨Nat.le_of_ble_eq_true rfl, Nat.le_of_ble_eq_true rfl⟩) hP hS (fun H locs hP hS => ?_)
        refine lv_if_eq (tgt := 32) hx hb dX3_ticksTillStill_27 (by decide) (fun c_6 => ?_) (fun c_6 => ?_)
        · have hG := q_ifp c_6 hG
          refine lv_aload_n hx hb dX3_ticksTillStill_32 rfl (lv_at hl 1 rfl) ?_
          refine va_get (D := (dC, dI)) (ci := 3) (v := .ref ga) (C := RX3) (T := TX3) (N := 2) hx hb hts iA_3 hown hK hP 0 rfl rfl 1 (by decide) (hts (.fieldLink RX3 15 "HubTree$Foresight" "apart" "LHubTree$Bus;") (List.mem_cons_of_mem _ m_95)) (fun _ h9 => h9) rfl dX3_ticksTillStill_33 ?_
          obtain ⟨o_7, r_8, hG⟩ := q_bi hG
          refine q_goi (v := o_7) (va_runV (As := []) (rest := []) ⟨hx, hb, hml, hown, hts⟩ (c_X0_isOver l dC dI ga ra h r1 r2 dv ca fa_c c1 c2 fu fp o_7 r_8) (cwV 0 hts (q_gV m_1178 m_1179 m_1180 m_33 m_1181) rfl rfl rfl hdV_yX0_isOver_0 ⟨Nat.le_of_ble_eq_true rfl, Nat.le_of_ble_eq_true rfl⟩) (q_preV hK hP (q := (RX0, TX0, 2)) (ci := 0) (q0 := 1) rfl rfl [1, 2, 5, 6, 7] rfl [0, 2, 3] rfl) rfl rfl hl.1 rfl (lv_room (Nat.le_of_ble_eq_true rfl)) dX3_ticksTillStill_36 ⟨Nat.le_of_ble_eq_true rfl, Nat.le_of_ble_eq_true rfl⟩) hP hS (fun H locs hP hS => ?_)
          refine lv_if_eq (tgt := 44) hx hb dX3_ticksTillStill_39 (by decide) (fun c_9 => ?_) (fun c_9 => ?_)
          · have hG := q_ifp c_9 hG
            refine lv_aload_n hx hb dX3_ticksTillStill_44 rfl (lv_at hl 1 rfl) ?_
            refine va_get (D := (dC, dI)) (ci := 3) (v := .ref ga) (C := RX3) (T := TX3) (N := 2) hx hb hts iA_3 hown hK hP 0 rfl rfl 1 (by decide) (hts (.fieldLink RX3 15 "HubTree$Foresight" "apart" "LHubTree$Bus;") (List.mem_cons_of_mem _ m_95)) (fun _ h9 => h9) rfl dX3_ticksTillStill_45 ?_
            obtain ⟨o_10, r_11, hG⟩ := q_bi hG
            refine q_gov2 (wr := [(fo, .inr (3, [.ref g, .ref ga])), (g, .inr (0, [.ref r0, .ref h])), (r0, .inl (c0, 98, .inl fr))]) (va_runV (As := []) (rest := []) ⟨hx, hb, hml, hown, hts⟩ (c_X0_passTick l dC dI ga ra h r1 r2 dv ca fa_c c1 c2 fu fp (va_A [(ga, .inr (0, [.ref ra, .ref h])), (ra, .inl (ca, 98, .inl fa_c)), (h, .inr (5, [.ref r1, .ref r2, .int dv])), (r1, .inl (c1, 8, .inl fu)), (r2, .inl (c2, 48, .inl fp))] H.size) o_10 r_11) (cwV 0 hts (q_gV m_1186 m_809 m_810 m_33 m_811) rfl rfl rfl hdV_yX0_passTick_0 ⟨Nat.le_of_ble_eq_true rfl, Nat.le_of_ble_eq_true rfl⟩) (q_preWV hK hP hD (q := (RX0, TX0, 2)) (ci := 0) (q0 := 1) rfl rfl [1, 2, 5, 6, 7] (by decide) rfl rfl [0, 2, 3] rfl) rfl rfl hl.1 rfl (lv_room (Nat.le_of_ble_eq_true rfl)) dX3_ticksTillStill_48 ⟨Nat.le_of_ble_eq_true rfl, Nat.le_of_ble_eq_true rfl⟩) hK hP hD hS hA [1, 2, 5, 6, 7] [0, 3, 4] rfl rfl (by decide) (by decide) (fun _ H locs _ hP hD hK9 hS => ?_)
            have hP : va_P (dC, dI) vwCl [(fo, .inr (3, [.ref g, .ref ga])), (ga, .inr (0, [.ref ra, .ref h])), (ra, .inl (ca, 98, .inl (o_10))), (g, .inr (0, [.ref r0, .ref h])), (r0, .inl (c0, 98, .inl fr)), (h, .inr (5, [.ref r1, .ref r2, .int dv])), (r1, .inl (c1, 8, .inl fu)), (r2, .inl (c2, 48, .inl fp))] H := hP.sub [0, 3, 4, 1, 2, 5, 6, 7] rfl
            have hD : va_D A [(fo, .inr (3, [.ref g, .ref ga])), (ga, .inr (0, [.ref ra, .ref h])), (ra, .inl (ca, 98, .inl (o_10))), (g, .inr (0, [.ref r0, .ref h])), (r0, .inl (c0, 98, .inl fr)), (h, .inr (5, [.ref r1, .ref r2, .int dv])), (r1, .inl (c1, 8, .inl fu)), (r2, .inl (c2, 48, .inl fp))] := hD.sub [0, 3, 4, 1, 2, 5, 6, 7] (by decide) rfl
            refine lv_iinc (v := (x1_13 + 1)) (lv' := [(1, .int (x1_13 + 1)), (0, .ref fo)]) hx hb dX3_ticksTillStill_51 hl (k := 0) rfl (rfl) (by decide) rfl (fun ls hl => ?_)
            refine lv_goto (tgt := 13) hx hb dX3_ticksTillStill_54 (by decide) ?_
            exact ih_13 (x1_13 + 1) (o_10) H locs ls hG hP hD hS (lv_sub hl [0, 1] rfl)
          · have hG := q_ifn c_9 hG
            refine lv_iconst (v := (-1)) hx hb dX3_ticksTillStill_42 (by decide) ?_
            obtain rfl := Option.some.inj hG
            have hP9 := hP.sub (ws' := [(fo, .inr (3, [.ref g, .ref ga])), (ga, .inr (0, [.ref ra, .ref h])), (ra, .inl (ca, 98, .inl fa_c)), (g, .inr (0, [.ref r0, .ref h])), (r0, .inl (c0, 98, .inl fr)), (h, .inr (5, [.ref r1, .ref r2, .int dv])), (r1, .inl (c1, 8, .inl fu)), (r2, .inl (c2, 48, .inl fp))]) [0, 1, 2, 3, 4, 5, 6, 7] rfl
            have hD9 := hD.sub (ws' := [(fo, .inr (3, [.ref g, .ref ga])), (ga, .inr (0, [.ref ra, .ref h])), (ra, .inl (ca, 98, .inl fa_c)), (g, .inr (0, [.ref r0, .ref h])), (r0, .inl (c0, 98, .inl fr)), (h, .inr (5, [.ref r1, .ref r2, .int dv])), (r1, .inl (c1, 8, .inl fu)), (r2, .inl (c2, 48, .inl fp))]) [0, 1, 2, 3, 4, 5, 6, 7] (by decide) rfl
            have hK9 := hK.sub (tys' := [(ca, .int), (c0, .int), (c1, .int), (c2, .int)]) [0, 1, 2, 3] rfl
            exact W.iret (v := (-1)) hx hb hr (fun t ht hW => ⟨⟨(-1), (), rfl, ⟨rfl, trivial⟩, by rw [ht]; exact hP9, va_K.moved hW.alike hK9, hD9⟩, hS.F ht⟩) hS.2.2 dX3_ticksTillStill_43
        · have hG := q_ifn c_6 hG
          refine lv_iload_n hx hb dX3_ticksTillStill_30 rfl (lv_at hl 0 rfl) ?_
          obtain rfl := Option.some.inj hG
          have hP9 := hP.sub (ws' := [(fo, .inr (3, [.ref g, .ref ga])), (ga, .inr (0, [.ref ra, .ref h])), (ra, .inl (ca, 98, .inl fa_c)), (g, .inr (0, [.ref r0, .ref h])), (r0, .inl (c0, 98, .inl fr)), (h, .inr (5, [.ref r1, .ref r2, .int dv])), (r1, .inl (c1, 8, .inl fu)), (r2, .inl (c2, 48, .inl fp))]) [0, 1, 2, 3, 4, 5, 6, 7] rfl
          have hD9 := hD.sub (ws' := [(fo, .inr (3, [.ref g, .ref ga])), (ga, .inr (0, [.ref ra, .ref h])), (ra, .inl (ca, 98, .inl fa_c)), (g, .inr (0, [.ref r0, .ref h])), (r0, .inl (c0, 98, .inl fr)), (h, .inr (5, [.ref r1, .ref r2, .int dv])), (r1, .inl (c1, 8, .inl fu)), (r2, .inl (c2, 48, .inl fp))]) [0, 1, 2, 3, 4, 5, 6, 7] (by decide) rfl
          have hK9 := hK.sub (tys' := [(ca, .int), (c0, .int), (c1, .int), (c2, .int)]) [0, 1, 2, 3] rfl
          exact W.iret (v := x1_13) hx hb hr (fun t ht hW => ⟨⟨x1_13, (), rfl, ⟨rfl, trivial⟩, by rw [ht]; exact hP9, va_K.moved hW.alike hK9, hD9⟩, hS.F ht⟩) hS.2.2 dX3_ticksTillStill_31
  exact L_13 1000 0 (o_1) H locs ls hG hP hD hS hl

def FL_X3_bestPort_9 (fa : Nat → Int32) (fr : Nat → Int32) (dv : Int32) (fu : Nat → Int32) (fp : Nat → Int32) (z1 : Int32) : Nat → Int32 → Int32 → Int32 → (Nat → Int32) → Option (Int32 × (Nat → Int32))
  | 0, _, _, _, _ => none
  | n + 1, x2_9, x3_9, x4_9, fa_c => (if 8 < x4_9 then some (x2_9, fa_c) else ((F_X0_firstFreePort fr dv fu fp x4_9).bind fun o_2 => (if o_2 = (-1) then (FL_X3_bestPort_9 fa fr dv fu fp z1 n x2_9 x3_9 (x4_9 + 1) fa_c) else ((F_X0_copyFrom fa_c fr).bind fun o_5 => ((F_X0_putIn (o_5) dv fu fp z1 x4_9 o_2).bind fun o_7 => ((F_X3_playTillRunning (o_7) fr dv fu fp z1 x3_9).bind fun o_9 => (if o_9.1 = (-1) then (FL_X3_bestPort_9 fa fr dv fu fp z1 n x2_9 x3_9 (x4_9 + 1) (o_9.2)) else (FL_X3_bestPort_9 fa fr dv fu fp z1 n ((10 * x4_9) + o_2) (o_9.1 - 1) (x4_9 + 1) (o_9.2)))))))))

def F_X3_bestPort (fa : Nat → Int32) (fr : Nat → Int32) (dv : Int32) (fu : Nat → Int32) (fp : Nat → Int32) (z1 : Int32) : Option (Int32 × (Nat → Int32)) := (FL_X3_bestPort_9 fa fr dv fu fp z1 1000 (-1) 200 0 fa)
set_option maxHeartbeats 4000000 in
set_option maxRecDepth 100000 in
theorem c_X3_bestPort (l : Launch) (dC : Nat → ClassId) (dI : Nat → Nat → Nat) (fo : Nat) (ga : Nat) (ra : Nat) (ca : ClassId) (fa : Nat → Int32) (g : Nat) (r0 : Nat) (h : Nat) (r1 : Nat) (r2 : Nat) (dv : Int32) (c0 : ClassId) (fr : Nat → Int32) (c1 : ClassId) (c2 : ClassId) (fu : Nat → Int32) (fp : Nat → Int32) (z1 : Int32) (A : Nat → Prop) (o : Int32 × (Nat → Int32)) (hG : F_X3_bestPort fa fr dv fu fp z1 = some o) : Met l yX3_bestPort (.code yX3_bestPort cX3_bestPort 7 (some .int) :: wA) ({ frames := 6, cells := 0, slots := 0, locals := 139 }) (va_Pc [.ref fo, .int z1] (q_W (dC, dI) A [(fo, .inr (3, [.ref g, .ref ga])), (ga, .inr (0, [.ref ra, .ref h])), (ra, .inl (ca, 98, .inl fa)), (g, .inr (0, [.ref r0, .ref h])), (r0, .inl (c0, 98, .inl fr)), (h, .inr (5, [.ref r1, .ref r2, .int dv])), (r1, .inl (c1, 8, .inl fu)), (r2, .inl (c2, 48, .inl fp))] [(ca, .int), (c0, .int), (c1, .int), (c2, .int)])) (va_Qi (fun (r : Int32) (_ : Unit) => r = o.1 ∧ True) (fun (_ : Unit) t => q_B (dC, dI) A [(fo, .inr (3, [.ref g, .ref ga])), (ga, .inr (0, [.ref ra, .ref h])), (ra, .inl (ca, 98, .inl (o.2))), (g, .inr (0, [.ref r0, .ref h])), (r0, .inl (c0, 98, .inl fr)), (h, .inr (5, [.ref r1, .ref r2, .int dv])), (r1, .inl (c1, 8, .inl fu)), (r2, .inl (c2, 48, .inl fp))] [(ca, .int), (c0, .int), (c1, .int), (c2, .int)] t) A) 0 0 A := by
  refine Met.ofW (cc := cX3_bestPort) (maxL := 7) (ret := (some .int)) (by decide) rfl ?_
  intro p e s m args below meth c s₁ B hml hv
  obtain ⟨rfl, hP, hK, hD, hA⟩ := hv
  have hx := B.exec
  have hb := B.bytes
  have hr := B.returns
  have hts := atoms_spec (ws := .code yX3_bestPort cX3_bestPort 7 (some .int) :: wA) B.pre
  have hown : s.vm.findClass RX3 = some m.cls := findClass_of_methodNamed B.named
  have hlocks := B.notSynchronized
  have hS : va_S A s.heap s.heap [] := va_S.rf
  have hl := lv_entry ([.ref fo, .int z1]) (n := 7) (Nat.le_of_ble_eq_true rfl)
  rw [lg_entry_eq]
  generalize (lg_sl ([.ref fo, .int z1]) ++ List.replicate (7 - (lg_sl ([.ref fo, .int z1])).length) Slot.unset).toArray = ls at hl ⊢
  have hl : lv_has ls 7 [(0, .ref fo), (1, .int z1)] := hl
  unfold F_X3_bestPort at hG
  refine lv_iconst (v := (-1)) hx hb dX3_bestPort_0 (by decide) ?_
  refine lv_istore_n (lv' := [(2, .int (-1)), (0, .ref fo), (1, .int z1)]) hx hb dX3_bestPort_1 rfl hl (by decide) rfl (fun ls hl => ?_)
  refine lv_sipush (v := 200) hx hb dX3_bestPort_2 (by decide) ?_
  refine lv_istore_n (lv' := [(3, .int 200), (2, .int (-1)), (0, .ref fo), (1, .int z1)]) hx hb dX3_bestPort_5 rfl hl (by decide) rfl (fun ls hl => ?_)
  refine lv_iconst (v := 0) hx hb dX3_bestPort_6 (by decide) ?_
  refine lv_istore (lv' := [(4, .int 0), (3, .int 200), (2, .int (-1)), (0, .ref fo), (1, .int z1)]) hx hb dX3_bestPort_7 hl (by decide) rfl (fun ls hl => ?_)
  have L_9 : ∀ (n_9 : Nat) (x2_9 : Int32) (x3_9 : Int32) (x4_9 : Int32) (fa_c : Nat → Int32) (H : Heap) (locs : List Loc) (ls : Array Slot), FL_X3_bestPort_9 fa fr dv fu fp z1 n_9 x2_9 x3_9 x4_9 fa_c = some o → va_P (dC, dI) vwCl [(fo, .inr (3, [.ref g, .ref ga])), (ga, .inr (0, [.ref ra, .ref h])), (ra, .inl (ca, 98, .inl fa_c)), (g, .inr (0, [.ref r0, .ref h])), (r0, .inl (c0, 98, .inl fr)), (h, .inr (5, [.ref r1, .ref r2, .int dv])), (r1, .inl (c1, 8, .inl fu)), (r2, .inl (c2, 48, .inl fp))] H → va_D A [(fo, .inr (3, [.ref g, .ref ga])), (ga, .inr (0, [.ref ra, .ref h])), (ra, .inl (ca, 98, .inl fa_c)), (g, .inr (0, [.ref r0, .ref h])), (r0, .inl (c0, 98, .inl fr)), (h, .inr (5, [.ref r1, .ref r2, .int dv])), (r1, .inl (c1, 8, .inl fu)), (r2, .inl (c2, 48, .inl fp))] → va_S A s.heap H locs → lv_has ls 7 [(4, .int x4_9), (3, .int x3_9), (2, .int x2_9), (0, .ref fo), (1, .int z1)] → W p l e (headSpec (.code yX3_bestPort cX3_bestPort 7 (some .int) :: wA) ({ frames := 6, cells := 0, slots := 0, locals := 139 })).room s m #[.ref fo, .int z1] below meth c H locs 0 0 (MQ below (va_Qi (fun (r : Int32) (_ : Unit) => r = o.1 ∧ True) (fun (_ : Unit) t => q_B (dC, dI) A [(fo, .inr (3, [.ref g, .ref ga])), (ga, .inr (0, [.ref ra, .ref h])), (ra, .inl (ca, 98, .inl (o.2))), (g, .inr (0, [.ref r0, .ref h])), (r0, .inl (c0, 98, .inl fr)), (h, .inr (5, [.ref r1, .ref r2, .int dv])), (r1, .inl (c1, 8, .inl fu)), (r2, .inl (c2, 48, .inl fp))] [(ca, .int), (c0, .int), (c1, .int), (c2, .int)] t) A) #[.ref fo, .int z1] s 0 0 A) (F0 m 9 ls []) := by
    intro n_9
    induction n_9 with
    | zero =>
      intro x2_9 x3_9 x4_9 fa_c H locs ls hG
      exact q_no hG
    | succ n_9 ih_9 =>
      intro x2_9 x3_9 x4_9 fa_c H locs ls hG hP hD hS hl
      unfold FL_X3_bestPort_9 at hG
      refine lv_iload hx hb dX3_bestPort_9 (lv_at hl 0 rfl) ?_
      refine lv_bipush (v := 8) hx hb dX3_bestPort_11 (by decide) ?_
      refine lv_icmp_gt (tgt := 90) hx hb dX3_bestPort_13 (by decide) (fun c_1 => ?_) (fun c_1 => ?_)
      · have hG := q_ifp c_1 hG
        refine lv_iload_n hx hb dX3_bestPort_90 rfl (lv_at hl 2 rfl) ?_
        obtain rfl := Option.some.inj hG
        have hP9 := hP.sub (ws' := [(fo, .inr (3, [.ref g, .ref ga])), (ga, .inr (0, [.ref ra, .ref h])), (ra, .inl (ca, 98, .inl fa_c)), (g, .inr (0, [.ref r0, .ref h])), (r0, .inl (c0, 98, .inl fr)), (h, .inr (5, [.ref r1, .ref r2, .int dv])), (r1, .inl (c1, 8, .inl fu)), (r2, .inl (c2, 48, .inl fp))]) [0, 1, 2, 3, 4, 5, 6, 7] rfl
        have hD9 := hD.sub (ws' := [(fo, .inr (3, [.ref g, .ref ga])), (ga, .inr (0, [.ref ra, .ref h])), (ra, .inl (ca, 98, .inl fa_c)), (g, .inr (0, [.ref r0, .ref h])), (r0, .inl (c0, 98, .inl fr)), (h, .inr (5, [.ref r1, .ref r2, .int dv])), (r1, .inl (c1, 8, .inl fu)), (r2, .inl (c2, 48, .inl fp))]) [0, 1, 2, 3, 4, 5, 6, 7] (by decide) rfl
        have hK9 := hK.sub (tys' := [(ca, .int), (c0, .int), (c1, .int), (c2, .int)]) [0, 1, 2, 3] rfl
        exact W.iret (v := x2_9) hx hb hr (fun t ht hW => ⟨⟨x2_9, (), rfl, ⟨rfl, trivial⟩, by rw [ht]; exact hP9, va_K.moved hW.alike hK9, hD9⟩, hS.F ht⟩) hS.2.2 dX3_bestPort_91
      · have hG := q_ifn c_1 hG
        refine lv_aload_n hx hb dX3_bestPort_16 rfl (lv_at hl 3 rfl) ?_
        refine va_get (D := (dC, dI)) (ci := 3) (v := .ref g) (C := RX3) (T := TX3) (N := 2) hx hb hts iA_3 hown hK hP 0 rfl rfl 0 (by decide) (hts (.fieldLink RX3 9 "HubTree$Foresight" "now" "LHubTree$Bus;") (List.mem_cons_of_mem _ m_94)) (fun _ h9 => h9) rfl dX3_bestPort_17 ?_
        refine lv_iload hx hb dX3_bestPort_20 (lv_at hl 0 rfl) ?_
        obtain ⟨o_2, r_3, hG⟩ := q_bi hG
        refine q_goi (v := o_2) (va_runV (As := [.int x4_9]) (rest := []) ⟨hx, hb, hml, hown, hts⟩ (c_X0_firstFreePort l dC dI g r0 h r1 r2 dv c0 fr c1 c2 fu fp x4_9 o_2 r_3) (cwV 1 hts (q_gV m_1240 m_1241 m_1242 m_33 m_1243) rfl rfl rfl hdV_yX0_firstFreePort_1 ⟨Nat.le_of_ble_eq_true rfl, Nat.le_of_ble_eq_true rfl⟩) (q_preV hK hP (q := (RX0, TX0, 2)) (ci := 0) (q0 := 3) rfl rfl [3, 4, 5, 6, 7] rfl [1, 2, 3] rfl) rfl rfl hl.1 rfl (lv_room (Nat.le_of_ble_eq_true rfl)) dX3_bestPort_22 ⟨Nat.le_of_ble_eq_true rfl, Nat.le_of_ble_eq_true rfl⟩) hP hS (fun H locs hP hS => ?_)
        refine lv_istore (lv' := [(5, .int o_2), (4, .int x4_9), (3, .int x3_9), (2, .int x2_9), (0, .ref fo), (1, .int z1)]) hx hb dX3_bestPort_25 hl (by decide) rfl (fun ls hl => ?_)
        refine lv_iload hx hb dX3_bestPort_27 (lv_at hl 0 rfl) ?_
        refine lv_iconst (v := (-1)) hx hb dX3_bestPort_29 (by decide) ?_
        refine lv_icmp_eq (tgt := 84) hx hb dX3_bestPort_30 (by decide) (fun c_4 => ?_) (fun c_4 => ?_)
        · have hG := q_ifp c_4 hG
          refine lv_iinc (v := (x4_9 + 1)) (lv' := [(4, .int (x4_9 + 1)), (5, .int o_2), (3, .int x3_9), (2, .int x2_9), (0, .ref fo), (1, .int z1)]) hx hb dX3_bestPort_84 hl (k := 1) rfl (rfl) (by decide) rfl (fun ls hl => ?_)
          refine lv_goto (tgt := 9) hx hb dX3_bestPort_87 (by decide) ?_
          exact ih_9 x2_9 x3_9 (x4_9 + 1) fa_c H locs ls hG hP hD hS (lv_sub hl [0, 2, 3, 4, 5] rfl)
        · have hG := q_ifn c_4 hG
          refine lv_aload_n hx hb dX3_bestPort_33 rfl (lv_at hl 4 rfl) ?_
          refine va_get (D := (dC, dI)) (ci := 3) (v := .ref ga) (C := RX3) (T := TX3) (N := 2) hx hb hts iA_3 hown hK hP 0 rfl rfl 1 (by decide) (hts (.fieldLink RX3 15 "HubTree$Foresight" "apart" "LHubTree$Bus;") (List.mem_cons_of_mem _ m_95)) (fun _ h9 => h9) rfl dX3_bestPort_34 ?_
          refine lv_aload_n hx hb dX3_bestPort_37 rfl (lv_at hl 4 rfl) ?_
          refine va_get (D := (dC, dI)) (ci := 3) (v := .ref g) (C := RX3) (T := TX3) (N := 2) hx hb hts iA_3 hown hK hP 0 rfl rfl 0 (by decide) (hts (.fieldLink RX3 9 "HubTree$Foresight" "now" "LHubTree$Bus;") (List.mem_cons_of_mem _ m_94)) (fun _ h9 => h9) rfl dX3_bestPort_38 ?_
          obtain ⟨o_5, r_6, hG⟩ := q_bi hG
          refine q_gov2 (wr := [(fo, .inr (3, [.ref g, .ref ga])), (h, .inr (5, [.ref r1, .ref r2, .int dv])), (r1, .inl (c1, 8, .inl fu)), (r2, .inl (c2, 48, .inl fp))]) (va_runV (As := [.ref g]) (rest := []) ⟨hx, hb, hml, hown, hts⟩ (c_X0_copyFrom l dC dI ga ra h ca fa_c g r0 h c0 fr (va_A [(ga, .inr (0, [.ref ra, .ref h])), (ra, .inl (ca, 98, .inl fa_c)), (g, .inr (0, [.ref r0, .ref h])), (r0, .inl (c0, 98, .inl fr))] H.size) o_5 r_6) (cwV 1 hts (q_gV m_1168 m_1169 m_1170 m_33 m_1171) rfl rfl rfl hdV_yX0_copyFrom_1 ⟨Nat.le_of_ble_eq_true rfl, Nat.le_of_ble_eq_true rfl⟩) (q_preWV hK hP hD (q := (RX0, TX0, 2)) (ci := 0) (q0 := 1) rfl rfl [1, 2, 3, 4] (by decide) rfl rfl [0, 1] rfl) rfl rfl hl.1 rfl (lv_room (Nat.le_of_ble_eq_true rfl)) dX3_bestPort_41 ⟨Nat.le_of_ble_eq_true rfl, Nat.le_of_ble_eq_true rfl⟩) hK hP hD hS hA [1, 2, 3, 4] [0, 5, 6, 7] rfl rfl (by decide) (by decide) (fun _ H locs _ hP hD hK9 hS => ?_)
          have hP : va_P (dC, dI) vwCl [(fo, .inr (3, [.ref g, .ref ga])), (ga, .inr (0, [.ref ra, .ref h])), (ra, .inl (ca, 98, .inl (o_5))), (g, .inr (0, [.ref r0, .ref h])), (r0, .inl (c0, 98, .inl fr)), (h, .inr (5, [.ref r1, .ref r2, .int dv])), (r1, .inl (c1, 8, .inl fu)), (r2, .inl (c2, 48, .inl fp))] H := hP.sub [0, 4, 5, 6, 7, 1, 2, 3] rfl
          have hD : va_D A [(fo, .inr (3, [.ref g, .ref ga])), (ga, .inr (0, [.ref ra, .ref h])), (ra, .inl (ca, 98, .inl (o_5))), (g, .inr (0, [.ref r0, .ref h])), (r0, .inl (c0, 98, .inl fr)), (h, .inr (5, [.ref r1, .ref r2, .int dv])), (r1, .inl (c1, 8, .inl fu)), (r2, .inl (c2, 48, .inl fp))] := hD.sub [0, 4, 5, 6, 7, 1, 2, 3] (by decide) rfl
          refine lv_aload_n hx hb dX3_bestPort_44 rfl (lv_at hl 4 rfl) ?_
          refine va_get (D := (dC, dI)) (ci := 3) (v := .ref ga) (C := RX3) (T := TX3) (N := 2) hx hb hts iA_3 hown hK hP 0 rfl rfl 1 (by decide) (hts (.fieldLink RX3 15 "HubTree$Foresight" "apart" "LHubTree$Bus;") (List.mem_cons_of_mem _ m_95)) (fun _ h9 => h9) rfl dX3_bestPort_45 ?_
          refine lv_iload_n hx hb dX3_bestPort_48 rfl (lv_at hl 5 rfl) ?_
          refine lv_iload hx hb dX3_bestPort_49 (lv_at hl 1 rfl) ?_
          refine lv_iload hx hb dX3_bestPort_51 (lv_at hl 0 rfl) ?_
          obtain ⟨o_7, r_8, hG⟩ := q_bi hG
          refine q_gov2 (wr := [(fo, .inr (3, [.ref g, .ref ga])), (g, .inr (0, [.ref r0, .ref h])), (r0, .inl (c0, 98, .inl fr))]) (va_runV (As := [.int z1, .int x4_9, .int o_2]) (rest := []) ⟨hx, hb, hml, hown, hts⟩ (c_X0_putIn l dC dI ga ra h r1 r2 dv ca (o_5) c1 c2 fu fp z1 x4_9 o_2 (va_A [(ga, .inr (0, [.ref ra, .ref h])), (ra, .inl (ca, 98, .inl (o_5))), (h, .inr (5, [.ref r1, .ref r2, .int dv])), (r1, .inl (c1, 8, .inl fu)), (r2, .inl (c2, 48, .inl fp))] H.size) o_7 r_8) (cwV 3 hts (q_gV m_1245 m_800 m_801 m_33 m_802) rfl rfl rfl hdV_yX0_putIn_3 ⟨Nat.le_of_ble_eq_true rfl, Nat.le_of_ble_eq_true rfl⟩) (q_preWV hK hP hD (q := (RX0, TX0, 2)) (ci := 0) (q0 := 1) rfl rfl [1, 2, 5, 6, 7] (by decide) rfl rfl [0, 2, 3] rfl) rfl rfl hl.1 rfl (lv_room (Nat.le_of_ble_eq_true rfl)) dX3_bestPort_53 ⟨Nat.le_of_ble_eq_true rfl, Nat.le_of_ble_eq_true rfl⟩) hK hP hD hS hA [1, 2, 5, 6, 7] [0, 3, 4] rfl rfl (by decide) (by decide) (fun _ H locs _ hP hD hK9 hS => ?_)
          have hP : va_P (dC, dI) vwCl [(fo, .inr (3, [.ref g, .ref ga])), (ga, .inr (0, [.ref ra, .ref h])), (ra, .inl (ca, 98, .inl (o_7))), (g, .inr (0, [.ref r0, .ref h])), (r0, .inl (c0, 98, .inl fr)), (h, .inr (5, [.ref r1, .ref r2, .int dv])), (r1, .inl (c1, 8, .inl fu)), (r2, .inl (c2, 48, .inl fp))] H := hP.sub [0, 3, 4, 1, 2, 5, 6, 7] rfl
          have hD : va_D A [(fo, .inr (3, [.ref g, .ref ga])), (ga, .inr (0, [.ref ra, .ref h])), (ra, .inl (ca, 98, .inl (o_7))), (g, .inr (0, [.ref r0, .ref h])), (r0, .inl (c0, 98, .inl fr)), (h, .inr (5, [.ref r1, .ref r2, .int dv])), (r1, .inl (c1, 8, .inl fu)), (r2, .inl (c2, 48, .inl fp))] := hD.sub [0, 3, 4, 1, 2, 5, 6, 7] (by decide) rfl
          refine lv_aload_n hx hb dX3_bestPort_56 rfl (lv_at hl 4 rfl) ?_
          refine lv_iload_n hx hb dX3_bestPort_57 rfl (lv_at hl 5 rfl) ?_
          refine lv_iload_n hx hb dX3_bestPort_58 rfl (lv_at hl 2 rfl) ?_
          obtain ⟨o_9, r_10, hG⟩ := q_bi hG
          refine q_goi2 (v := o_9.1) (wr := []) (va_runV (As := [.int z1, .int x3_9]) (rest := []) ⟨hx, hb, hml, hown, hts⟩ (c_X3_playTillRunning l dC dI fo ga ra ca (o_7) g r0 h r1 r2 dv c0 fr c1 c2 fu fp z1 x3_9 (va_A [(fo, .inr (3, [.ref g, .ref ga])), (ga, .inr (0, [.ref ra, .ref h])), (ra, .inl (ca, 98, .inl (o_7))), (g, .inr (0, [.ref r0, .ref h])), (r0, .inl (c0, 98, .inl fr)), (h, .inr (5, [.ref r1, .ref r2, .int dv])), (r1, .inl (c1, 8, .inl fu)), (r2, .inl (c2, 48, .inl fp))] H.size) o_9 r_10) (cwV 2 hts (q_gV m_1173 m_1174 m_1175 m_38 m_1176) rfl rfl rfl hdV_yX3_playTillRunning_2 ⟨Nat.le_of_ble_eq_true rfl, Nat.le_of_ble_eq_true rfl⟩) (q_preWV hK hP hD (q := (RX3, TX3, 2)) (ci := 3) (q0 := 0) rfl rfl [0, 1, 2, 3, 4, 5, 6, 7] (by decide) rfl rfl [0, 1, 2, 3] rfl) rfl rfl hl.1 rfl (lv_room (Nat.le_of_ble_eq_true rfl)) dX3_bestPort_59 ⟨Nat.le_of_ble_eq_true rfl, Nat.le_of_ble_eq_true rfl⟩) hK hP hD hS hA [0, 1, 2, 3, 4, 5, 6, 7] [] rfl rfl (by decide) (by decide) (fun _ H locs _ hP hD hK9 hS => ?_)
          have hP : va_P (dC, dI) vwCl [(fo, .inr (3, [.ref g, .ref ga])), (ga, .inr (0, [.ref ra, .ref h])), (ra, .inl (ca, 98, .inl (o_9.2))), (g, .inr (0, [.ref r0, .ref h])), (r0, .inl (c0, 98, .inl fr)), (h, .inr (5, [.ref r1, .ref r2, .int dv])), (r1, .inl (c1, 8, .inl fu)), (r2, .inl (c2, 48, .inl fp))] H := hP.sub [0, 1, 2, 3, 4, 5, 6, 7] rfl
          have hD : va_D A [(fo, .inr (3, [.ref g, .ref ga])), (ga, .inr (0, [.ref ra, .ref h])), (ra, .inl (ca, 98, .inl (o_9.2))), (g, .inr (0, [.ref r0, .ref h])), (r0, .inl (c0, 98, .inl fr)), (h, .inr (5, [.ref r1, .ref r2, .int dv])), (r1, .inl (c1, 8, .inl fu)), (r2, .inl (c2, 48, .inl fp))] := hD.sub [0, 1, 2, 3, 4, 5, 6, 7] (by decide) rfl
          refine lv_istore (lv' := [(6, .int o_9.1), (5, .int o_2), (4, .int x4_9), (3, .int x3_9), (2, .int x2_9), (0, .ref fo), (1, .int z1)]) hx hb dX3_bestPort_62 hl (by decide) rfl (fun ls hl => ?_)
          refine lv_iload hx hb dX3_bestPort_64 (lv_at hl 0 rfl) ?_
          refine lv_iconst (v := (-1)) hx hb dX3_bestPort_66 (by decide) ?_
          refine lv_icmp_eq (tgt := 84) hx hb dX3_bestPort_67 (by decide) (fun c_11 => ?_) (fun c_11 => ?_)
          · have hG := q_ifp c_11 hG
            refine lv_iinc (v := (x4_9 + 1)) (lv' := [(4, .int (x4_9 + 1)), (6, .int o_9.1), (5, .int o_2), (3, .int x3_9), (2, .int x2_9), (0, .ref fo), (1, .int z1)]) hx hb dX3_bestPort_84 hl (k := 2) rfl (rfl) (by decide) rfl (fun ls hl => ?_)
            refine lv_goto (tgt := 9) hx hb dX3_bestPort_87 (by decide) ?_
            exact ih_9 x2_9 x3_9 (x4_9 + 1) (o_9.2) H locs ls hG hP hD hS (lv_sub hl [0, 3, 4, 5, 6] rfl)
          · have hG := q_ifn c_11 hG
            refine lv_bipush (v := 10) hx hb dX3_bestPort_70 (by decide) ?_
            refine lv_iload hx hb dX3_bestPort_72 (lv_at hl 2 rfl) ?_
            refine lv_imul hx hb dX3_bestPort_74 ?_
            refine lv_iload hx hb dX3_bestPort_75 (lv_at hl 1 rfl) ?_
            refine lv_iadd hx hb dX3_bestPort_77 ?_
            refine lv_istore_n (lv' := [(2, .int ((10 * x4_9) + o_2)), (6, .int o_9.1), (5, .int o_2), (4, .int x4_9), (3, .int x3_9), (0, .ref fo), (1, .int z1)]) hx hb dX3_bestPort_78 rfl hl (by decide) rfl (fun ls hl => ?_)
            refine lv_iload hx hb dX3_bestPort_79 (lv_at hl 1 rfl) ?_
            refine lv_iconst (v := 1) hx hb dX3_bestPort_81 (by decide) ?_
            refine lv_isub hx hb dX3_bestPort_82 ?_
            refine lv_istore_n (lv' := [(3, .int (o_9.1 - 1)), (2, .int ((10 * x4_9) + o_2)), (6, .int o_9.1), (5, .int o_2), (4, .int x4_9), (0, .ref fo), (1, .int z1)]) hx hb dX3_bestPort_83 rfl hl (by decide) rfl (fun ls hl => ?_)
            refine lv_iinc (v := (x4_9 + 1)) (lv' := [(4, .int (x4_9 + 1)), (3, .int (o_9.1 - 1)), (2, .int ((10 * x4_9) + o_2)), (6, .int o_9.1), (5, .int o_2), (0, .ref fo), (1, .int z1)]) hx hb dX3_bestPort_84 hl (k := 4) rfl (rfl) (by decide) rfl (fun ls hl => ?_)
            refine lv_goto (tgt := 9) hx hb dX3_bestPort_87 (by decide) ?_
            exact ih_9 ((10 * x4_9) + o_2) (o_9.1 - 1) (x4_9 + 1) (o_9.2) H locs ls hG hP hD hS (lv_sub hl [0, 1, 2, 5, 6] rfl)
  exact L_9 1000 (-1) 200 0 fa s.heap [] ls hG hP hD hS hl

def FL_X3_nextToRun_15 (fa : Nat → Int32) (fr : Nat → Int32) (dv : Int32) (fu : Nat → Int32) (fp : Nat → Int32) (z1 : Int32) : Nat → Int32 → Int32 → (Nat → Int32) → Option (Int32 × (Nat → Int32))
  | 0, _, _, _ => none
  | n + 1, x2_15, x3_15, fa_c => (if 200 ≤ x3_15 then some ((-1), fa_c) else ((F_X0_isOver fa_c dv fu fp).bind fun o_4 => (if o_4 = 0 then ((F_X0_isStill fa_c dv fu fp).bind fun o_7 => (if o_7 = 0 then ((F_X0_allThatAre fa_c dv fu fp 6).bind fun o_10 => ((F_X0_passTick fa_c dv fu fp).bind fun o_12 => ((F_X0_allThatAre (o_12) dv fu fp 6).bind fun o_14 => (if (o_14 &&& (o_10 ^^^ (-1))) = 0 then (if (o_14 &&& (o_10 ^^^ (-1))) = 0 then (FL_X3_nextToRun_15 fa fr dv fu fp z1 n (x2_15 + 0) (x3_15 + 1) (o_12)) else (FL_X3_nextToRun_15 fa fr dv fu fp z1 n (x2_15 + 1) (x3_15 + 1) (o_12))) else (if x2_15 = z1 then ((F_J6_numberOfTrailingZeros_0f7a4 (o_14 &&& (o_10 ^^^ (-1)))).bind fun o_20 => some (o_20, (o_12))) else (if (o_14 &&& (o_10 ^^^ (-1))) = 0 then (FL_X3_nextToRun_15 fa fr dv fu fp z1 n (x2_15 + 0) (x3_15 + 1) (o_12)) else (FL_X3_nextToRun_15 fa fr dv fu fp z1 n (x2_15 + 1) (x3_15 + 1) (o_12)))))))) else some ((-1), fa_c))) else some ((-1), fa_c))))

def F_X3_nextToRun (fa : Nat → Int32) (fr : Nat → Int32) (dv : Int32) (fu : Nat → Int32) (fp : Nat → Int32) (z1 : Int32) : Option (Int32 × (Nat → Int32)) := ((F_X0_copyFrom fa fr).bind fun o_1 => (FL_X3_nextToRun_15 fa fr dv fu fp z1 1000 0 0 (o_1)))
set_option maxHeartbeats 4000000 in
set_option maxRecDepth 100000 in
theorem c_X3_nextToRun (l : Launch) (dC : Nat → ClassId) (dI : Nat → Nat → Nat) (fo : Nat) (ga : Nat) (ra : Nat) (ca : ClassId) (fa : Nat → Int32) (g : Nat) (r0 : Nat) (h : Nat) (r1 : Nat) (r2 : Nat) (dv : Int32) (c0 : ClassId) (fr : Nat → Int32) (c1 : ClassId) (c2 : ClassId) (fu : Nat → Int32) (fp : Nat → Int32) (z1 : Int32) (A : Nat → Prop) (o : Int32 × (Nat → Int32)) (hG : F_X3_nextToRun fa fr dv fu fp z1 = some o) : Met l yX3_nextToRun (.code yX3_nextToRun cX3_nextToRun 6 (some .int) :: wA) ({ frames := 5, cells := 0, slots := 0, locals := 116 }) (va_Pc [.ref fo, .int z1] (q_W (dC, dI) A [(fo, .inr (3, [.ref g, .ref ga])), (ga, .inr (0, [.ref ra, .ref h])), (ra, .inl (ca, 98, .inl fa)), (g, .inr (0, [.ref r0, .ref h])), (r0, .inl (c0, 98, .inl fr)), (h, .inr (5, [.ref r1, .ref r2, .int dv])), (r1, .inl (c1, 8, .inl fu)), (r2, .inl (c2, 48, .inl fp))] [(ca, .int), (c0, .int), (c1, .int), (c2, .int)])) (va_Qi (fun (r : Int32) (_ : Unit) => r = o.1 ∧ True) (fun (_ : Unit) t => q_B (dC, dI) A [(fo, .inr (3, [.ref g, .ref ga])), (ga, .inr (0, [.ref ra, .ref h])), (ra, .inl (ca, 98, .inl (o.2))), (g, .inr (0, [.ref r0, .ref h])), (r0, .inl (c0, 98, .inl fr)), (h, .inr (5, [.ref r1, .ref r2, .int dv])), (r1, .inl (c1, 8, .inl fu)), (r2, .inl (c2, 48, .inl fp))] [(ca, .int), (c0, .int), (c1, .int), (c2, .int)] t) A) 0 0 A := by
  refine Met.ofW (cc := cX3_nextToRun) (maxL := 6) (ret := (some .int)) (by decide) rfl ?_
  intro p e s m args below meth c s₁ B hml hv
  obtain ⟨rfl, hP, hK, hD, hA⟩ := hv
  have hx := B.exec
  have hb := B.bytes
  have hr := B.returns
  have hts := atoms_spec (ws := .code yX3_nextToRun cX3_nextToRun 6 (some .int) :: wA) B.pre
  have hown : s.vm.findClass RX3 = some m.cls := findClass_of_methodNamed B.named
  have hlocks := B.notSynchronized
  have hS : va_S A s.heap s.heap [] := va_S.rf
  have hl := lv_entry ([.ref fo, .int z1]) (n := 6) (Nat.le_of_ble_eq_true rfl)
  rw [lg_entry_eq]
  generalize (lg_sl ([.ref fo, .int z1]) ++ List.replicate (6 - (lg_sl ([.ref fo, .int z1])).length) Slot.unset).toArray = ls at hl ⊢
  have hl : lv_has ls 6 [(0, .ref fo), (1, .int z1)] := hl
  unfold F_X3_nextToRun at hG
  refine lv_aload_n hx hb dX3_nextToRun_0 rfl (lv_at hl 0 rfl) ?_
  refine va_get (D := (dC, dI)) (ci := 3) (v := .ref ga) (C := RX3) (T := TX3) (N := 2) hx hb hts iA_3 hown hK hP 0 rfl rfl 1 (by decide) (hts (.fieldLink RX3 15 "HubTree$Foresight" "apart" "LHubTree$Bus;") (List.mem_cons_of_mem _ m_95)) (fun _ h9 => h9) rfl dX3_nextToRun_1 ?_
  refine lv_aload_n hx hb dX3_nextToRun_4 rfl (lv_at hl 0 rfl) ?_
  refine va_get (D := (dC, dI)) (ci := 3) (v := .ref g) (C := RX3) (T := TX3) (N := 2) hx hb hts iA_3 hown hK hP 0 rfl rfl 0 (by decide) (hts (.fieldLink RX3 9 "HubTree$Foresight" "now" "LHubTree$Bus;") (List.mem_cons_of_mem _ m_94)) (fun _ h9 => h9) rfl dX3_nextToRun_5 ?_
  obtain ⟨o_1, r_2, hG⟩ := q_bi hG
  refine q_gov2 (wr := [(fo, .inr (3, [.ref g, .ref ga])), (h, .inr (5, [.ref r1, .ref r2, .int dv])), (r1, .inl (c1, 8, .inl fu)), (r2, .inl (c2, 48, .inl fp))]) (va_runV (As := [.ref g]) (rest := []) ⟨hx, hb, hml, hown, hts⟩ (c_X0_copyFrom l dC dI ga ra h ca fa g r0 h c0 fr (va_A [(ga, .inr (0, [.ref ra, .ref h])), (ra, .inl (ca, 98, .inl fa)), (g, .inr (0, [.ref r0, .ref h])), (r0, .inl (c0, 98, .inl fr))] s.heap.size) o_1 r_2) (cwV 1 hts (q_gV m_1168 m_1169 m_1170 m_33 m_1171) rfl rfl rfl hdV_yX0_copyFrom_1 ⟨Nat.le_of_ble_eq_true rfl, Nat.le_of_ble_eq_true rfl⟩) (q_preWV hK hP hD (q := (RX0, TX0, 2)) (ci := 0) (q0 := 1) rfl rfl [1, 2, 3, 4] (by decide) rfl rfl [0, 1] rfl) rfl rfl hl.1 rfl (lv_room (Nat.le_of_ble_eq_true rfl)) dX3_nextToRun_8 ⟨Nat.le_of_ble_eq_true rfl, Nat.le_of_ble_eq_true rfl⟩) hK hP hD hS hA [1, 2, 3, 4] [0, 5, 6, 7] rfl rfl (by decide) (by decide) (fun _ H locs _ hP hD hK9 hS => ?_)
  have hP : va_P (dC, dI) vwCl [(fo, .inr (3, [.ref g, .ref ga])), (ga, .inr (0, [.ref ra, .ref h])), (ra, .inl (ca, 98, .inl (o_1))), (g, .inr (0, [.ref r0, .ref h])), (r0, .inl (c0, 98, .inl fr)), (h, .inr (5, [.ref r1, .ref r2, .int dv])), (r1, .inl (c1, 8, .inl fu)), (r2, .inl (c2, 48, .inl fp))] H := hP.sub [0, 4, 5, 6, 7, 1, 2, 3] rfl
  have hD : va_D A [(fo, .inr (3, [.ref g, .ref ga])), (ga, .inr (0, [.ref ra, .ref h])), (ra, .inl (ca, 98, .inl (o_1))), (g, .inr (0, [.ref r0, .ref h])), (r0, .inl (c0, 98, .inl fr)), (h, .inr (5, [.ref r1, .ref r2, .int dv])), (r1, .inl (c1, 8, .inl fu)), (r2, .inl (c2, 48, .inl fp))] := hD.sub [0, 4, 5, 6, 7, 1, 2, 3] (by decide) rfl
  refine lv_iconst (v := 0) hx hb dX3_nextToRun_11 (by decide) ?_
  refine lv_istore_n (lv' := [(2, .int 0), (0, .ref fo), (1, .int z1)]) hx hb dX3_nextToRun_12 rfl hl (by decide) rfl (fun ls hl => ?_)
  refine lv_iconst (v := 0) hx hb dX3_nextToRun_13 (by decide) ?_
  refine lv_istore_n (lv' := [(3, .int 0), (2, .int 0), (0, .ref fo), (1, .int z1)]) hx hb dX3_nextToRun_14 rfl hl (by decide) rfl (fun ls hl => ?_)
  have L_15 : ∀ (n_15 : Nat) (x2_15 : Int32) (x3_15 : Int32) (fa_c : Nat → Int32) (H : Heap) (locs : List Loc) (ls : Array Slot), FL_X3_nextToRun_15 fa fr dv fu fp z1 n_15 x2_15 x3_15 fa_c = some o → va_P (dC, dI) vwCl [(fo, .inr (3, [.ref g, .ref ga])), (ga, .inr (0, [.ref ra, .ref h])), (ra, .inl (ca, 98, .inl fa_c)), (g, .inr (0, [.ref r0, .ref h])), (r0, .inl (c0, 98, .inl fr)), (h, .inr (5, [.ref r1, .ref r2, .int dv])), (r1, .inl (c1, 8, .inl fu)), (r2, .inl (c2, 48, .inl fp))] H → va_D A [(fo, .inr (3, [.ref g, .ref ga])), (ga, .inr (0, [.ref ra, .ref h])), (ra, .inl (ca, 98, .inl fa_c)), (g, .inr (0, [.ref r0, .ref h])), (r0, .inl (c0, 98, .inl fr)), (h, .inr (5, [.ref r1, .ref r2, .int dv])), (r1, .inl (c1, 8, .inl fu)), (r2, .inl (c2, 48, .inl fp))] → va_S A s.heap H locs → lv_has ls 6 [(3, .int x3_15), (2, .int x2_15), (0, .ref fo), (1, .int z1)] → W p l e (headSpec (.code yX3_nextToRun cX3_nextToRun 6 (some .int) :: wA) ({ frames := 5, cells := 0, slots := 0, locals := 116 })).room s m #[.ref fo, .int z1] below meth c H locs 0 0 (MQ below (va_Qi (fun (r : Int32) (_ : Unit) => r = o.1 ∧ True) (fun (_ : Unit) t => q_B (dC, dI) A [(fo, .inr (3, [.ref g, .ref ga])), (ga, .inr (0, [.ref ra, .ref h])), (ra, .inl (ca, 98, .inl (o.2))), (g, .inr (0, [.ref r0, .ref h])), (r0, .inl (c0, 98, .inl fr)), (h, .inr (5, [.ref r1, .ref r2, .int dv])), (r1, .inl (c1, 8, .inl fu)), (r2, .inl (c2, 48, .inl fp))] [(ca, .int), (c0, .int), (c1, .int), (c2, .int)] t) A) #[.ref fo, .int z1] s 0 0 A) (F0 m 15 ls []) := by
    intro n_15
    induction n_15 with
    | zero =>
      intro x2_15 x3_15 fa_c H locs ls hG
      exact q_no hG
    | succ n_15 ih_15 =>
      intro x2_15 x3_15 fa_c H locs ls hG hP hD hS hl
      unfold FL_X3_nextToRun_15 at hG
      refine lv_iload_n hx hb dX3_nextToRun_15 rfl (lv_at hl 0 rfl) ?_
      refine lv_sipush (v := 200) hx hb dX3_nextToRun_16 (by decide) ?_
      refine lv_icmp_ge (tgt := 111) hx hb dX3_nextToRun_19 (by decide) (fun c_3 => ?_) (fun c_3 => ?_)
      · have hG := q_ifp c_3 hG
        refine lv_iconst (v := (-1)) hx hb dX3_nextToRun_111 (by decide) ?_
        obtain rfl := Option.some.inj hG
        have hP9 := hP.sub (ws' := [(fo, .inr (3, [.ref g, .ref ga])), (ga, .inr (0, [.ref ra, .ref h])), (ra, .inl (ca, 98, .inl fa_c)), (g, .inr (0, [.ref r0, .ref h])), (r0, .inl (c0, 98, .inl fr)), (h, .inr (5, [.ref r1, .ref r2, .int dv])), (r1, .inl (c1, 8, .inl fu)), (r2, .inl (c2, 48, .inl fp))]) [0, 1, 2, 3, 4, 5, 6, 7] rfl
        have hD9 := hD.sub (ws' := [(fo, .inr (3, [.ref g, .ref ga])), (ga, .inr (0, [.ref ra, .ref h])), (ra, .inl (ca, 98, .inl fa_c)), (g, .inr (0, [.ref r0, .ref h])), (r0, .inl (c0, 98, .inl fr)), (h, .inr (5, [.ref r1, .ref r2, .int dv])), (r1, .inl (c1, 8, .inl fu)), (r2, .inl (c2, 48, .inl fp))]) [0, 1, 2, 3, 4, 5, 6, 7] (by decide) rfl
        have hK9 := hK.sub (tys' := [(ca, .int), (c0, .int), (c1, .int), (c2, .int)]) [0, 1, 2, 3] rfl
        exact W.iret (v := (-1)) hx hb hr (fun t ht hW => ⟨⟨(-1), (), rfl, ⟨rfl, trivial⟩, by rw [ht]; exact hP9, va_K.moved hW.alike hK9, hD9⟩, hS.F ht⟩) hS.2.2 dX3_nextToRun_112
      · have hG := q_ifn c_3 hG
        refine lv_aload_n hx hb dX3_nextToRun_22 rfl (lv_at hl 2 rfl) ?_
        refine va_get (D := (dC, dI)) (ci := 3) (v := .ref ga) (C := RX3) (T := TX3) (N := 2) hx hb hts iA_3 hown hK hP 0 rfl rfl 1 (by decide) (hts (.fieldLink RX3 15 "HubTree$Foresight" "apart" "LHubTree$Bus;") (List.mem_cons_of_mem _ m_95)) (fun _ h9 => h9) rfl dX3_nextToRun_23 ?_
        obtain ⟨o_4, r_5, hG⟩ := q_bi hG
        refine q_goi (v := o_4) (va_runV (As := []) (rest := []) ⟨hx, hb, hml, hown, hts⟩ (c_X0_isOver l dC dI ga ra h r1 r2 dv ca fa_c c1 c2 fu fp o_4 r_5) (cwV 0 hts (q_gV m_1178 m_1179 m_1180 m_33 m_1181) rfl rfl rfl hdV_yX0_isOver_0 ⟨Nat.le_of_ble_eq_true rfl, Nat.le_of_ble_eq_true rfl⟩) (q_preV hK hP (q := (RX0, TX0, 2)) (ci := 0) (q0 := 1) rfl rfl [1, 2, 5, 6, 7] rfl [0, 2, 3] rfl) rfl rfl hl.1 rfl (lv_room (Nat.le_of_ble_eq_true rfl)) dX3_nextToRun_26 ⟨Nat.le_of_ble_eq_true rfl, Nat.le_of_ble_eq_true rfl⟩) hP hS (fun H locs hP hS => ?_)
        refine lv_if_ne (tgt := 111) hx hb dX3_nextToRun_29 (by decide) (fun c_6 => ?_) (fun c_6 => ?_)
        · have hG := q_ifn c_6 hG
          refine lv_iconst (v := (-1)) hx hb dX3_nextToRun_111 (by decide) ?_
          obtain rfl := Option.some.inj hG
          have hP9 := hP.sub (ws' := [(fo, .inr (3, [.ref g, .ref ga])), (ga, .inr (0, [.ref ra, .ref h])), (ra, .inl (ca, 98, .inl fa_c)), (g, .inr (0, [.ref r0, .ref h])), (r0, .inl (c0, 98, .inl fr)), (h, .inr (5, [.ref r1, .ref r2, .int dv])), (r1, .inl (c1, 8, .inl fu)), (r2, .inl (c2, 48, .inl fp))]) [0, 1, 2, 3, 4, 5, 6, 7] rfl
          have hD9 := hD.sub (ws' := [(fo, .inr (3, [.ref g, .ref ga])), (ga, .inr (0, [.ref ra, .ref h])), (ra, .inl (ca, 98, .inl fa_c)), (g, .inr (0, [.ref r0, .ref h])), (r0, .inl (c0, 98, .inl fr)), (h, .inr (5, [.ref r1, .ref r2, .int dv])), (r1, .inl (c1, 8, .inl fu)), (r2, .inl (c2, 48, .inl fp))]) [0, 1, 2, 3, 4, 5, 6, 7] (by decide) rfl
          have hK9 := hK.sub (tys' := [(ca, .int), (c0, .int), (c1, .int), (c2, .int)]) [0, 1, 2, 3] rfl
          exact W.iret (v := (-1)) hx hb hr (fun t ht hW => ⟨⟨(-1), (), rfl, ⟨rfl, trivial⟩, by rw [ht]; exact hP9, va_K.moved hW.alike hK9, hD9⟩, hS.F ht⟩) hS.2.2 dX3_nextToRun_112
        · have hG := q_ifp c_6 hG
          refine lv_aload_n hx hb dX3_nextToRun_32 rfl (lv_at hl 2 rfl) ?_
          refine va_get (D := (dC, dI)) (ci := 3) (v := .ref ga) (C := RX3) (T := TX3) (N := 2) hx hb hts iA_3 hown hK hP 0 rfl rfl 1 (by decide) (hts (.fieldLink RX3 15 "HubTree$Foresight" "apart" "LHubTree$Bus;") (List.mem_cons_of_mem _ m_95)) (fun _ h9 => h9) rfl dX3_nextToRun_33 ?_
          obtain ⟨o_7, r_8, hG⟩ := q_bi hG
          refine q_goi (v := o_7) (va_runV (As := []) (rest := []) ⟨hx, hb, hml, hown, hts⟩ (c_X0_isStill l dC dI ga ra h r1 r2 dv ca fa_c c1 c2 fu fp o_7 r_8) (cwV 0 hts (q_gV m_1182 m_1183 m_1184 m_33 m_1185) rfl rfl rfl hdV_yX0_isStill_0 ⟨Nat.le_of_ble_eq_true rfl, Nat.le_of_ble_eq_true rfl⟩) (q_preV hK hP (q := (RX0, TX0, 2)) (ci := 0) (q0 := 1) rfl rfl [1, 2, 5, 6, 7] rfl [0, 2, 3] rfl) rfl rfl hl.1 rfl (lv_room (Nat.le_of_ble_eq_true rfl)) dX3_nextToRun_36 ⟨Nat.le_of_ble_eq_true rfl, Nat.le_of_ble_eq_true rfl⟩) hP hS (fun H locs hP hS => ?_)
          refine lv_if_ne (tgt := 111) hx hb dX3_nextToRun_39 (by decide) (fun c_9 => ?_) (fun c_9 => ?_)
          · have hG := q_ifn c_9 hG
            refine lv_iconst (v := (-1)) hx hb dX3_nextToRun_111 (by decide) ?_
            obtain rfl := Option.some.inj hG
            have hP9 := hP.sub (ws' := [(fo, .inr (3, [.ref g, .ref ga])), (ga, .inr (0, [.ref ra, .ref h])), (ra, .inl (ca, 98, .inl fa_c)), (g, .inr (0, [.ref r0, .ref h])), (r0, .inl (c0, 98, .inl fr)), (h, .inr (5, [.ref r1, .ref r2, .int dv])), (r1, .inl (c1, 8, .inl fu)), (r2, .inl (c2, 48, .inl fp))]) [0, 1, 2, 3, 4, 5, 6, 7] rfl
            have hD9 := hD.sub (ws' := [(fo, .inr (3, [.ref g, .ref ga])), (ga, .inr (0, [.ref ra, .ref h])), (ra, .inl (ca, 98, .inl fa_c)), (g, .inr (0, [.ref r0, .ref h])), (r0, .inl (c0, 98, .inl fr)), (h, .inr (5, [.ref r1, .ref r2, .int dv])), (r1, .inl (c1, 8, .inl fu)), (r2, .inl (c2, 48, .inl fp))]) [0, 1, 2, 3, 4, 5, 6, 7] (by decide) rfl
            have hK9 := hK.sub (tys' := [(ca, .int), (c0, .int), (c1, .int), (c2, .int)]) [0, 1, 2, 3] rfl
            exact W.iret (v := (-1)) hx hb hr (fun t ht hW => ⟨⟨(-1), (), rfl, ⟨rfl, trivial⟩, by rw [ht]; exact hP9, va_K.moved hW.alike hK9, hD9⟩, hS.F ht⟩) hS.2.2 dX3_nextToRun_112
          · have hG := q_ifp c_9 hG
            refine lv_aload_n hx hb dX3_nextToRun_42 rfl (lv_at hl 2 rfl) ?_
            refine va_get (D := (dC, dI)) (ci := 3) (v := .ref ga) (C := RX3) (T := TX3) (N := 2) hx hb hts iA_3 hown hK hP 0 rfl rfl 1 (by decide) (hts (.fieldLink RX3 15 "HubTree$Foresight" "apart" "LHubTree$Bus;") (List.mem_cons_of_mem _ m_95)) (fun _ h9 => h9) rfl dX3_nextToRun_43 ?_
            refine lv_bipush (v := 6) hx hb dX3_nextToRun_46 (by decide) ?_
            obtain ⟨o_10, r_11, hG⟩ := q_bi hG
            refine q_goi (v := o_10) (va_runV (As := [.int 6]) (rest := []) ⟨hx, hb, hml, hown, hts⟩ (c_X0_allThatAre l dC dI ga ra h r1 r2 dv ca fa_c c1 c2 fu fp 6 o_10 r_11) (cwV 1 hts (q_gV m_1211 m_881 m_882 m_33 m_883) rfl rfl rfl hdV_yX0_allThatAre_1 ⟨Nat.le_of_ble_eq_true rfl, Nat.le_of_ble_eq_true rfl⟩) (q_preV hK hP (q := (RX0, TX0, 2)) (ci := 0) (q0 := 1) rfl rfl [1, 2, 5, 6, 7] rfl [0, 2, 3] rfl) rfl rfl hl.1 rfl (lv_room (Nat.le_of_ble_eq_true rfl)) dX3_nextToRun_48 ⟨Nat.le_of_ble_eq_true rfl, Nat.le_of_ble_eq_true rfl⟩) hP hS (fun H locs hP hS => ?_)
            refine lv_istore (lv' := [(4, .int o_10), (3, .int x3_15), (2, .int x2_15), (0, .ref fo), (1, .int z1)]) hx hb dX3_nextToRun_51 hl (by decide) rfl (fun ls hl => ?_)
            refine lv_aload_n hx hb dX3_nextToRun_53 rfl (lv_at hl 3 rfl) ?_
            refine va_get (D := (dC, dI)) (ci := 3) (v := .ref ga) (C := RX3) (T := TX3) (N := 2) hx hb hts iA_3 hown hK hP 0 rfl rfl 1 (by decide) (hts (.fieldLink RX3 15 "HubTree$Foresight" "apart" "LHubTree$Bus;") (List.mem_cons_of_mem _ m_95)) (fun _ h9 => h9) rfl dX3_nextToRun_54 ?_
            obtain ⟨o_12, r_13, hG⟩ := q_bi hG
            refine q_gov2 (wr := [(fo, .inr (3, [.ref g, .ref ga])), (g, .inr (0, [.ref r0, .ref h])), (r0, .inl (c0, 98, .inl fr))]) (va_runV (As := []) (rest := []) ⟨hx, hb, hml, hown, hts⟩ (c_X0_passTick l dC dI ga ra h r1 r2 dv ca fa_c c1 c2 fu fp (va_A [(ga, .inr (0, [.ref ra, .ref h])), (ra, .inl (ca, 98, .inl fa_c)), (h, .inr (5, [.ref r1, .ref r2, .int dv])), (r1, .inl (c1, 8, .inl fu)), (r2, .inl (c2, 48, .inl fp))] H.size) o_12 r_13) (cwV 0 hts (q_gV m_1186 m_809 m_810 m_33 m_811) rfl rfl rfl hdV_yX0_passTick_0 ⟨Nat.le_of_ble_eq_true rfl, Nat.le_of_ble_eq_true rfl⟩) (q_preWV hK hP hD (q := (RX0, TX0, 2)) (ci := 0) (q0 := 1) rfl rfl [1, 2, 5, 6, 7] (by decide) rfl rfl [0, 2, 3] rfl) rfl rfl hl.1 rfl (lv_room (Nat.le_of_ble_eq_true rfl)) dX3_nextToRun_57 ⟨Nat.le_of_ble_eq_true rfl, Nat.le_of_ble_eq_true rfl⟩) hK hP hD hS hA [1, 2, 5, 6, 7] [0, 3, 4] rfl rfl (by decide) (by decide) (fun _ H locs _ hP hD hK9 hS => ?_)
            have hP : va_P (dC, dI) vwCl [(fo, .inr (3, [.ref g, .ref ga])), (ga, .inr (0, [.ref ra, .ref h])), (ra, .inl (ca, 98, .inl (o_12))), (g, .inr (0, [.ref r0, .ref h])), (r0, .inl (c0, 98, .inl fr)), (h, .inr (5, [.ref r1, .ref r2, .int dv])), (r1, .inl (c1, 8, .inl fu)), (r2, .inl (c2, 48, .inl fp))] H := hP.sub [0, 3, 4, 1, 2, 5, 6, 7] rfl
            have hD : va_D A [(fo, .inr (3, [.ref g, .ref ga])), (ga, .inr (0, [.ref ra, .ref h])), (ra, .inl (ca, 98, .inl (o_12))), (g, .inr (0, [.ref r0, .ref h])), (r0, .inl (c0, 98, .inl fr)), (h, .inr (5, [.ref r1, .ref r2, .int dv])), (r1, .inl (c1, 8, .inl fu)), (r2, .inl (c2, 48, .inl fp))] := hD.sub [0, 3, 4, 1, 2, 5, 6, 7] (by decide) rfl
            refine lv_aload_n hx hb dX3_nextToRun_60 rfl (lv_at hl 3 rfl) ?_
            refine va_get (D := (dC, dI)) (ci := 3) (v := .ref ga) (C := RX3) (T := TX3) (N := 2) hx hb hts iA_3 hown hK hP 0 rfl rfl 1 (by decide) (hts (.fieldLink RX3 15 "HubTree$Foresight" "apart" "LHubTree$Bus;") (List.mem_cons_of_mem _ m_95)) (fun _ h9 => h9) rfl dX3_nextToRun_61 ?_
            refine lv_bipush (v := 6) hx hb dX3_nextToRun_64 (by decide) ?_
            obtain ⟨o_14, r_15, hG⟩ := q_bi hG
            refine q_goi (v := o_14) (va_runV (As := [.int 6]) (rest := []) ⟨hx, hb, hml, hown, hts⟩ (c_X0_allThatAre l dC dI ga ra h r1 r2 dv ca (o_12) c1 c2 fu fp 6 o_14 r_15) (cwV 1 hts (q_gV m_1211 m_881 m_882 m_33 m_883) rfl rfl rfl hdV_yX0_allThatAre_1 ⟨Nat.le_of_ble_eq_true rfl, Nat.le_of_ble_eq_true rfl⟩) (q_preV hK hP (q := (RX0, TX0, 2)) (ci := 0) (q0 := 1) rfl rfl [1, 2, 5, 6, 7] rfl [0, 2, 3] rfl) rfl rfl hl.1 rfl (lv_room (Nat.le_of_ble_eq_true rfl)) dX3_nextToRun_66 ⟨Nat.le_of_ble_eq_true rfl, Nat.le_of_ble_eq_true rfl⟩) hP hS (fun H locs hP hS => ?_)
            refine lv_iload hx hb dX3_nextToRun_69 (lv_at hl 0 rfl) ?_
            refine lv_iconst (v := (-1)) hx hb dX3_nextToRun_71 (by decide) ?_
            refine lv_ixor hx hb dX3_nextToRun_72 ?_
            refine lv_iand hx hb dX3_nextToRun_73 ?_
            refine lv_istore (lv' := [(5, .int (o_14 &&& (o_10 ^^^ (-1)))), (4, .int o_10), (3, .int x3_15), (2, .int x2_15), (0, .ref fo), (1, .int z1)]) hx hb dX3_nextToRun_74 hl (by decide) rfl (fun ls hl => ?_)
            refine lv_iload hx hb dX3_nextToRun_76 (lv_at hl 0 rfl) ?_
            refine lv_if_eq (tgt := 92) hx hb dX3_nextToRun_78 (by decide) (fun c_16 => ?_) (fun c_16 => ?_)
            · have hG := q_ifp c_16 hG
              refine lv_iload_n hx hb dX3_nextToRun_92 rfl (lv_at hl 3 rfl) ?_
              refine lv_iload hx hb dX3_nextToRun_93 (lv_at hl 0 rfl) ?_
              refine lv_if_eq (tgt := 102) hx hb dX3_nextToRun_95 (by decide) (fun c_17 => ?_) (fun c_17 => ?_)
              · have hG := q_ifp c_17 hG
                refine lv_iconst (v := 0) hx hb dX3_nextToRun_102 (by decide) ?_
                refine lv_iadd hx hb dX3_nextToRun_103 ?_
                refine lv_istore_n (lv' := [(2, .int (x2_15 + 0)), (5, .int (o_14 &&& (o_10 ^^^ (-1)))), (4, .int o_10), (3, .int x3_15), (0, .ref fo), (1, .int z1)]) hx hb dX3_nextToRun_104 rfl hl (by decide) rfl (fun ls hl => ?_)
                refine lv_iinc (v := (x3_15 + 1)) (lv' := [(3, .int (x3_15 + 1)), (2, .int (x2_15 + 0)), (5, .int (o_14 &&& (o_10 ^^^ (-1)))), (4, .int o_10), (0, .ref fo), (1, .int z1)]) hx hb dX3_nextToRun_105 hl (k := 3) rfl (rfl) (by decide) rfl (fun ls hl => ?_)
                refine lv_goto (tgt := 15) hx hb dX3_nextToRun_108 (by decide) ?_
                exact ih_15 (x2_15 + 0) (x3_15 + 1) (o_12) H locs ls hG hP hD hS (lv_sub hl [0, 1, 4, 5] rfl)
              · have hG := q_ifn c_17 hG
                refine lv_iconst (v := 1) hx hb dX3_nextToRun_98 (by decide) ?_
                refine lv_goto (tgt := 103) hx hb dX3_nextToRun_99 (by decide) ?_
                refine lv_iadd hx hb dX3_nextToRun_103 ?_
                refine lv_istore_n (lv' := [(2, .int (x2_15 + 1)), (5, .int (o_14 &&& (o_10 ^^^ (-1)))), (4, .int o_10), (3, .int x3_15), (0, .ref fo), (1, .int z1)]) hx hb dX3_nextToRun_104 rfl hl (by decide) rfl (fun ls hl => ?_)
                refine lv_iinc (v := (x3_15 + 1)) (lv' := [(3, .int (x3_15 + 1)), (2, .int (x2_15 + 1)), (5, .int (o_14 &&& (o_10 ^^^ (-1)))), (4, .int o_10), (0, .ref fo), (1, .int z1)]) hx hb dX3_nextToRun_105 hl (k := 3) rfl (rfl) (by decide) rfl (fun ls hl => ?_)
                refine lv_goto (tgt := 15) hx hb dX3_nextToRun_108 (by decide) ?_
                exact ih_15 (x2_15 + 1) (x3_15 + 1) (o_12) H locs ls hG hP hD hS (lv_sub hl [0, 1, 4, 5] rfl)
            · have hG := q_ifn c_16 hG
              refine lv_iload_n hx hb dX3_nextToRun_81 rfl (lv_at hl 3 rfl) ?_
              refine lv_iload_n hx hb dX3_nextToRun_82 rfl (lv_at hl 5 rfl) ?_
              refine lv_icmp_ne (tgt := 92) hx hb dX3_nextToRun_83 (by decide) (fun c_18 => ?_) (fun c_18 => ?_)
              · have hG := q_ifn c_18 hG
                refine lv_iload_n hx hb dX3_nextToRun_92 rfl (lv_at hl 3 rfl) ?_
                refine lv_iload hx hb dX3_nextToRun_93 (lv_at hl 0 rfl) ?_
                refine lv_if_eq (tgt := 102) hx hb dX3_nextToRun_95 (by decide) (fun c_19 => ?_) (fun c_19 => ?_)
                · have hG := q_ifp c_19 hG
                  refine lv_iconst (v := 0) hx hb dX3_nextToRun_102 (by decide) ?_
                  refine lv_iadd hx hb dX3_nextToRun_103 ?_
                  refine lv_istore_n (lv' := [(2, .int (x2_15 + 0)), (5, .int (o_14 &&& (o_10 ^^^ (-1)))), (4, .int o_10), (3, .int x3_15), (0, .ref fo), (1, .int z1)]) hx hb dX3_nextToRun_104 rfl hl (by decide) rfl (fun ls hl => ?_)
                  refine lv_iinc (v := (x3_15 + 1)) (lv' := [(3, .int (x3_15 + 1)), (2, .int (x2_15 + 0)), (5, .int (o_14 &&& (o_10 ^^^ (-1)))), (4, .int o_10), (0, .ref fo), (1, .int z1)]) hx hb dX3_nextToRun_105 hl (k := 3) rfl (rfl) (by decide) rfl (fun ls hl => ?_)
                  refine lv_goto (tgt := 15) hx hb dX3_nextToRun_108 (by decide) ?_
                  exact ih_15 (x2_15 + 0) (x3_15 + 1) (o_12) H locs ls hG hP hD hS (lv_sub hl [0, 1, 4, 5] rfl)
                · have hG := q_ifn c_19 hG
                  refine lv_iconst (v := 1) hx hb dX3_nextToRun_98 (by decide) ?_
                  refine lv_goto (tgt := 103) hx hb dX3_nextToRun_99 (by decide) ?_
                  refine lv_iadd hx hb dX3_nextToRun_103 ?_
                  refine lv_istore_n (lv' := [(2, .int (x2_15 + 1)), (5, .int (o_14 &&& (o_10 ^^^ (-1)))), (4, .int o_10), (3, .int x3_15), (0, .ref fo), (1, .int z1)]) hx hb dX3_nextToRun_104 rfl hl (by decide) rfl (fun ls hl => ?_)
                  refine lv_iinc (v := (x3_15 + 1)) (lv' := [(3, .int (x3_15 + 1)), (2, .int (x2_15 + 1)), (5, .int (o_14 &&& (o_10 ^^^ (-1)))), (4, .int o_10), (0, .ref fo), (1, .int z1)]) hx hb dX3_nextToRun_105 hl (k := 3) rfl (rfl) (by decide) rfl (fun ls hl => ?_)
                  refine lv_goto (tgt := 15) hx hb dX3_nextToRun_108 (by decide) ?_
                  exact ih_15 (x2_15 + 1) (x3_15 + 1) (o_12) H locs ls hG hP hD hS (lv_sub hl [0, 1, 4, 5] rfl)
              · have hG := q_ifp c_18 hG
                refine lv_iload hx hb dX3_nextToRun_86 (lv_at hl 0 rfl) ?_
                obtain ⟨o_20, r_21, hG⟩ := q_bi hG
                refine q_goi (v := o_20) (va_runS (As := [.int (o_14 &&& (o_10 ^^^ (-1)))]) (rest := []) ⟨hx, hb, hml, hown, hts⟩ (c_J6_numberOfTrailingZeros_0f7a4 l dC dI (o_14 &&& (o_10 ^^^ (-1))) o_20 r_21) (va_cwS 1 hts (q_gS m_1262 m_1263 m_611 m_1264) rfl rfl rfl hdS_yJ6_numberOfTrailingZeros_0f7a4_1 ⟨Nat.le_of_ble_eq_true rfl, Nat.le_of_ble_eq_true rfl⟩) (q_preS hK hP [] rfl [] rfl) rfl rfl hl.1 rfl (lv_room (Nat.le_of_ble_eq_true rfl)) dX3_nextToRun_88 ⟨Nat.le_of_ble_eq_true rfl, Nat.le_of_ble_eq_true rfl⟩) hP hS (fun H locs hP hS => ?_)
                obtain rfl := Option.some.inj hG
                have hP9 := hP.sub (ws' := [(fo, .inr (3, [.ref g, .ref ga])), (ga, .inr (0, [.ref ra, .ref h])), (ra, .inl (ca, 98, .inl (o_12))), (g, .inr (0, [.ref r0, .ref h])), (r0, .inl (c0, 98, .inl fr)), (h, .inr (5, [.ref r1, .ref r2, .int dv])), (r1, .inl (c1, 8, .inl fu)), (r2, .inl (c2, 48, .inl fp))]) [0, 1, 2, 3, 4, 5, 6, 7] rfl
                have hD9 := hD.sub (ws' := [(fo, .inr (3, [.ref g, .ref ga])), (ga, .inr (0, [.ref ra, .ref h])), (ra, .inl (ca, 98, .inl (o_12))), (g, .inr (0, [.ref r0, .ref h])), (r0, .inl (c0, 98, .inl fr)), (h, .inr (5, [.ref r1, .ref r2, .int dv])), (r1, .inl (c1, 8, .inl fu)), (r2, .inl (c2, 48, .inl fp))]) [0, 1, 2, 3, 4, 5, 6, 7] (by decide) rfl
                have hK9 := hK.sub (tys' := [(ca, .int), (c0, .int), (c1, .int), (c2, .int)]) [0, 1, 2, 3] rfl
                exact W.iret (v := o_20) hx hb hr (fun t ht hW => ⟨⟨o_20, (), rfl, ⟨rfl, trivial⟩, by rw [ht]; exact hP9, va_K.moved hW.alike hK9, hD9⟩, hS.F ht⟩) hS.2.2 dX3_nextToRun_91
  exact L_15 1000 0 0 (o_1) H locs ls hG hP hD hS hl

def F_X3_lostWithout (fa : Nat → Int32) (fr : Nat → Int32) (dv : Int32) (fu : Nat → Int32) (fp : Nat → Int32) (z1 : Int32) : Option (Int32 × (Nat → Int32)) := ((F_X0_copyFrom fa fr).bind fun o_1 => ((F_X0_switchSupply (o_1) dv fu fp z1).bind fun o_3 => ((F_X0_allThatAre fr dv fu fp 6).bind fun o_5 => ((F_X0_allThatAre (o_3) dv fu fp 6).bind fun o_7 => some ((o_5 &&& (o_7 ^^^ (-1))), (o_3))))))
set_option maxHeartbeats 4000000 in
set_option maxRecDepth 100000 in
theorem c_X3_lostWithout (l : Launch) (dC : Nat → ClassId) (dI : Nat → Nat → Nat) (fo : Nat) (ga : Nat) (ra : Nat) (ca : ClassId) (fa : Nat → Int32) (g : Nat) (r0 : Nat) (h : Nat) (r1 : Nat) (r2 : Nat) (dv : Int32) (c0 : ClassId) (fr : Nat → Int32) (c1 : ClassId) (c2 : ClassId) (fu : Nat → Int32) (fp : Nat → Int32) (z1 : Int32) (A : Nat → Prop) (o : Int32 × (Nat → Int32)) (hG : F_X3_lostWithout fa fr dv fu fp z1 = some o) : Met l yX3_lostWithout (.code yX3_lostWithout cX3_lostWithout 2 (some .int) :: wA) ({ frames := 5, cells := 0, slots := 0, locals := 110 }) (va_Pc [.ref fo, .int z1] (q_W (dC, dI) A [(fo, .inr (3, [.ref g, .ref ga])), (ga, .inr (0, [.ref ra, .ref h])), (ra, .inl (ca, 98, .inl fa)), (g, .inr (0, [.ref r0, .ref h])), (r0, .inl (c0, 98, .inl fr)), (h, .inr (5, [.ref r1, .ref r2, .int dv])), (r1, .inl (c1, 8, .inl fu)), (r2, .inl (c2, 48, .inl fp))] [(ca, .int), (c0, .int), (c1, .int), (c2, .int)])) (va_Qi (fun (r : Int32) (_ : Unit) => r = o.1 ∧ True) (fun (_ : Unit) t => q_B (dC, dI) A [(fo, .inr (3, [.ref g, .ref ga])), (ga, .inr (0, [.ref ra, .ref h])), (ra, .inl (ca, 98, .inl (o.2))), (g, .inr (0, [.ref r0, .ref h])), (r0, .inl (c0, 98, .inl fr)), (h, .inr (5, [.ref r1, .ref r2, .int dv])), (r1, .inl (c1, 8, .inl fu)), (r2, .inl (c2, 48, .inl fp))] [(ca, .int), (c0, .int), (c1, .int), (c2, .int)] t) A) 0 0 A := by
  refine Met.ofW (cc := cX3_lostWithout) (maxL := 2) (ret := (some .int)) (by decide) rfl ?_
  intro p e s m args below meth c s₁ B hml hv
  obtain ⟨rfl, hP, hK, hD, hA⟩ := hv
  have hx := B.exec
  have hb := B.bytes
  have hr := B.returns
  have hts := atoms_spec (ws := .code yX3_lostWithout cX3_lostWithout 2 (some .int) :: wA) B.pre
  have hown : s.vm.findClass RX3 = some m.cls := findClass_of_methodNamed B.named
  have hlocks := B.notSynchronized
  have hS : va_S A s.heap s.heap [] := va_S.rf
  have hl := lv_entry ([.ref fo, .int z1]) (n := 2) (Nat.le_of_ble_eq_true rfl)
  rw [lg_entry_eq]
  generalize (lg_sl ([.ref fo, .int z1]) ++ List.replicate (2 - (lg_sl ([.ref fo, .int z1])).length) Slot.unset).toArray = ls at hl ⊢
  have hl : lv_has ls 2 [(0, .ref fo), (1, .int z1)] := hl
  unfold F_X3_lostWithout at hG
  refine lv_aload_n hx hb dX3_lostWithout_0 rfl (lv_at hl 0 rfl) ?_
  refine va_get (D := (dC, dI)) (ci := 3) (v := .ref ga) (C := RX3) (T := TX3) (N := 2) hx hb hts iA_3 hown hK hP 0 rfl rfl 1 (by decide) (hts (.fieldLink RX3 15 "HubTree$Foresight" "apart" "LHubTree$Bus;") (List.mem_cons_of_mem _ m_95)) (fun _ h9 => h9) rfl dX3_lostWithout_1 ?_
  refine lv_aload_n hx hb dX3_lostWithout_4 rfl (lv_at hl 0 rfl) ?_
  refine va_get (D := (dC, dI)) (ci := 3) (v := .ref g) (C := RX3) (T := TX3) (N := 2) hx hb hts iA_3 hown hK hP 0 rfl rfl 0 (by decide) (hts (.fieldLink RX3 9 "HubTree$Foresight" "now" "LHubTree$Bus;") (List.mem_cons_of_mem _ m_94)) (fun _ h9 => h9) rfl dX3_lostWithout_5 ?_
  obtain ⟨o_1, r_2, hG⟩ := q_bi hG
  refine q_gov2 (wr := [(fo, .inr (3, [.ref g, .ref ga])), (h, .inr (5, [.ref r1, .ref r2, .int dv])), (r1, .inl (c1, 8, .inl fu)), (r2, .inl (c2, 48, .inl fp))]) (va_runV (As := [.ref g]) (rest := []) ⟨hx, hb, hml, hown, hts⟩ (c_X0_copyFrom l dC dI ga ra h ca fa g r0 h c0 fr (va_A [(ga, .inr (0, [.ref ra, .ref h])), (ra, .inl (ca, 98, .inl fa)), (g, .inr (0, [.ref r0, .ref h])), (r0, .inl (c0, 98, .inl fr))] s.heap.size) o_1 r_2) (cwV 1 hts (q_gV m_1168 m_1169 m_1170 m_33 m_1171) rfl rfl rfl hdV_yX0_copyFrom_1 ⟨Nat.le_of_ble_eq_true rfl, Nat.le_of_ble_eq_true rfl⟩) (q_preWV hK hP hD (q := (RX0, TX0, 2)) (ci := 0) (q0 := 1) rfl rfl [1, 2, 3, 4] (by decide) rfl rfl [0, 1] rfl) rfl rfl hl.1 rfl (lv_room (Nat.le_of_ble_eq_true rfl)) dX3_lostWithout_8 ⟨Nat.le_of_ble_eq_true rfl, Nat.le_of_ble_eq_true rfl⟩) hK hP hD hS hA [1, 2, 3, 4] [0, 5, 6, 7] rfl rfl (by decide) (by decide) (fun _ H locs _ hP hD hK9 hS => ?_)
  have hP : va_P (dC, dI) vwCl [(fo, .inr (3, [.ref g, .ref ga])), (ga, .inr (0, [.ref ra, .ref h])), (ra, .inl (ca, 98, .inl (o_1))), (g, .inr (0, [.ref r0, .ref h])), (r0, .inl (c0, 98, .inl fr)), (h, .inr (5, [.ref r1, .ref r2, .int dv])), (r1, .inl (c1, 8, .inl fu)), (r2, .inl (c2, 48, .inl fp))] H := hP.sub [0, 4, 5, 6, 7, 1, 2, 3] rfl
  have hD : va_D A [(fo, .inr (3, [.ref g, .ref ga])), (ga, .inr (0, [.ref ra, .ref h])), (ra, .inl (ca, 98, .inl (o_1))), (g, .inr (0, [.ref r0, .ref h])), (r0, .inl (c0, 98, .inl fr)), (h, .inr (5, [.ref r1, .ref r2, .int dv])), (r1, .inl (c1, 8, .inl fu)), (r2, .inl (c2, 48, .inl fp))] := hD.sub [0, 4, 5, 6, 7, 1, 2, 3] (by decide) rfl
  refine lv_aload_n hx hb dX3_lostWithout_11 rfl (lv_at hl 0 rfl) ?_
  refine va_get (D := (dC, dI)) (ci := 3) (v := .ref ga) (C := RX3) (T := TX3) (N := 2) hx hb hts iA_3 hown hK hP 0 rfl rfl 1 (by decide) (hts (.fieldLink RX3 15 "HubTree$Foresight" "apart" "LHubTree$Bus;") (List.mem_cons_of_mem _ m_95)) (fun _ h9 => h9) rfl dX3_lostWithout_12 ?_
  refine lv_iload_n hx hb dX3_lostWithout_15 rfl (lv_at hl 1 rfl) ?_
  obtain ⟨o_3, r_4, hG⟩ := q_bi hG
  refine q_gov2 (wr := [(fo, .inr (3, [.ref g, .ref ga])), (g, .inr (0, [.ref r0, .ref h])), (r0, .inl (c0, 98, .inl fr))]) (va_runV (As := [.int z1]) (rest := []) ⟨hx, hb, hml, hown, hts⟩ (c_X0_switchSupply l dC dI ga ra h r1 r2 dv ca (o_1) c1 c2 fu fp z1 (va_A [(ga, .inr (0, [.ref ra, .ref h])), (ra, .inl (ca, 98, .inl (o_1))), (h, .inr (5, [.ref r1, .ref r2, .int dv])), (r1, .inl (c1, 8, .inl fu)), (r2, .inl (c2, 48, .inl fp))] H.size) o_3 r_4) (cwV 1 hts (q_gV m_1278 m_861 m_862 m_33 m_863) rfl rfl rfl hdV_yX0_switchSupply_1 ⟨Nat.le_of_ble_eq_true rfl, Nat.le_of_ble_eq_true rfl⟩) (q_preWV hK hP hD (q := (RX0, TX0, 2)) (ci := 0) (q0 := 1) rfl rfl [1, 2, 5, 6, 7] (by decide) rfl rfl [0, 2, 3] rfl) rfl rfl hl.1 rfl (lv_room (Nat.le_of_ble_eq_true rfl)) dX3_lostWithout_16 ⟨Nat.le_of_ble_eq_true rfl, Nat.le_of_ble_eq_true rfl⟩) hK hP hD hS hA [1, 2, 5, 6, 7] [0, 3, 4] rfl rfl (by decide) (by decide) (fun _ H locs _ hP hD hK9 hS => ?_)
  have hP : va_P (dC, dI) vwCl [(fo, .inr (3, [.ref g, .ref ga])), (ga, .inr (0, [.ref ra, .ref h])), (ra, .inl (ca, 98, .inl (o_3))), (g, .inr (0, [.ref r0, .ref h])), (r0, .inl (c0, 98, .inl fr)), (h, .inr (5, [.ref r1, .ref r2, .int dv])), (r1, .inl (c1, 8, .inl fu)), (r2, .inl (c2, 48, .inl fp))] H := hP.sub [0, 3, 4, 1, 2, 5, 6, 7] rfl
  have hD : va_D A [(fo, .inr (3, [.ref g, .ref ga])), (ga, .inr (0, [.ref ra, .ref h])), (ra, .inl (ca, 98, .inl (o_3))), (g, .inr (0, [.ref r0, .ref h])), (r0, .inl (c0, 98, .inl fr)), (h, .inr (5, [.ref r1, .ref r2, .int dv])), (r1, .inl (c1, 8, .inl fu)), (r2, .inl (c2, 48, .inl fp))] := hD.sub [0, 3, 4, 1, 2, 5, 6, 7] (by decide) rfl
  refine lv_aload_n hx hb dX3_lostWithout_19 rfl (lv_at hl 0 rfl) ?_
  refine va_get (D := (dC, dI)) (ci := 3) (v := .ref g) (C := RX3) (T := TX3) (N := 2) hx hb hts iA_3 hown hK hP 0 rfl rfl 0 (by decide) (hts (.fieldLink RX3 9 "HubTree$Foresight" "now" "LHubTree$Bus;") (List.mem_cons_of_mem _ m_94)) (fun _ h9 => h9) rfl dX3_lostWithout_20 ?_
  refine lv_bipush (v := 6) hx hb dX3_lostWithout_23 (by decide) ?_
  obtain ⟨o_5, r_6, hG⟩ := q_bi hG
  refine q_goi (v := o_5) (va_runV (As := [.int 6]) (rest := []) ⟨hx, hb, hml, hown, hts⟩ (c_X0_allThatAre l dC dI g r0 h r1 r2 dv c0 fr c1 c2 fu fp 6 o_5 r_6) (cwV 1 hts (q_gV m_1211 m_881 m_882 m_33 m_883) rfl rfl rfl hdV_yX0_allThatAre_1 ⟨Nat.le_of_ble_eq_true rfl, Nat.le_of_ble_eq_true rfl⟩) (q_preV hK hP (q := (RX0, TX0, 2)) (ci := 0) (q0 := 3) rfl rfl [3, 4, 5, 6, 7] rfl [1, 2, 3] rfl) rfl rfl hl.1 rfl (lv_room (Nat.le_of_ble_eq_true rfl)) dX3_lostWithout_25 ⟨Nat.le_of_ble_eq_true rfl, Nat.le_of_ble_eq_true rfl⟩) hP hS (fun H locs hP hS => ?_)
  refine lv_aload_n hx hb dX3_lostWithout_28 rfl (lv_at hl 0 rfl) ?_
  refine va_get (D := (dC, dI)) (ci := 3) (v := .ref ga) (C := RX3) (T := TX3) (N := 2) hx hb hts iA_3 hown hK hP 0 rfl rfl 1 (by decide) (hts (.fieldLink RX3 15 "HubTree$Foresight" "apart" "LHubTree$Bus;") (List.mem_cons_of_mem _ m_95)) (fun _ h9 => h9) rfl dX3_lostWithout_29 ?_
  refine lv_bipush (v := 6) hx hb dX3_lostWithout_32 (by decide) ?_
  obtain ⟨o_7, r_8, hG⟩ := q_bi hG
  refine q_goi (v := o_7) (va_runV (As := [.int 6]) (rest := [.int o_5]) ⟨hx, hb, hml, hown, hts⟩ (c_X0_allThatAre l dC dI ga ra h r1 r2 dv ca (o_3) c1 c2 fu fp 6 o_7 r_8) (cwV 1 hts (q_gV m_1211 m_881 m_882 m_33 m_883) rfl rfl rfl hdV_yX0_allThatAre_1 ⟨Nat.le_of_ble_eq_true rfl, Nat.le_of_ble_eq_true rfl⟩) (q_preV hK hP (q := (RX0, TX0, 2)) (ci := 0) (q0 := 1) rfl rfl [1, 2, 5, 6, 7] rfl [0, 2, 3] rfl) rfl rfl hl.1 rfl (lv_room (Nat.le_of_ble_eq_true rfl)) dX3_lostWithout_34 ⟨Nat.le_of_ble_eq_true rfl, Nat.le_of_ble_eq_true rfl⟩) hP hS (fun H locs hP hS => ?_)
  refine lv_iconst (v := (-1)) hx hb dX3_lostWithout_37 (by decide) ?_
  refine lv_ixor hx hb dX3_lostWithout_38 ?_
  refine lv_iand hx hb dX3_lostWithout_39 ?_
  obtain rfl := Option.some.inj hG
  have hP9 := hP.sub (ws' := [(fo, .inr (3, [.ref g, .ref ga])), (ga, .inr (0, [.ref ra, .ref h])), (ra, .inl (ca, 98, .inl (o_3))), (g, .inr (0, [.ref r0, .ref h])), (r0, .inl (c0, 98, .inl fr)), (h, .inr (5, [.ref r1, .ref r2, .int dv])), (r1, .inl (c1, 8, .inl fu)), (r2, .inl (c2, 48, .inl fp))]) [0, 1, 2, 3, 4, 5, 6, 7] rfl
  have hD9 := hD.sub (ws' := [(fo, .inr (3, [.ref g, .ref ga])), (ga, .inr (0, [.ref ra, .ref h])), (ra, .inl (ca, 98, .inl (o_3))), (g, .inr (0, [.ref r0, .ref h])), (r0, .inl (c0, 98, .inl fr)), (h, .inr (5, [.ref r1, .ref r2, .int dv])), (r1, .inl (c1, 8, .inl fu)), (r2, .inl (c2, 48, .inl fp))]) [0, 1, 2, 3, 4, 5, 6, 7] (by decide) rfl
  have hK9 := hK.sub (tys' := [(ca, .int), (c0, .int), (c1, .int), (c2, .int)]) [0, 1, 2, 3] rfl
  exact W.iret (v := (o_5 &&& (o_7 ^^^ (-1)))) hx hb hr (fun t ht hW => ⟨⟨(o_5 &&& (o_7 ^^^ (-1))), (), rfl, ⟨rfl, trivial⟩, by rw [ht]; exact hP9, va_K.moved hW.alike hK9, hD9⟩, hS.F ht⟩) hS.2.2 dX3_lostWithout_40
