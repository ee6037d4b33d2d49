theorem dX10_byteOf_0 : decode cX10_byteOf 0 = .ok (.iload 5, 2) := by decide +kernel
theorem dX10_byteOf_2 : decode cX10_byteOf 2 = .ok (.iconst 4, 1) := by decide +kernel
theorem dX10_byteOf_3 : decode cX10_byteOf 3 = .ok (.if_icmp .ge 7, 3) := by decide +kernel
theorem dX10_byteOf_6 : decode cX10_byteOf 6 = .ok (.iload_n 0, 1) := by decide +kernel
theorem dX10_byteOf_7 : decode cX10_byteOf 7 = .ok (.goto 38, 3) := by decide +kernel
theorem dX10_byteOf_10 : decode cX10_byteOf 10 = .ok (.iload 5, 2) := by decide +kernel
theorem dX10_byteOf_12 : decode cX10_byteOf 12 = .ok (.bipush 8, 2) := by decide +kernel
theorem dX10_byteOf_14 : decode cX10_byteOf 14 = .ok (.if_icmp .ge 7, 3) := by decide +kernel
theorem dX10_byteOf_17 : decode cX10_byteOf 17 = .ok (.iload_n 1, 1) := by decide +kernel
theorem dX10_byteOf_18 : decode cX10_byteOf 18 = .ok (.goto 27, 3) := by decide +kernel
theorem dX10_byteOf_21 : decode cX10_byteOf 21 = .ok (.iload 5, 2) := by decide +kernel
theorem dX10_byteOf_23 : decode cX10_byteOf 23 = .ok (.bipush 12, 2) := by decide +kernel
theorem dX10_byteOf_25 : decode cX10_byteOf 25 = .ok (.if_icmp .ge 7, 3) := by decide +kernel
theorem dX10_byteOf_28 : decode cX10_byteOf 28 = .ok (.iload_n 2, 1) := by decide +kernel
theorem dX10_byteOf_29 : decode cX10_byteOf 29 = .ok (.goto 16, 3) := by decide +kernel
theorem dX10_byteOf_32 : decode cX10_byteOf 32 = .ok (.iload 5, 2) := by decide +kernel
theorem dX10_byteOf_34 : decode cX10_byteOf 34 = .ok (.bipush 16, 2) := by decide +kernel
theorem dX10_byteOf_36 : decode cX10_byteOf 36 = .ok (.if_icmp .ge 7, 3) := by decide +kernel
theorem dX10_byteOf_39 : decode cX10_byteOf 39 = .ok (.iload_n 3, 1) := by decide +kernel
theorem dX10_byteOf_40 : decode cX10_byteOf 40 = .ok (.goto 5, 3) := by decide +kernel
theorem dX10_byteOf_43 : decode cX10_byteOf 43 = .ok (.iload 4, 2) := by decide +kernel
theorem dX10_byteOf_45 : decode cX10_byteOf 45 = .ok (.istore 6, 2) := by decide +kernel
theorem dX10_byteOf_47 : decode cX10_byteOf 47 = .ok (.iload 6, 2) := by decide +kernel
theorem dX10_byteOf_49 : decode cX10_byteOf 49 = .ok (.bipush 24, 2) := by decide +kernel
theorem dX10_byteOf_51 : decode cX10_byteOf 51 = .ok (.bipush 8, 2) := by decide +kernel
theorem dX10_byteOf_53 : decode cX10_byteOf 53 = .ok (.iload 5, 2) := by decide +kernel
theorem dX10_byteOf_55 : decode cX10_byteOf 55 = .ok (.iconst 4, 1) := by decide +kernel
theorem dX10_byteOf_56 : decode cX10_byteOf 56 = .ok (.irem, 1) := by decide +kernel
theorem dX10_byteOf_57 : decode cX10_byteOf 57 = .ok (.imul, 1) := by decide +kernel
theorem dX10_byteOf_58 : decode cX10_byteOf 58 = .ok (.isub, 1) := by decide +kernel
theorem dX10_byteOf_59 : decode cX10_byteOf 59 = .ok (.ishr, 1) := by decide +kernel
theorem dX10_byteOf_60 : decode cX10_byteOf 60 = .ok (.sipush 255, 3) := by decide +kernel
theorem dX10_byteOf_63 : decode cX10_byteOf 63 = .ok (.iand, 1) := by decide +kernel
theorem dX10_byteOf_64 : decode cX10_byteOf 64 = .ok (.ireturn, 1) := by decide +kernel
theorem dX10_feed_0 : decode cX10_feed 0 = .ok (.iconst 0, 1) := by decide +kernel
theorem dX10_feed_1 : decode cX10_feed 1 = .ok (.istore 6, 2) := by decide +kernel
theorem dX10_feed_3 : decode cX10_feed 3 = .ok (.iconst 0, 1) := by decide +kernel
theorem dX10_feed_4 : decode cX10_feed 4 = .ok (.istore 7, 2) := by decide +kernel
theorem dX10_feed_6 : decode cX10_feed 6 = .ok (.iload 7, 2) := by decide +kernel
theorem dX10_feed_8 : decode cX10_feed 8 = .ok (.bipush 20, 2) := by decide +kernel
theorem dX10_feed_10 : decode cX10_feed 10 = .ok (.if_icmp .ge 34, 3) := by decide +kernel
theorem dX10_feed_13 : decode cX10_feed 13 = .ok (.iload 6, 2) := by decide +kernel
theorem dX10_feed_15 : decode cX10_feed 15 = .ok (.iload_n 1, 1) := by decide +kernel
theorem dX10_feed_16 : decode cX10_feed 16 = .ok (.iload_n 2, 1) := by decide +kernel
theorem dX10_feed_17 : decode cX10_feed 17 = .ok (.iload_n 3, 1) := by decide +kernel
theorem dX10_feed_18 : decode cX10_feed 18 = .ok (.iload 4, 2) := by decide +kernel
theorem dX10_feed_20 : decode cX10_feed 20 = .ok (.iload 5, 2) := by decide +kernel
theorem dX10_feed_22 : decode cX10_feed 22 = .ok (.iload 7, 2) := by decide +kernel
theorem dX10_feed_24 : decode cX10_feed 24 = .ok (.invokestatic 56, 3) := by decide +kernel
theorem dX10_feed_27 : decode cX10_feed 27 = .ok (.ifCond .eq 7, 3) := by decide +kernel
theorem dX10_feed_30 : decode cX10_feed 30 = .ok (.iconst 1, 1) := by decide +kernel
theorem dX10_feed_31 : decode cX10_feed 31 = .ok (.goto 4, 3) := by decide +kernel
theorem dX10_feed_34 : decode cX10_feed 34 = .ok (.iconst 0, 1) := by decide +kernel
theorem dX10_feed_35 : decode cX10_feed 35 = .ok (.iadd, 1) := by decide +kernel
theorem dX10_feed_36 : decode cX10_feed 36 = .ok (.istore 6, 2) := by decide +kernel
theorem dX10_feed_38 : decode cX10_feed 38 = .ok (.iinc 7 1, 3) := by decide +kernel
theorem dX10_feed_41 : decode cX10_feed 41 = .ok (.goto (-35), 3) := by decide +kernel
theorem dX10_feed_44 : decode cX10_feed 44 = .ok (.aload_n 0, 1) := by decide +kernel
theorem dX10_feed_45 : decode cX10_feed 45 = .ok (.getfield 60, 3) := by decide +kernel
theorem dX10_feed_48 : decode cX10_feed 48 = .ok (.iload 6, 2) := by decide +kernel
theorem dX10_feed_50 : decode cX10_feed 50 = .ok (.iadd, 1) := by decide +kernel
theorem dX10_feed_51 : decode cX10_feed 51 = .ok (.sipush 240, 3) := by decide +kernel
theorem dX10_feed_54 : decode cX10_feed 54 = .ok (.if_icmp .le 5, 3) := by decide +kernel
theorem dX10_feed_59 : decode cX10_feed 59 = .ok (.iconst 0, 1) := by decide +kernel
theorem dX10_feed_60 : decode cX10_feed 60 = .ok (.istore 7, 2) := by decide +kernel
theorem dX10_feed_62 : decode cX10_feed 62 = .ok (.iload 7, 2) := by decide +kernel
theorem dX10_feed_64 : decode cX10_feed 64 = .ok (.bipush 20, 2) := by decide +kernel
theorem dX10_feed_66 : decode cX10_feed 66 = .ok (.if_icmp .ge 49, 3) := by decide +kernel
theorem dX10_feed_69 : decode cX10_feed 69 = .ok (.iload_n 1, 1) := by decide +kernel
theorem dX10_feed_70 : decode cX10_feed 70 = .ok (.iload_n 2, 1) := by decide +kernel
theorem dX10_feed_71 : decode cX10_feed 71 = .ok (.iload_n 3, 1) := by decide +kernel
theorem dX10_feed_72 : decode cX10_feed 72 = .ok (.iload 4, 2) := by decide +kernel
theorem dX10_feed_74 : decode cX10_feed 74 = .ok (.iload 5, 2) := by decide +kernel
theorem dX10_feed_76 : decode cX10_feed 76 = .ok (.iload 7, 2) := by decide +kernel
theorem dX10_feed_78 : decode cX10_feed 78 = .ok (.invokestatic 56, 3) := by decide +kernel
theorem dX10_feed_81 : decode cX10_feed 81 = .ok (.istore 8, 2) := by decide +kernel
theorem dX10_feed_83 : decode cX10_feed 83 = .ok (.iload 8, 2) := by decide +kernel
theorem dX10_feed_85 : decode cX10_feed 85 = .ok (.ifCond .eq 24, 3) := by decide +kernel
theorem dX10_feed_88 : decode cX10_feed 88 = .ok (.aload_n 0, 1) := by decide +kernel
theorem dX10_feed_89 : decode cX10_feed 89 = .ok (.getfield 9, 3) := by decide +kernel
theorem dX10_feed_92 : decode cX10_feed 92 = .ok (.aload_n 0, 1) := by decide +kernel
theorem dX10_feed_93 : decode cX10_feed 93 = .ok (.getfield 60, 3) := by decide +kernel
theorem dX10_feed_96 : decode cX10_feed 96 = .ok (.iload 8, 2) := by decide +kernel
theorem dX10_feed_98 : decode cX10_feed 98 = .ok (.iastore, 1) := by decide +kernel
theorem dX10_feed_99 : decode cX10_feed 99 = .ok (.aload_n 0, 1) := by decide +kernel
theorem dX10_feed_100 : decode cX10_feed 100 = .ok (.dup, 1) := by decide +kernel
theorem dX10_feed_101 : decode cX10_feed 101 = .ok (.getfield 60, 3) := by decide +kernel
theorem dX10_feed_104 : decode cX10_feed 104 = .ok (.iconst 1, 1) := by decide +kernel
theorem dX10_feed_105 : decode cX10_feed 105 = .ok (.iadd, 1) := by decide +kernel
theorem dX10_feed_106 : decode cX10_feed 106 = .ok (.putfield 60, 3) := by decide +kernel
theorem dX10_feed_109 : decode cX10_feed 109 = .ok (.iinc 7 1, 3) := by decide +kernel
theorem dX10_feed_112 : decode cX10_feed 112 = .ok (.goto (-50), 3) := by decide +kernel
theorem dX10_feed_115 : decode cX10_feed 115 = .ok (.aload_n 0, 1) := by decide +kernel
theorem dX10_feed_116 : decode cX10_feed 116 = .ok (.getfield 60, 3) := by decide +kernel
theorem dX10_feed_119 : decode cX10_feed 119 = .ok (.ireturn, 1) := by decide +kernel
theorem dX8_add_0 : decode cX8_add 0 = .ok (.bipush 24, 2) := by decide +kernel
theorem dX8_add_2 : decode cX8_add 2 = .ok (.istore_n 2, 1) := by decide +kernel
theorem dX8_add_3 : decode cX8_add 3 = .ok (.iload_n 2, 1) := by decide +kernel
theorem dX8_add_4 : decode cX8_add 4 = .ok (.ifCond .lt 54, 3) := by decide +kernel
theorem dX8_add_7 : decode cX8_add 7 = .ok (.iload_n 1, 1) := by decide +kernel
theorem dX8_add_8 : decode cX8_add 8 = .ok (.iload_n 2, 1) := by decide +kernel
theorem dX8_add_9 : decode cX8_add 9 = .ok (.iushr, 1) := by decide +kernel
theorem dX8_add_10 : decode cX8_add 10 = .ok (.sipush 255, 3) := by decide +kernel
theorem dX8_add_13 : decode cX8_add 13 = .ok (.iand, 1) := by decide +kernel
theorem dX8_add_14 : decode cX8_add 14 = .ok (.istore_n 3, 1) := by decide +kernel
theorem dX8_add_15 : decode cX8_add 15 = .ok (.iload_n 3, 1) := by decide +kernel
theorem dX8_add_16 : decode cX8_add 16 = .ok (.ifCond .eq 36, 3) := by decide +kernel
theorem dX8_add_19 : decode cX8_add 19 = .ok (.aload_n 0, 1) := by decide +kernel
theorem dX8_add_20 : decode cX8_add 20 = .ok (.getfield 15, 3) := by decide +kernel
theorem dX8_add_23 : decode cX8_add 23 = .ok (.aload_n 0, 1) := by decide +kernel
theorem dX8_add_24 : decode cX8_add 24 = .ok (.getfield 9, 3) := by decide +kernel
theorem dX8_add_27 : decode cX8_add 27 = .ok (.arraylength, 1) := by decide +kernel
theorem dX8_add_28 : decode cX8_add 28 = .ok (.if_icmp .ge 24, 3) := by decide +kernel
theorem dX8_add_31 : decode cX8_add 31 = .ok (.aload_n 0, 1) := by decide +kernel
theorem dX8_add_32 : decode cX8_add 32 = .ok (.getfield 9, 3) := by decide +kernel
theorem dX8_add_35 : decode cX8_add 35 = .ok (.aload_n 0, 1) := by decide +kernel
theorem dX8_add_36 : decode cX8_add 36 = .ok (.getfield 15, 3) := by decide +kernel
theorem dX8_add_39 : decode cX8_add 39 = .ok (.iload_n 3, 1) := by decide +kernel
theorem dX8_add_40 : decode cX8_add 40 = .ok (.i2c, 1) := by decide +kernel
theorem dX8_add_41 : decode cX8_add 41 = .ok (.castore, 1) := by decide +kernel
theorem dX8_add_42 : decode cX8_add 42 = .ok (.aload_n 0, 1) := by decide +kernel
theorem dX8_add_43 : decode cX8_add 43 = .ok (.dup, 1) := by decide +kernel
theorem dX8_add_44 : decode cX8_add 44 = .ok (.getfield 15, 3) := by decide +kernel
theorem dX8_add_47 : decode cX8_add 47 = .ok (.iconst 1, 1) := by decide +kernel
theorem dX8_add_48 : decode cX8_add 48 = .ok (.iadd, 1) := by decide +kernel
theorem dX8_add_49 : decode cX8_add 49 = .ok (.putfield 15, 3) := by decide +kernel
theorem dX8_add_52 : decode cX8_add 52 = .ok (.iinc 2 (-8), 3) := by decide +kernel
theorem dX8_add_55 : decode cX8_add 55 = .ok (.goto (-52), 3) := by decide +kernel
theorem dX8_add_58 : decode cX8_add 58 = .ok (.return_, 1) := by decide +kernel
theorem dX8_bytesIn_0 : decode cX8_bytesIn 0 = .ok (.iconst 0, 1) := by decide +kernel
theorem dX8_bytesIn_1 : decode cX8_bytesIn 1 = .ok (.istore_n 1, 1) := by decide +kernel
theorem dX8_bytesIn_2 : decode cX8_bytesIn 2 = .ok (.bipush 24, 2) := by decide +kernel
theorem dX8_bytesIn_4 : decode cX8_bytesIn 4 = .ok (.istore_n 2, 1) := by decide +kernel
theorem dX8_bytesIn_5 : decode cX8_bytesIn 5 = .ok (.iload_n 2, 1) := by decide +kernel
theorem dX8_bytesIn_6 : decode cX8_bytesIn 6 = .ok (.ifCond .lt 27, 3) := by decide +kernel
theorem dX8_bytesIn_9 : decode cX8_bytesIn 9 = .ok (.iload_n 1, 1) := by decide +kernel
theorem dX8_bytesIn_10 : decode cX8_bytesIn 10 = .ok (.iload_n 0, 1) := by decide +kernel
theorem dX8_bytesIn_11 : decode cX8_bytesIn 11 = .ok (.iload_n 2, 1) := by decide +kernel
theorem dX8_bytesIn_12 : decode cX8_bytesIn 12 = .ok (.iushr, 1) := by decide +kernel
theorem dX8_bytesIn_13 : decode cX8_bytesIn 13 = .ok (.sipush 255, 3) := by decide +kernel
theorem dX8_bytesIn_16 : decode cX8_bytesIn 16 = .ok (.iand, 1) := by decide +kernel
theorem dX8_bytesIn_17 : decode cX8_bytesIn 17 = .ok (.ifCond .ne 7, 3) := by decide +kernel
theorem dX8_bytesIn_20 : decode cX8_bytesIn 20 = .ok (.iconst 0, 1) := by decide +kernel
theorem dX8_bytesIn_21 : decode cX8_bytesIn 21 = .ok (.goto 4, 3) := by decide +kernel
theorem dX8_bytesIn_24 : decode cX8_bytesIn 24 = .ok (.iconst 1, 1) := by decide +kernel
theorem dX8_bytesIn_25 : decode cX8_bytesIn 25 = .ok (.iadd, 1) := by decide +kernel
theorem dX8_bytesIn_26 : decode cX8_bytesIn 26 = .ok (.istore_n 1, 1) := by decide +kernel
theorem dX8_bytesIn_27 : decode cX8_bytesIn 27 = .ok (.iinc 2 (-8), 3) := by decide +kernel
theorem dX8_bytesIn_30 : decode cX8_bytesIn 30 = .ok (.goto (-25), 3) := by decide +kernel
theorem dX8_bytesIn_33 : decode cX8_bytesIn 33 = .ok (.iload_n 1, 1) := by decide +kernel
theorem dX8_bytesIn_34 : decode cX8_bytesIn 34 = .ok (.ireturn, 1) := by decide +kernel
theorem dX9_feed_0 : decode cX9_feed 0 = .ok (.iload_n 1, 1) := by decide +kernel
theorem dX9_feed_1 : decode cX9_feed 1 = .ok (.invokestatic 98, 3) := by decide +kernel
theorem dX9_feed_4 : decode cX9_feed 4 = .ok (.iload_n 2, 1) := by decide +kernel
theorem dX9_feed_5 : decode cX9_feed 5 = .ok (.invokestatic 98, 3) := by decide +kernel
theorem dX9_feed_8 : decode cX9_feed 8 = .ok (.iadd, 1) := by decide +kernel
theorem dX9_feed_9 : decode cX9_feed 9 = .ok (.iload_n 3, 1) := by decide +kernel
theorem dX9_feed_10 : decode cX9_feed 10 = .ok (.invokestatic 98, 3) := by decide +kernel
theorem dX9_feed_13 : decode cX9_feed 13 = .ok (.iadd, 1) := by decide +kernel
theorem dX9_feed_14 : decode cX9_feed 14 = .ok (.iload 4, 2) := by decide +kernel
theorem dX9_feed_16 : decode cX9_feed 16 = .ok (.invokestatic 98, 3) := by decide +kernel
theorem dX9_feed_19 : decode cX9_feed 19 = .ok (.iadd, 1) := by decide +kernel
theorem dX9_feed_20 : decode cX9_feed 20 = .ok (.iload 5, 2) := by decide +kernel
theorem dX9_feed_22 : decode cX9_feed 22 = .ok (.invokestatic 98, 3) := by decide +kernel
theorem dX9_feed_25 : decode cX9_feed 25 = .ok (.iadd, 1) := by decide +kernel
theorem dX9_feed_26 : decode cX9_feed 26 = .ok (.istore 6, 2) := by decide +kernel
theorem dX9_feed_28 : decode cX9_feed 28 = .ok (.aload_n 0, 1) := by decide +kernel
theorem dX9_feed_29 : decode cX9_feed 29 = .ok (.getfield 12, 3) := by decide +kernel
theorem dX9_feed_32 : decode cX9_feed 32 = .ok (.getfield 102, 3) := by decide +kernel
theorem dX9_feed_35 : decode cX9_feed 35 = .ok (.iload 6, 2) := by decide +kernel
theorem dX9_feed_37 : decode cX9_feed 37 = .ok (.iadd, 1) := by decide +kernel
theorem dX9_feed_38 : decode cX9_feed 38 = .ok (.sipush 240, 3) := by decide +kernel
theorem dX9_feed_41 : decode cX9_feed 41 = .ok (.if_icmp .le 5, 3) := by decide +kernel
theorem dX9_feed_46 : decode cX9_feed 46 = .ok (.aload_n 0, 1) := by decide +kernel
theorem dX9_feed_47 : decode cX9_feed 47 = .ok (.getfield 12, 3) := by decide +kernel
theorem dX9_feed_50 : decode cX9_feed 50 = .ok (.iload_n 1, 1) := by decide +kernel
theorem dX9_feed_51 : decode cX9_feed 51 = .ok (.invokevirtual 106, 3) := by decide +kernel
theorem dX9_feed_54 : decode cX9_feed 54 = .ok (.aload_n 0, 1) := by decide +kernel
theorem dX9_feed_55 : decode cX9_feed 55 = .ok (.getfield 12, 3) := by decide +kernel
theorem dX9_feed_58 : decode cX9_feed 58 = .ok (.iload_n 2, 1) := by decide +kernel
theorem dX9_feed_59 : decode cX9_feed 59 = .ok (.invokevirtual 106, 3) := by decide +kernel
theorem dX9_feed_62 : decode cX9_feed 62 = .ok (.aload_n 0, 1) := by decide +kernel
theorem dX9_feed_63 : decode cX9_feed 63 = .ok (.getfield 12, 3) := by decide +kernel
theorem dX9_feed_66 : decode cX9_feed 66 = .ok (.iload_n 3, 1) := by decide +kernel
theorem dX9_feed_67 : decode cX9_feed 67 = .ok (.invokevirtual 106, 3) := by decide +kernel
theorem dX9_feed_70 : decode cX9_feed 70 = .ok (.aload_n 0, 1) := by decide +kernel
theorem dX9_feed_71 : decode cX9_feed 71 = .ok (.getfield 12, 3) := by decide +kernel
theorem dX9_feed_74 : decode cX9_feed 74 = .ok (.iload 4, 2) := by decide +kernel
theorem dX9_feed_76 : decode cX9_feed 76 = .ok (.invokevirtual 106, 3) := by decide +kernel
theorem dX9_feed_79 : decode cX9_feed 79 = .ok (.aload_n 0, 1) := by decide +kernel
theorem dX9_feed_80 : decode cX9_feed 80 = .ok (.getfield 12, 3) := by decide +kernel
theorem dX9_feed_83 : decode cX9_feed 83 = .ok (.iload 5, 2) := by decide +kernel
theorem dX9_feed_85 : decode cX9_feed 85 = .ok (.invokevirtual 106, 3) := by decide +kernel
theorem dX9_feed_88 : decode cX9_feed 88 = .ok (.aload_n 0, 1) := by decide +kernel
theorem dX9_feed_89 : decode cX9_feed 89 = .ok (.getfield 12, 3) := by decide +kernel
theorem dX9_feed_92 : decode cX9_feed 92 = .ok (.getfield 102, 3) := by decide +kernel
theorem dX9_feed_95 : decode cX9_feed 95 = .ok (.ireturn, 1) := by decide +kernel
def bt (x : Int32) (i : Nat) : Bool := x.toBitVec.getLsbD i
theorem b_ext {x y : Int32} (h : ∀ i, i < 32 → bt x i = bt y i) : x = y := Int32.toBitVec_inj.mp (BitVec.eq_of_getLsbD_eq (fun i hi => h i hi))
theorem b_or (x y : Int32) (i : Nat) : bt (x ||| y) i = (bt x i || bt y i) := by unfold bt; rw [Int32.toBitVec_or, BitVec.getLsbD_or]
theorem b_and (x y : Int32) (i : Nat) : bt (x &&& y) i = (bt x i && bt y i) := by unfold bt; rw [Int32.toBitVec_and, BitVec.getLsbD_and]
theorem b_xor (x y : Int32) (i : Nat) : bt (x ^^^ y) i = (bt x i ^^ bt y i) := by unfold bt; rw [Int32.toBitVec_xor, BitVec.getLsbD_xor]
theorem b_big {x : Int32} {i : Nat} (h : 32 ≤ i) : bt x i = false := BitVec.getLsbD_of_ge _ _ h
theorem b_255 (i : Nat) : bt 255 i = decide (i < 8) := by
  rcases Nat.lt_or_ge i 32 with h | h
  · exact (by decide +kernel : ∀ i, i < 32 → bt 255 i = decide (i < 8)) i h
  · rw [b_big h, decide_eq_false (by omega)]
theorem b_65535 (i : Nat) : bt 65535 i = decide (i < 16) := by
  rcases Nat.lt_or_ge i 32 with h | h
  · exact (by decide +kernel : ∀ i, i < 32 → bt 65535 i = decide (i < 16)) i h
  · rw [b_big h, decide_eq_false (by omega)]
theorem b_m1 : ∀ i, i < 32 → bt (-1) i = true := by decide +kernel
theorem b_0 (i : Nat) : bt 0 i = false := BitVec.getLsbD_zero
theorem s_l : ∀ n, n < 32 → ((nI n &&& 31).toBitVec.smod 32).toNat = n := by decide +kernel
theorem s_u : ∀ n, n < 32 → (((nI n).toUInt32 &&& Int32.toUInt32 31).toBitVec % 32).toNat = n := by decide +kernel
theorem b_shl (n : Nat) (hn : n < 32) (x : Int32) {i : Nat} (hi : i < 32) : bt (x <<< (nI n &&& 31)) i = (decide (n ≤ i) && bt x (i - n)) := by
  unfold bt
  rw [Int32.toBitVec_shiftLeft]
  show (x.toBitVec <<< ((nI n &&& 31).toBitVec.smod 32).toNat).getLsbD i = _
  rw [s_l n hn, BitVec.getLsbD_shiftLeft]
  rcases Nat.lt_or_ge i n with h | h
  · simp [h, Nat.not_le.mpr h]
  · simp [hi, h, Nat.not_lt.mpr h]
theorem b_ushr (n : Nat) (hn : n < 32) (x : Int32) (i : Nat) : bt ((x.toUInt32 >>> ((nI n).toUInt32 &&& Int32.toUInt32 31)).toInt32) i = bt x (n + i) := by
  show (x.toUInt32 >>> ((nI n).toUInt32 &&& Int32.toUInt32 31)).toBitVec.getLsbD i = x.toUInt32.toBitVec.getLsbD (n + i)
  rw [UInt32.toBitVec_shiftRight]
  show (x.toUInt32.toBitVec >>> (((nI n).toUInt32 &&& Int32.toUInt32 31).toBitVec % 32).toNat).getLsbD i = _
  rw [s_u n hn, BitVec.getLsbD_ushiftRight]
theorem b_sshr (n : Nat) (hn : n < 32) (x : Int32) {i : Nat} (hi : i < 32) : bt (x >>> (nI n &&& 31)) i = if n + i < 32 then bt x (n + i) else bt x 31 := by
  unfold bt
  rw [Int32.toBitVec_shiftRight]
  show (x.toBitVec.sshiftRight ((nI n &&& 31).toBitVec.smod 32).toNat).getLsbD i = _
  rw [s_l n hn, BitVec.getLsbD_sshiftRight, BitVec.msb_eq_getLsbD_last]
  simp [hi]
/-! the bytes of numbers, counted: class and reference -/
def q_b (s z : Int32) : Int32 := (z.toUInt32 >>> (s.toUInt32 &&& Int32.toUInt32 31)).toInt32 &&& 255
def q_nz (z : Int32) : Nat := (if q_b 24 z = 0 then 0 else 1) + (if q_b 16 z = 0 then 0 else 1) + (if q_b 8 z = 0 then 0 else 1) + (if q_b 0 z = 0 then 0 else 1)
theorem q_nz_le (z : Int32) : q_nz z ≤ 4 := by
  unfold q_nz
  split <;> split <;> split <;> split <;> decide
theorem q_more (a b c d e : Int32) : (0 + (((((nI (q_nz a)) + (nI (q_nz b))) + (nI (q_nz c))) + (nI (q_nz d))) + (nI (q_nz e)))) ≤ 240 := by
  have h1 := q_nz_le a; have h2 := q_nz_le b; have h3 := q_nz_le c; have h4 := q_nz_le d; have h5 := q_nz_le e
  have h0 : (0 : Int32) = nI 0 := rfl
  rw [h0, nI_add, nI_add, nI_add, nI_add, nI_add]
  exact nI_le (b := 240) (by omega) (by decide)
theorem q_n240 {m : Nat} (h : m < 240) : ¬ (240 : Int32) ≤ nI m := nI_ge (b := 240) h (by decide)
def q_by (z1 z2 z3 z4 z5 k : Int32) : Int32 := ((if 4 ≤ k then (if 8 ≤ k then (if 12 ≤ k then (if 16 ≤ k then z5 else z4) else z3) else z2) else z1) >>> ((24 - (8 * (k - k / 4 * 4))) &&& 31)) &&& 255
def q_c (z1 z2 z3 z4 z5 : Int32) : Nat → Nat
  | 0 => 0
  | i + 1 => q_c z1 z2 z3 z4 z5 i + (if q_by z1 z2 z3 z4 z5 (nI i) = 0 then 0 else 1)
theorem q_c0 {z1 z2 z3 z4 z5 : Int32} {i : Nat} (h : q_by z1 z2 z3 z4 z5 (nI i) = 0) : q_c z1 z2 z3 z4 z5 (i + 1) = q_c z1 z2 z3 z4 z5 i := by
  show q_c z1 z2 z3 z4 z5 i + _ = _
  rw [if_pos h]; rfl
theorem q_c1 {z1 z2 z3 z4 z5 : Int32} {i : Nat} (h : ¬ q_by z1 z2 z3 z4 z5 (nI i) = 0) : q_c z1 z2 z3 z4 z5 (i + 1) = q_c z1 z2 z3 z4 z5 i + 1 := by
  show q_c z1 z2 z3 z4 z5 i + _ = _
  rw [if_neg h]
theorem q_c_le {z1 z2 z3 z4 z5 : Int32} : ∀ i, q_c z1 z2 z3 z4 z5 i ≤ i
  | 0 => Nat.le_refl 0
  | i + 1 => by
    have := q_c_le (z1 := z1) (z2 := z2) (z3 := z3) (z4 := z4) (z5 := z5) i
    show q_c z1 z2 z3 z4 z5 i + _ ≤ i + 1
    split <;> omega
theorem q_bb24 (x : Int32) : (x >>> ((24 : Int32) &&& 31)) &&& 255 = q_b 24 x := by
  unfold q_b
  apply b_ext
  intro i hi
  rw [b_and, b_and, b_255]
  have h1 := b_sshr 24 (by omega) x hi
  have h2 := b_ushr 24 (by omega) x i
  rw [show bt (x >>> ((24 : Int32) &&& 31)) i = _ from h1, show bt ((x.toUInt32 >>> ((24 : Int32).toUInt32 &&& Int32.toUInt32 31)).toInt32) i = _ from h2]
  by_cases h : i < 8
  · rw [if_pos (by omega)]
  · rw [decide_eq_false h, Bool.and_false, Bool.and_false]
theorem q_bb16 (x : Int32) : (x >>> ((16 : Int32) &&& 31)) &&& 255 = q_b 16 x := by
  unfold q_b
  apply b_ext
  intro i hi
  rw [b_and, b_and, b_255]
  have h1 := b_sshr 16 (by omega) x hi
  have h2 := b_ushr 16 (by omega) x i
  rw [show bt (x >>> ((16 : Int32) &&& 31)) i = _ from h1, show bt ((x.toUInt32 >>> ((16 : Int32).toUInt32 &&& Int32.toUInt32 31)).toInt32) i = _ from h2]
  by_cases h : i < 8
  · rw [if_pos (by omega)]
  · rw [decide_eq_false h, Bool.and_false, Bool.and_false]
theorem q_bb8 (x : Int32) : (x >>> ((8 : Int32) &&& 31)) &&& 255 = q_b 8 x := by
  unfold q_b
  apply b_ext
  intro i hi
  rw [b_and, b_and, b_255]
  have h1 := b_sshr 8 (by omega) x hi
  have h2 := b_ushr 8 (by omega) x i
  rw [show bt (x >>> ((8 : Int32) &&& 31)) i = _ from h1, show bt ((x.toUInt32 >>> ((8 : Int32).toUInt32 &&& Int32.toUInt32 31)).toInt32) i = _ from h2]
  by_cases h : i < 8
  · rw [if_pos (by omega)]
  · rw [decide_eq_false h, Bool.and_false, Bool.and_false]
theorem q_bb0 (x : Int32) : (x >>> ((0 : Int32) &&& 31)) &&& 255 = q_b 0 x := by
  unfold q_b
  apply b_ext
  intro i hi
  rw [b_and, b_and, b_255]
  have h1 := b_sshr 0 (by omega) x hi
  have h2 := b_ushr 0 (by omega) x i
  rw [show bt (x >>> ((0 : Int32) &&& 31)) i = _ from h1, show bt ((x.toUInt32 >>> ((0 : Int32).toUInt32 &&& Int32.toUInt32 31)).toInt32) i = _ from h2]
  by_cases h : i < 8
  · rw [if_pos (by omega)]
  · rw [decide_eq_false h, Bool.and_false, Bool.and_false]
theorem q_by_0 (z1 z2 z3 z4 z5 : Int32) : q_by z1 z2 z3 z4 z5 (nI 0) = q_b 24 z1 := by
  rw [← q_bb24]
  unfold q_by
  rw [if_neg (by decide)]
  rfl
theorem q_by_1 (z1 z2 z3 z4 z5 : Int32) : q_by z1 z2 z3 z4 z5 (nI 1) = q_b 16 z1 := by
  rw [← q_bb16]
  unfold q_by
  rw [if_neg (by decide)]
  rfl
theorem q_by_2 (z1 z2 z3 z4 z5 : Int32) : q_by z1 z2 z3 z4 z5 (nI 2) = q_b 8 z1 := by
  rw [← q_bb8]
  unfold q_by
  rw [if_neg (by decide)]
  rfl
theorem q_by_3 (z1 z2 z3 z4 z5 : Int32) : q_by z1 z2 z3 z4 z5 (nI 3) = q_b 0 z1 := by
  rw [← q_bb0]
  unfold q_by
  rw [if_neg (by decide)]
  rfl
theorem q_by_4 (z1 z2 z3 z4 z5 : Int32) : q_by z1 z2 z3 z4 z5 (nI 4) = q_b 24 z2 := by
  rw [← q_bb24]
  unfold q_by
  rw [if_pos (by decide), if_neg (by decide)]
  rfl
theorem q_by_5 (z1 z2 z3 z4 z5 : Int32) : q_by z1 z2 z3 z4 z5 (nI 5) = q_b 16 z2 := by
  rw [← q_bb16]
  unfold q_by
  rw [if_pos (by decide), if_neg (by decide)]
  rfl
theorem q_by_6 (z1 z2 z3 z4 z5 : Int32) : q_by z1 z2 z3 z4 z5 (nI 6) = q_b 8 z2 := by
  rw [← q_bb8]
  unfold q_by
  rw [if_pos (by decide), if_neg (by decide)]
  rfl
theorem q_by_7 (z1 z2 z3 z4 z5 : Int32) : q_by z1 z2 z3 z4 z5 (nI 7) = q_b 0 z2 := by
  rw [← q_bb0]
  unfold q_by
  rw [if_pos (by decide), if_neg (by decide)]
  rfl
theorem q_by_8 (z1 z2 z3 z4 z5 : Int32) : q_by z1 z2 z3 z4 z5 (nI 8) = q_b 24 z3 := by
  rw [← q_bb24]
  unfold q_by
  rw [if_pos (by decide), if_pos (by decide), if_neg (by decide)]
  rfl
theorem q_by_9 (z1 z2 z3 z4 z5 : Int32) : q_by z1 z2 z3 z4 z5 (nI 9) = q_b 16 z3 := by
  rw [← q_bb16]
  unfold q_by
  rw [if_pos (by decide), if_pos (by decide), if_neg (by decide)]
  rfl
theorem q_by_10 (z1 z2 z3 z4 z5 : Int32) : q_by z1 z2 z3 z4 z5 (nI 10) = q_b 8 z3 := by
  rw [← q_bb8]
  unfold q_by
  rw [if_pos (by decide), if_pos (by decide), if_neg (by decide)]
  rfl
theorem q_by_11 (z1 z2 z3 z4 z5 : Int32) : q_by z1 z2 z3 z4 z5 (nI 11) = q_b 0 z3 := by
  rw [← q_bb0]
  unfold q_by
  rw [if_pos (by decide), if_pos (by decide), if_neg (by decide)]
  rfl
theorem q_by_12 (z1 z2 z3 z4 z5 : Int32) : q_by z1 z2 z3 z4 z5 (nI 12) = q_b 24 z4 := by
  rw [← q_bb24]
  unfold q_by
  rw [if_pos (by decide), if_pos (by decide), if_pos (by decide), if_neg (by decide)]
  rfl
theorem q_by_13 (z1 z2 z3 z4 z5 : Int32) : q_by z1 z2 z3 z4 z5 (nI 13) = q_b 16 z4 := by
  rw [← q_bb16]
  unfold q_by
  rw [if_pos (by decide), if_pos (by decide), if_pos (by decide), if_neg (by decide)]
  rfl
theorem q_by_14 (z1 z2 z3 z4 z5 : Int32) : q_by z1 z2 z3 z4 z5 (nI 14) = q_b 8 z4 := by
  rw [← q_bb8]
  unfold q_by
  rw [if_pos (by decide), if_pos (by decide), if_pos (by decide), if_neg (by decide)]
  rfl
theorem q_by_15 (z1 z2 z3 z4 z5 : Int32) : q_by z1 z2 z3 z4 z5 (nI 15) = q_b 0 z4 := by
  rw [← q_bb0]
  unfold q_by
  rw [if_pos (by decide), if_pos (by decide), if_pos (by decide), if_neg (by decide)]
  rfl
theorem q_by_16 (z1 z2 z3 z4 z5 : Int32) : q_by z1 z2 z3 z4 z5 (nI 16) = q_b 24 z5 := by
  rw [← q_bb24]
  unfold q_by
  rw [if_pos (by decide), if_pos (by decide), if_pos (by decide), if_pos (by decide)]
  rfl
theorem q_by_17 (z1 z2 z3 z4 z5 : Int32) : q_by z1 z2 z3 z4 z5 (nI 17) = q_b 16 z5 := by
  rw [← q_bb16]
  unfold q_by
  rw [if_pos (by decide), if_pos (by decide), if_pos (by decide), if_pos (by decide)]
  rfl
theorem q_by_18 (z1 z2 z3 z4 z5 : Int32) : q_by z1 z2 z3 z4 z5 (nI 18) = q_b 8 z5 := by
  rw [← q_bb8]
  unfold q_by
  rw [if_pos (by decide), if_pos (by decide), if_pos (by decide), if_pos (by decide)]
  rfl
theorem q_by_19 (z1 z2 z3 z4 z5 : Int32) : q_by z1 z2 z3 z4 z5 (nI 19) = q_b 0 z5 := by
  rw [← q_bb0]
  unfold q_by
  rw [if_pos (by decide), if_pos (by decide), if_pos (by decide), if_pos (by decide)]
  rfl
theorem q_c20 (z1 z2 z3 z4 z5 : Int32) : q_c z1 z2 z3 z4 z5 20 = ((((0 + q_nz z1) + q_nz z2) + q_nz z3) + q_nz z4) + q_nz z5 := by
  simp only [q_c, q_nz, q_by_0, q_by_1, q_by_2, q_by_3, q_by_4, q_by_5, q_by_6, q_by_7, q_by_8, q_by_9, q_by_10, q_by_11, q_by_12, q_by_13, q_by_14, q_by_15, q_by_16, q_by_17, q_by_18, q_by_19]
  omega

def wq_X8_bytesIn : List Cond := .code yX8_bytesIn cX8_bytesIn 3 (some .int) :: ([])
set_option maxHeartbeats 4000000 in
set_option maxRecDepth 100000 in
theorem c_X8_bytesIn (l : Launch) (dC : Nat → ClassId) (dI : Nat → Nat → Nat) (z : Int32) : Met l yX8_bytesIn wq_X8_bytesIn ({ frames := 0, cells := 0, slots := 0, locals := 0 }) (va_Pc [.int z] (q_R (dC, dI) [] [])) (q_i ((nI (q_nz z)))) 0 0 (fun _ => False) := by
  refine Met.ofW (cc := cX8_bytesIn) (maxL := 3) (ret := (some .int)) (by decide) rfl ?_
  intro p e s m args below meth c s₁ B hml hv
  obtain ⟨rfl, hP, hK⟩ := hv
  have hx := B.exec
  have hb := B.bytes
  have hr := B.returns
  have hts := atoms_spec (ws := wq_X8_bytesIn) B.pre
  have hown : s.vm.findClass RX8 = some m.cls := findClass_of_methodNamed B.named
  have hlocks := B.notSynchronized
  have hS : va_S (fun _ => False) s.heap s.heap [] := va_S.rf
  have hl := lv_entry ([.int z]) (n := 3) (Nat.le_of_ble_eq_true rfl)
  rw [lg_entry_eq]
  generalize (lg_sl ([.int z]) ++ List.replicate (3 - (lg_sl ([.int z])).length) Slot.unset).toArray = ls at hl ⊢
  have hl : lv_has ls 3 [(0, .int z)] := hl
  refine lv_iconst (v := 0) hx hb dX8_bytesIn_0 (by decide) ?_
  refine lv_istore_n (lv' := [(1, .int 0), (0, .int z)]) hx hb dX8_bytesIn_1 rfl hl (by decide) rfl (fun ls hl => ?_)
  refine lv_bipush (v := 24) hx hb dX8_bytesIn_2 (by decide) ?_
  refine lv_istore_n (lv' := [(2, .int 24), (1, .int 0), (0, .int z)]) hx hb dX8_bytesIn_4 rfl hl (by decide) rfl (fun ls hl => ?_)
  refine lv_iload_n hx hb dX8_bytesIn_5 rfl (lv_at hl 0 rfl) ?_
  refine lv_if_lt (tgt := 33) hx hb dX8_bytesIn_6 (by decide) (fun c_1 => ?_) (fun c_1 => ?_)
  · exact absurd c_1 (by decide)
  refine lv_iload_n hx hb dX8_bytesIn_9 rfl (lv_at hl 1 rfl) ?_
  refine lv_iload_n hx hb dX8_bytesIn_10 rfl (lv_at hl 2 rfl) ?_
  refine lv_iload_n hx hb dX8_bytesIn_11 rfl (lv_at hl 0 rfl) ?_
  refine lv_iushr hx hb dX8_bytesIn_12 rfl ?_
  refine lv_sipush (v := 255) hx hb dX8_bytesIn_13 (by decide) ?_
  refine lv_iand hx hb dX8_bytesIn_16 ?_
  refine lv_if_ne (tgt := 24) hx hb dX8_bytesIn_17 (by decide) (fun c_2 => ?_) (fun c_2 => ?_)
  · skip
    refine lv_iconst (v := 1) hx hb dX8_bytesIn_24 (by decide) ?_
    refine lv_iadd hx hb dX8_bytesIn_25 ?_
    refine q_top (y := 1) (by decide) ?_
    refine lv_istore_n (lv' := [(1, .int 1), (2, .int 24), (0, .int z)]) hx hb dX8_bytesIn_26 rfl hl (by decide) rfl (fun ls hl => ?_)
    refine lv_iinc (v := 16) (lv' := [(2, .int 16), (1, .int 1), (0, .int z)]) hx hb dX8_bytesIn_27 hl (k := 1) rfl (by decide) (by decide) rfl (fun ls hl => ?_)
    refine lv_goto (tgt := 5) hx hb dX8_bytesIn_30 (by decide) ?_
    refine lv_iload_n hx hb dX8_bytesIn_5 rfl (lv_at hl 0 rfl) ?_
    refine lv_if_lt (tgt := 33) hx hb dX8_bytesIn_6 (by decide) (fun c_3 => ?_) (fun c_3 => ?_)
    · exact absurd c_3 (by decide)
    refine lv_iload_n hx hb dX8_bytesIn_9 rfl (lv_at hl 1 rfl) ?_
    refine lv_iload_n hx hb dX8_bytesIn_10 rfl (lv_at hl 2 rfl) ?_
    refine lv_iload_n hx hb dX8_bytesIn_11 rfl (lv_at hl 0 rfl) ?_
    refine lv_iushr hx hb dX8_bytesIn_12 rfl ?_
    refine lv_sipush (v := 255) hx hb dX8_bytesIn_13 (by decide) ?_
    refine lv_iand hx hb dX8_bytesIn_16 ?_
    refine lv_if_ne (tgt := 24) hx hb dX8_bytesIn_17 (by decide) (fun c_4 => ?_) (fun c_4 => ?_)
    · skip
      refine lv_iconst (v := 1) hx hb dX8_bytesIn_24 (by decide) ?_
      refine lv_iadd hx hb dX8_bytesIn_25 ?_
      refine q_top (y := 2) (by decide) ?_
      refine lv_istore_n (lv' := [(1, .int 2), (2, .int 16), (0, .int z)]) hx hb dX8_bytesIn_26 rfl hl (by decide) rfl (fun ls hl => ?_)
      refine lv_iinc (v := 8) (lv' := [(2, .int 8), (1, .int 2), (0, .int z)]) hx hb dX8_bytesIn_27 hl (k := 1) rfl (by decide) (by decide) rfl (fun ls hl => ?_)
      refine lv_goto (tgt := 5) hx hb dX8_bytesIn_30 (by decide) ?_
      refine lv_iload_n hx hb dX8_bytesIn_5 rfl (lv_at hl 0 rfl) ?_
      refine lv_if_lt (tgt := 33) hx hb dX8_bytesIn_6 (by decide) (fun c_5 => ?_) (fun c_5 => ?_)
      · exact absurd c_5 (by decide)
      refine lv_iload_n hx hb dX8_bytesIn_9 rfl (lv_at hl 1 rfl) ?_
      refine lv_iload_n hx hb dX8_bytesIn_10 rfl (lv_at hl 2 rfl) ?_
      refine lv_iload_n hx hb dX8_bytesIn_11 rfl (lv_at hl 0 rfl) ?_
      refine lv_iushr hx hb dX8_bytesIn_12 rfl ?_
      refine lv_sipush (v := 255) hx hb dX8_bytesIn_13 (by decide) ?_
      refine lv_iand hx hb dX8_bytesIn_16 ?_
      refine lv_if_ne (tgt := 24) hx hb dX8_bytesIn_17 (by decide) (fun c_6 => ?_) (fun c_6 => ?_)
      · skip
        refine lv_iconst (v := 1) hx hb dX8_bytesIn_24 (by decide) ?_
        refine lv_iadd hx hb dX8_bytesIn_25 ?_
        refine q_top (y := 3) (by decide) ?_
        refine lv_istore_n (lv' := [(1, .int 3), (2, .int 8), (0, .int z)]) hx hb dX8_bytesIn_26 rfl hl (by decide) rfl (fun ls hl => ?_)
        refine lv_iinc (v := 0) (lv' := [(2, .int 0), (1, .int 3), (0, .int z)]) hx hb dX8_bytesIn_27 hl (k := 1) rfl (by decide) (by decide) rfl (fun ls hl => ?_)
        refine lv_goto (tgt := 5) hx hb dX8_bytesIn_30 (by decide) ?_
        refine lv_iload_n hx hb dX8_bytesIn_5 rfl (lv_at hl 0 rfl) ?_
        refine lv_if_lt (tgt := 33) hx hb dX8_bytesIn_6 (by decide) (fun c_7 => ?_) (fun c_7 => ?_)
        · exact absurd c_7 (by decide)
        refine lv_iload_n hx hb dX8_bytesIn_9 rfl (lv_at hl 1 rfl) ?_
        refine lv_iload_n hx hb dX8_bytesIn_10 rfl (lv_at hl 2 rfl) ?_
        refine lv_iload_n hx hb dX8_bytesIn_11 rfl (lv_at hl 0 rfl) ?_
        refine lv_iushr hx hb dX8_bytesIn_12 rfl ?_
        refine lv_sipush (v := 255) hx hb dX8_bytesIn_13 (by decide) ?_
        refine lv_iand hx hb dX8_bytesIn_16 ?_
        refine lv_if_ne (tgt := 24) hx hb dX8_bytesIn_17 (by decide) (fun c_8 => ?_) (fun c_8 => ?_)
        · skip
          refine lv_iconst (v := 1) hx hb dX8_bytesIn_24 (by decide) ?_
          refine lv_iadd hx hb dX8_bytesIn_25 ?_
          refine q_top (y := 4) (by decide) ?_
          refine lv_istore_n (lv' := [(1, .int 4), (2, .int 0), (0, .int z)]) hx hb dX8_bytesIn_26 rfl hl (by decide) rfl (fun ls hl => ?_)
          refine lv_iinc (v := (-8)) (lv' := [(2, .int (-8)), (1, .int 4), (0, .int z)]) hx hb dX8_bytesIn_27 hl (k := 1) rfl (by decide) (by decide) rfl (fun ls hl => ?_)
          refine lv_goto (tgt := 5) hx hb dX8_bytesIn_30 (by decide) ?_
          refine lv_iload_n hx hb dX8_bytesIn_5 rfl (lv_at hl 0 rfl) ?_
          refine lv_if_lt (tgt := 33) hx hb dX8_bytesIn_6 (by decide) (fun c_9 => ?_) (fun c_9 => ?_)
          · skip
            refine lv_iload_n hx hb dX8_bytesIn_33 rfl (lv_at hl 1 rfl) ?_
            exact W.iret (v := 4) hx hb hr (fun t ht hW => ⟨⟨4, (), rfl, (by rw [show q_nz z = 4 from by simp [q_nz, q_b, c_2, c_4, c_6, c_8]]; rfl), trivial⟩, hS.F ht⟩) hS.2.2 dX8_bytesIn_34
          · exact absurd (by decide) c_9
        · skip
          refine lv_iconst (v := 0) hx hb dX8_bytesIn_20 (by decide) ?_
          refine lv_goto (tgt := 25) hx hb dX8_bytesIn_21 (by decide) ?_
          refine lv_iadd hx hb dX8_bytesIn_25 ?_
          refine q_top (y := 3) (by decide) ?_
          refine lv_istore_n (lv' := [(1, .int 3), (2, .int 0), (0, .int z)]) hx hb dX8_bytesIn_26 rfl hl (by decide) rfl (fun ls hl => ?_)
          refine lv_iinc (v := (-8)) (lv' := [(2, .int (-8)), (1, .int 3), (0, .int z)]) hx hb dX8_bytesIn_27 hl (k := 1) rfl (by decide) (by decide) rfl (fun ls hl => ?_)
          refine lv_goto (tgt := 5) hx hb dX8_bytesIn_30 (by decide) ?_
          refine lv_iload_n hx hb dX8_bytesIn_5 rfl (lv_at hl 0 rfl) ?_
          refine lv_if_lt (tgt := 33) hx hb dX8_bytesIn_6 (by decide) (fun c_10 => ?_) (fun c_10 => ?_)
          · skip
            refine lv_iload_n hx hb dX8_bytesIn_33 rfl (lv_at hl 1 rfl) ?_
            exact W.iret (v := 3) hx hb hr (fun t ht hW => ⟨⟨3, (), rfl, (by rw [show q_nz z = 3 from by simp [q_nz, q_b, c_2, c_4, c_6, c_8]]; rfl), trivial⟩, hS.F ht⟩) hS.2.2 dX8_bytesIn_34
          · exact absurd (by decide) c_10
      · skip
        refine lv_iconst (v := 0) hx hb dX8_bytesIn_20 (by decide) ?_
        refine lv_goto (tgt := 25) hx hb dX8_bytesIn_21 (by decide) ?_
        refine lv_iadd hx hb dX8_bytesIn_25 ?_
        refine q_top (y := 2) (by decide) ?_
        refine lv_istore_n (lv' := [(1, .int 2), (2, .int 8), (0, .int z)]) hx hb dX8_bytesIn_26 rfl hl (by decide) rfl (fun ls hl => ?_)
        refine lv_iinc (v := 0) (lv' := [(2, .int 0), (1, .int 2), (0, .int z)]) hx hb dX8_bytesIn_27 hl (k := 1) rfl (by decide) (by decide) rfl (fun ls hl => ?_)
        refine lv_goto (tgt := 5) hx hb dX8_bytesIn_30 (by decide) ?_
        refine lv_iload_n hx hb dX8_bytesIn_5 rfl (lv_at hl 0 rfl) ?_
        refine lv_if_lt (tgt := 33) hx hb dX8_bytesIn_6 (by decide) (fun c_11 => ?_) (fun c_11 => ?_)
        · exact absurd c_11 (by decide)
        refine lv_iload_n hx hb dX8_bytesIn_9 rfl (lv_at hl 1 rfl) ?_
        refine lv_iload_n hx hb dX8_bytesIn_10 rfl (lv_at hl 2 rfl) ?_
        refine lv_iload_n hx hb dX8_bytesIn_11 rfl (lv_at hl 0 rfl) ?_
        refine lv_iushr hx hb dX8_bytesIn_12 rfl ?_
        refine lv_sipush (v := 255) hx hb dX8_bytesIn_13 (by decide) ?_
        refine lv_iand hx hb dX8_bytesIn_16 ?_
        refine lv_if_ne (tgt := 24) hx hb dX8_bytesIn_17 (by decide) (fun c_12 => ?_) (fun c_12 => ?_)
        · skip
          refine lv_iconst (v := 1) hx hb dX8_bytesIn_24 (by decide) ?_
          refine lv_iadd hx hb dX8_bytesIn_25 ?_
          refine q_top (y := 3) (by decide) ?_
          refine lv_istore_n (lv' := [(1, .int 3), (2, .int 0), (0, .int z)]) hx hb dX8_bytesIn_26 rfl hl (by decide) rfl (fun ls hl => ?_)
          refine lv_iinc (v := (-8)) (lv' := [(2, .int (-8)), (1, .int 3), (0, .int z)]) hx hb dX8_bytesIn_27 hl (k := 1) rfl (by decide) (by decide) rfl (fun ls hl => ?_)
          refine lv_goto (tgt := 5) hx hb dX8_bytesIn_30 (by decide) ?_
          refine lv_iload_n hx hb dX8_bytesIn_5 rfl (lv_at hl 0 rfl) ?_
          refine lv_if_lt (tgt := 33) hx hb dX8_bytesIn_6 (by decide) (fun c_13 => ?_) (fun c_13 => ?_)
          · skip
            refine lv_iload_n hx hb dX8_bytesIn_33 rfl (lv_at hl 1 rfl) ?_
            exact W.iret (v := 3) hx hb hr (fun t ht hW => ⟨⟨3, (), rfl, (by rw [show q_nz z = 3 from by simp [q_nz, q_b, c_2, c_4, c_6, c_12]]; rfl), trivial⟩, hS.F ht⟩) hS.2.2 dX8_bytesIn_34
          · exact absurd (by decide) c_13
        · skip
          refine lv_iconst (v := 0) hx hb dX8_bytesIn_20 (by decide) ?_
          refine lv_goto (tgt := 25) hx hb dX8_bytesIn_21 (by decide) ?_
          refine lv_iadd hx hb dX8_bytesIn_25 ?_
          refine q_top (y := 2) (by decide) ?_
          refine lv_istore_n (lv' := [(1, .int 2), (2, .int 0), (0, .int z)]) hx hb dX8_bytesIn_26 rfl hl (by decide) rfl (fun ls hl => ?_)
          refine lv_iinc (v := (-8)) (lv' := [(2, .int (-8)), (1, .int 2), (0, .int z)]) hx hb dX8_bytesIn_27 hl (k := 1) rfl (by decide) (by decide) rfl (fun ls hl => ?_)
          refine lv_goto (tgt := 5) hx hb dX8_bytesIn_30 (by decide) ?_
          refine lv_iload_n hx hb dX8_bytesIn_5 rfl (lv_at hl 0 rfl) ?_
          refine lv_if_lt (tgt := 33) hx hb dX8_bytesIn_6 (by decide) (fun c_14 => ?_) (fun c_14 => ?_)
          · skip
            refine lv_iload_n hx hb dX8_bytesIn_33 rfl (lv_at hl 1 rfl) ?_
            exact W.iret (v := 2) hx hb hr (fun t ht hW => ⟨⟨2, (), rfl, (by rw [show q_nz z = 2 from by simp [q_nz, q_b, c_2, c_4, c_6, c_12]]; rfl), trivial⟩, hS.F ht⟩) hS.2.2 dX8_bytesIn_34
          · exact absurd (by decide) c_14
    · skip
      refine lv_iconst (v := 0) hx hb dX8_bytesIn_20 (by decide) ?_
      refine lv_goto (tgt := 25) hx hb dX8_bytesIn_21 (by decide) ?_
      refine lv_iadd hx hb dX8_bytesIn_25 ?_
      refine q_top (y := 1) (by decide) ?_
      refine lv_istore_n (lv' := [(1, .int 1), (2, .int 16), (0, .int z)]) hx hb dX8_bytesIn_26 rfl hl (by decide) rfl (fun ls hl => ?_)
      refine lv_iinc (v := 8) (lv' := [(2, .int 8), (1, .int 1), (0, .int z)]) hx hb dX8_bytesIn_27 hl (k := 1) rfl (by decide) (by decide) rfl (fun ls hl => ?_)
      refine lv_goto (tgt := 5) hx hb dX8_bytesIn_30 (by decide) ?_
      refine lv_iload_n hx hb dX8_bytesIn_5 rfl (lv_at hl 0 rfl) ?_
      refine lv_if_lt (tgt := 33) hx hb dX8_bytesIn_6 (by decide) (fun c_15 => ?_) (fun c_15 => ?_)
      · exact absurd c_15 (by decide)
      refine lv_iload_n hx hb dX8_bytesIn_9 rfl (lv_at hl 1 rfl) ?_
      refine lv_iload_n hx hb dX8_bytesIn_10 rfl (lv_at hl 2 rfl) ?_
      refine lv_iload_n hx hb dX8_bytesIn_11 rfl (lv_at hl 0 rfl) ?_
      refine lv_iushr hx hb dX8_bytesIn_12 rfl ?_
      refine lv_sipush (v := 255) hx hb dX8_bytesIn_13 (by decide) ?_
      refine lv_iand hx hb dX8_bytesIn_16 ?_
      refine lv_if_ne (tgt := 24) hx hb dX8_bytesIn_17 (by decide) (fun c_16 => ?_) (fun c_16 => ?_)
      · skip
        refine lv_iconst (v := 1) hx hb dX8_bytesIn_24 (by decide) ?_
        refine lv_iadd hx hb dX8_bytesIn_25 ?_
        refine q_top (y := 2) (by decide) ?_
        refine lv_istore_n (lv' := [(1, .int 2), (2, .int 8), (0, .int z)]) hx hb dX8_bytesIn_26 rfl hl (by decide) rfl (fun ls hl => ?_)
        refine lv_iinc (v := 0) (lv' := [(2, .int 0), (1, .int 2), (0, .int z)]) hx hb dX8_bytesIn_27 hl (k := 1) rfl (by decide) (by decide) rfl (fun ls hl => ?_)
        refine lv_goto (tgt := 5) hx hb dX8_bytesIn_30 (by decide) ?_
        refine lv_iload_n hx hb dX8_bytesIn_5 rfl (lv_at hl 0 rfl) ?_
        refine lv_if_lt (tgt := 33) hx hb dX8_bytesIn_6 (by decide) (fun c_17 => ?_) (fun c_17 => ?_)
        · exact absurd c_17 (by decide)
        refine lv_iload_n hx hb dX8_bytesIn_9 rfl (lv_at hl 1 rfl) ?_
        refine lv_iload_n hx hb dX8_bytesIn_10 rfl (lv_at hl 2 rfl) ?_
        refine lv_iload_n hx hb dX8_bytesIn_11 rfl (lv_at hl 0 rfl) ?_
        refine lv_iushr hx hb dX8_bytesIn_12 rfl ?_
        refine lv_sipush (v := 255) hx hb dX8_bytesIn_13 (by decide) ?_
        refine lv_iand hx hb dX8_bytesIn_16 ?_
        refine lv_if_ne (tgt := 24) hx hb dX8_bytesIn_17 (by decide) (fun c_18 => ?_) (fun c_18 => ?_)
        · skip
          refine lv_iconst (v := 1) hx hb dX8_bytesIn_24 (by decide) ?_
          refine lv_iadd hx hb dX8_bytesIn_25 ?_
          refine q_top (y := 3) (by decide) ?_
          refine lv_istore_n (lv' := [(1, .int 3), (2, .int 0), (0, .int z)]) hx hb dX8_bytesIn_26 rfl hl (by decide) rfl (fun ls hl => ?_)
          refine lv_iinc (v := (-8)) (lv' := [(2, .int (-8)), (1, .int 3), (0, .int z)]) hx hb dX8_bytesIn_27 hl (k := 1) rfl (by decide) (by decide) rfl (fun ls hl => ?_)
          refine lv_goto (tgt := 5) hx hb dX8_bytesIn_30 (by decide) ?_
          refine lv_iload_n hx hb dX8_bytesIn_5 rfl (lv_at hl 0 rfl) ?_
          refine lv_if_lt (tgt := 33) hx hb dX8_bytesIn_6 (by decide) (fun c_19 => ?_) (fun c_19 => ?_)
          · skip
            refine lv_iload_n hx hb dX8_bytesIn_33 rfl (lv_at hl 1 rfl) ?_
            exact W.iret (v := 3) hx hb hr (fun t ht hW => ⟨⟨3, (), rfl, (by rw [show q_nz z = 3 from by simp [q_nz, q_b, c_2, c_4, c_16, c_18]]; rfl), trivial⟩, hS.F ht⟩) hS.2.2 dX8_bytesIn_34
          · exact absurd (by decide) c_19
        · skip
          refine lv_iconst (v := 0) hx hb dX8_bytesIn_20 (by decide) ?_
          refine lv_goto (tgt := 25) hx hb dX8_bytesIn_21 (by decide) ?_
          refine lv_iadd hx hb dX8_bytesIn_25 ?_
          refine q_top (y := 2) (by decide) ?_
          refine lv_istore_n (lv' := [(1, .int 2), (2, .int 0), (0, .int z)]) hx hb dX8_bytesIn_26 rfl hl (by decide) rfl (fun ls hl => ?_)
          refine lv_iinc (v := (-8)) (lv' := [(2, .int (-8)), (1, .int 2), (0, .int z)]) hx hb dX8_bytesIn_27 hl (k := 1) rfl (by decide) (by decide) rfl (fun ls hl => ?_)
          refine lv_goto (tgt := 5) hx hb dX8_bytesIn_30 (by decide) ?_
          refine lv_iload_n hx hb dX8_bytesIn_5 rfl (lv_at hl 0 rfl) ?_
          refine lv_if_lt (tgt := 33) hx hb dX8_bytesIn_6 (by decide) (fun c_20 => ?_) (fun c_20 => ?_)
          · skip
            refine lv_iload_n hx hb dX8_bytesIn_33 rfl (lv_at hl 1 rfl) ?_
            exact W.iret (v := 2) hx hb hr (fun t ht hW => ⟨⟨2, (), rfl, (by rw [show q_nz z = 2 from by simp [q_nz, q_b, c_2, c_4, c_16, c_18]]; rfl), trivial⟩, hS.F ht⟩) hS.2.2 dX8_bytesIn_34
          · exact absurd (by decide) c_20
      · skip
        refine lv_iconst (v := 0) hx hb dX8_bytesIn_20 (by decide) ?_
        refine lv_goto (tgt := 25) hx hb dX8_bytesIn_21 (by decide) ?_
        refine lv_iadd hx hb dX8_bytesIn_25 ?_
        refine q_top (y := 1) (by decide) ?_
        refine lv_istore_n (lv' := [(1, .int 1), (2, .int 8), (0, .int z)]) hx hb dX8_bytesIn_26 rfl hl (by decide) rfl (fun ls hl => ?_)
        refine lv_iinc (v := 0) (lv' := [(2, .int 0), (1, .int 1), (0, .int z)]) hx hb dX8_bytesIn_27 hl (k := 1) rfl (by decide) (by decide) rfl (fun ls hl => ?_)
        refine lv_goto (tgt := 5) hx hb dX8_bytesIn_30 (by decide) ?_
        refine lv_iload_n hx hb dX8_bytesIn_5 rfl (lv_at hl 0 rfl) ?_
        refine lv_if_lt (tgt := 33) hx hb dX8_bytesIn_6 (by decide) (fun c_21 => ?_) (fun c_21 => ?_)
        · exact absurd c_21 (by decide)
        refine lv_iload_n hx hb dX8_bytesIn_9 rfl (lv_at hl 1 rfl) ?_
        refine lv_iload_n hx hb dX8_bytesIn_10 rfl (lv_at hl 2 rfl) ?_
        refine lv_iload_n hx hb dX8_bytesIn_11 rfl (lv_at hl 0 rfl) ?_
        refine lv_iushr hx hb dX8_bytesIn_12 rfl ?_
        refine lv_sipush (v := 255) hx hb dX8_bytesIn_13 (by decide) ?_
        refine lv_iand hx hb dX8_bytesIn_16 ?_
        refine lv_if_ne (tgt := 24) hx hb dX8_bytesIn_17 (by decide) (fun c_22 => ?_) (fun c_22 => ?_)
        · skip
          refine lv_iconst (v := 1) hx hb dX8_bytesIn_24 (by decide) ?_
          refine lv_iadd hx hb dX8_bytesIn_25 ?_
          refine q_top (y := 2) (by decide) ?_
          refine lv_istore_n (lv' := [(1, .int 2), (2, .int 0), (0, .int z)]) hx hb dX8_bytesIn_26 rfl hl (by decide) rfl (fun ls hl => ?_)
          refine lv_iinc (v := (-8)) (lv' := [(2, .int (-8)), (1, .int 2), (0, .int z)]) hx hb dX8_bytesIn_27 hl (k := 1) rfl (by decide) (by decide) rfl (fun ls hl => ?_)
          refine lv_goto (tgt := 5) hx hb dX8_bytesIn_30 (by decide) ?_
          refine lv_iload_n hx hb dX8_bytesIn_5 rfl (lv_at hl 0 rfl) ?_
          refine lv_if_lt (tgt := 33) hx hb dX8_bytesIn_6 (by decide) (fun c_23 => ?_) (fun c_23 => ?_)
          · skip
            refine lv_iload_n hx hb dX8_bytesIn_33 rfl (lv_at hl 1 rfl) ?_
            exact W.iret (v := 2) hx hb hr (fun t ht hW => ⟨⟨2, (), rfl, (by rw [show q_nz z = 2 from by simp [q_nz, q_b, c_2, c_4, c_16, c_22]]; rfl), trivial⟩, hS.F ht⟩) hS.2.2 dX8_bytesIn_34
          · exact absurd (by decide) c_23
        · skip
          refine lv_iconst (v := 0) hx hb dX8_bytesIn_20 (by decide) ?_
          refine lv_goto (tgt := 25) hx hb dX8_bytesIn_21 (by decide) ?_
          refine lv_iadd hx hb dX8_bytesIn_25 ?_
          refine q_top (y := 1) (by decide) ?_
          refine lv_istore_n (lv' := [(1, .int 1), (2, .int 0), (0, .int z)]) hx hb dX8_bytesIn_26 rfl hl (by decide) rfl (fun ls hl => ?_)
          refine lv_iinc (v := (-8)) (lv' := [(2, .int (-8)), (1, .int 1), (0, .int z)]) hx hb dX8_bytesIn_27 hl (k := 1) rfl (by decide) (by decide) rfl (fun ls hl => ?_)
          refine lv_goto (tgt := 5) hx hb dX8_bytesIn_30 (by decide) ?_
          refine lv_iload_n hx hb dX8_bytesIn_5 rfl (lv_at hl 0 rfl) ?_
          refine lv_if_lt (tgt := 33) hx hb dX8_bytesIn_6 (by decide) (fun c_24 => ?_) (fun c_24 => ?_)
          · skip
            refine lv_iload_n hx hb dX8_bytesIn_33 rfl (lv_at hl 1 rfl) ?_
            exact W.iret (v := 1) hx hb hr (fun t ht hW => ⟨⟨1, (), rfl, (by rw [show q_nz z = 1 from by simp [q_nz, q_b, c_2, c_4, c_16, c_22]]; rfl), trivial⟩, hS.F ht⟩) hS.2.2 dX8_bytesIn_34
          · exact absurd (by decide) c_24
  · skip
    refine lv_iconst (v := 0) hx hb dX8_bytesIn_20 (by decide) ?_
    refine lv_goto (tgt := 25) hx hb dX8_bytesIn_21 (by decide) ?_
    refine lv_iadd hx hb dX8_bytesIn_25 ?_
    refine q_top (y := 0) (by decide) ?_
    refine lv_istore_n (lv' := [(1, .int 0), (2, .int 24), (0, .int z)]) hx hb dX8_bytesIn_26 rfl hl (by decide) rfl (fun ls hl => ?_)
    refine lv_iinc (v := 16) (lv' := [(2, .int 16), (1, .int 0), (0, .int z)]) hx hb dX8_bytesIn_27 hl (k := 1) rfl (by decide) (by decide) rfl (fun ls hl => ?_)
    refine lv_goto (tgt := 5) hx hb dX8_bytesIn_30 (by decide) ?_
    refine lv_iload_n hx hb dX8_bytesIn_5 rfl (lv_at hl 0 rfl) ?_
    refine lv_if_lt (tgt := 33) hx hb dX8_bytesIn_6 (by decide) (fun c_25 => ?_) (fun c_25 => ?_)
    · exact absurd c_25 (by decide)
    refine lv_iload_n hx hb dX8_bytesIn_9 rfl (lv_at hl 1 rfl) ?_
    refine lv_iload_n hx hb dX8_bytesIn_10 rfl (lv_at hl 2 rfl) ?_
    refine lv_iload_n hx hb dX8_bytesIn_11 rfl (lv_at hl 0 rfl) ?_
    refine lv_iushr hx hb dX8_bytesIn_12 rfl ?_
    refine lv_sipush (v := 255) hx hb dX8_bytesIn_13 (by decide) ?_
    refine lv_iand hx hb dX8_bytesIn_16 ?_
    refine lv_if_ne (tgt := 24) hx hb dX8_bytesIn_17 (by decide) (fun c_26 => ?_) (fun c_26 => ?_)
    · skip
      refine lv_iconst (v := 1) hx hb dX8_bytesIn_24 (by decide) ?_
      refine lv_iadd hx hb dX8_bytesIn_25 ?_
      refine q_top (y := 1) (by decide) ?_
      refine lv_istore_n (lv' := [(1, .int 1), (2, .int 16), (0, .int z)]) hx hb dX8_bytesIn_26 rfl hl (by decide) rfl (fun ls hl => ?_)
      refine lv_iinc (v := 8) (lv' := [(2, .int 8), (1, .int 1), (0, .int z)]) hx hb dX8_bytesIn_27 hl (k := 1) rfl (by decide) (by decide) rfl (fun ls hl => ?_)
      refine lv_goto (tgt := 5) hx hb dX8_bytesIn_30 (by decide) ?_
      refine lv_iload_n hx hb dX8_bytesIn_5 rfl (lv_at hl 0 rfl) ?_
      refine lv_if_lt (tgt := 33) hx hb dX8_bytesIn_6 (by decide) (fun c_27 => ?_) (fun c_27 => ?_)
      · exact absurd c_27 (by decide)
      refine lv_iload_n hx hb dX8_bytesIn_9 rfl (lv_at hl 1 rfl) ?_
      refine lv_iload_n hx hb dX8_bytesIn_10 rfl (lv_at hl 2 rfl) ?_
      refine lv_iload_n hx hb dX8_bytesIn_11 rfl (lv_at hl 0 rfl) ?_
      refine lv_iushr hx hb dX8_bytesIn_12 rfl ?_
      refine lv_sipush (v := 255) hx hb dX8_bytesIn_13 (by decide) ?_
      refine lv_iand hx hb dX8_bytesIn_16 ?_
      refine lv_if_ne (tgt := 24) hx hb dX8_bytesIn_17 (by decide) (fun c_28 => ?_) (fun c_28 => ?_)
      · skip
        refine lv_iconst (v := 1) hx hb dX8_bytesIn_24 (by decide) ?_
        refine lv_iadd hx hb dX8_bytesIn_25 ?_
        refine q_top (y := 2) (by decide) ?_
        refine lv_istore_n (lv' := [(1, .int 2), (2, .int 8), (0, .int z)]) hx hb dX8_bytesIn_26 rfl hl (by decide) rfl (fun ls hl => ?_)
        refine lv_iinc (v := 0) (lv' := [(2, .int 0), (1, .int 2), (0, .int z)]) hx hb dX8_bytesIn_27 hl (k := 1) rfl (by decide) (by decide) rfl (fun ls hl => ?_)
        refine lv_goto (tgt := 5) hx hb dX8_bytesIn_30 (by decide) ?_
        refine lv_iload_n hx hb dX8_bytesIn_5 rfl (lv_at hl 0 rfl) ?_
        refine lv_if_lt (tgt := 33) hx hb dX8_bytesIn_6 (by decide) (fun c_29 => ?_) (fun c_29 => ?_)
        · exact absurd c_29 (by decide)
        refine lv_iload_n hx hb dX8_bytesIn_9 rfl (lv_at hl 1 rfl) ?_
        refine lv_iload_n hx hb dX8_bytesIn_10 rfl (lv_at hl 2 rfl) ?_
        refine lv_iload_n hx hb dX8_bytesIn_11 rfl (lv_at hl 0 rfl) ?_
        refine lv_iushr hx hb dX8_bytesIn_12 rfl ?_
        refine lv_sipush (v := 255) hx hb dX8_bytesIn_13 (by decide) ?_
        refine lv_iand hx hb dX8_bytesIn_16 ?_
        refine lv_if_ne (tgt := 24) hx hb dX8_bytesIn_17 (by decide) (fun c_30 => ?_) (fun c_30 => ?_)
        · skip
          refine lv_iconst (v := 1) hx hb dX8_bytesIn_24 (by decide) ?_
          refine lv_iadd hx hb dX8_bytesIn_25 ?_
          refine q_top (y := 3) (by decide) ?_
          refine lv_istore_n (lv' := [(1, .int 3), (2, .int 0), (0, .int z)]) hx hb dX8_bytesIn_26 rfl hl (by decide) rfl (fun ls hl => ?_)
          refine lv_iinc (v := (-8)) (lv' := [(2, .int (-8)), (1, .int 3), (0, .int z)]) hx hb dX8_bytesIn_27 hl (k := 1) rfl (by decide) (by decide) rfl (fun ls hl => ?_)
          refine lv_goto (tgt := 5) hx hb dX8_bytesIn_30 (by decide) ?_
          refine lv_iload_n hx hb dX8_bytesIn_5 rfl (lv_at hl 0 rfl) ?_
          refine lv_if_lt (tgt := 33) hx hb dX8_bytesIn_6 (by decide) (fun c_31 => ?_) (fun c_31 => ?_)
          · skip
            refine lv_iload_n hx hb dX8_bytesIn_33 rfl (lv_at hl 1 rfl) ?_
            exact W.iret (v := 3) hx hb hr (fun t ht hW => ⟨⟨3, (), rfl, (by rw [show q_nz z = 3 from by simp [q_nz, q_b, c_2, c_26, c_28, c_30]]; rfl), trivial⟩, hS.F ht⟩) hS.2.2 dX8_bytesIn_34
          · exact absurd (by decide) c_31
        · skip
          refine lv_iconst (v := 0) hx hb dX8_bytesIn_20 (by decide) ?_
          refine lv_goto (tgt := 25) hx hb dX8_bytesIn_21 (by decide) ?_
          refine lv_iadd hx hb dX8_bytesIn_25 ?_
          refine q_top (y := 2) (by decide) ?_
          refine lv_istore_n (lv' := [(1, .int 2), (2, .int 0), (0, .int z)]) hx hb dX8_bytesIn_26 rfl hl (by decide) rfl (fun ls hl => ?_)
          refine lv_iinc (v := (-8)) (lv' := [(2, .int (-8)), (1, .int 2), (0, .int z)]) hx hb dX8_bytesIn_27 hl (k := 1) rfl (by decide) (by decide) rfl (fun ls hl => ?_)
          refine lv_goto (tgt := 5) hx hb dX8_bytesIn_30 (by decide) ?_
          refine lv_iload_n hx hb dX8_bytesIn_5 rfl (lv_at hl 0 rfl) ?_
          refine lv_if_lt (tgt := 33) hx hb dX8_bytesIn_6 (by decide) (fun c_32 => ?_) (fun c_32 => ?_)
          · skip
            refine lv_iload_n hx hb dX8_bytesIn_33 rfl (lv_at hl 1 rfl) ?_
            exact W.iret (v := 2) hx hb hr (fun t ht hW => ⟨⟨2, (), rfl, (by rw [show q_nz z = 2 from by simp [q_nz, q_b, c_2, c_26, c_28, c_30]]; rfl), trivial⟩, hS.F ht⟩) hS.2.2 dX8_bytesIn_34
          · exact absurd (by decide) c_32
      · skip
        refine lv_iconst (v := 0) hx hb dX8_bytesIn_20 (by decide) ?_
        refine lv_goto (tgt := 25) hx hb dX8_bytesIn_21 (by decide) ?_
        refine lv_iadd hx hb dX8_bytesIn_25 ?_
        refine q_top (y := 1) (by decide) ?_
        refine lv_istore_n (lv' := [(1, .int 1), (2, .int 8), (0, .int z)]) hx hb dX8_bytesIn_26 rfl hl (by decide) rfl (fun ls hl => ?_)
        refine lv_iinc (v := 0) (lv' := [(2, .int 0), (1, .int 1), (0, .int z)]) hx hb dX8_bytesIn_27 hl (k := 1) rfl (by decide) (by decide) rfl (fun ls hl => ?_)
        refine lv_goto (tgt := 5) hx hb dX8_bytesIn_30 (by decide) ?_
        refine lv_iload_n hx hb dX8_bytesIn_5 rfl (lv_at hl 0 rfl) ?_
        refine lv_if_lt (tgt := 33) hx hb dX8_bytesIn_6 (by decide) (fun c_33 => ?_) (fun c_33 => ?_)
        · exact absurd c_33 (by decide)
        refine lv_iload_n hx hb dX8_bytesIn_9 rfl (lv_at hl 1 rfl) ?_
        refine lv_iload_n hx hb dX8_bytesIn_10 rfl (lv_at hl 2 rfl) ?_
        refine lv_iload_n hx hb dX8_bytesIn_11 rfl (lv_at hl 0 rfl) ?_
        refine lv_iushr hx hb dX8_bytesIn_12 rfl ?_
        refine lv_sipush (v := 255) hx hb dX8_bytesIn_13 (by decide) ?_
        refine lv_iand hx hb dX8_bytesIn_16 ?_
        refine lv_if_ne (tgt := 24) hx hb dX8_bytesIn_17 (by decide) (fun c_34 => ?_) (fun c_34 => ?_)
        · skip
          refine lv_iconst (v := 1) hx hb dX8_bytesIn_24 (by decide) ?_
          refine lv_iadd hx hb dX8_bytesIn_25 ?_
          refine q_top (y := 2) (by decide) ?_
          refine lv_istore_n (lv' := [(1, .int 2), (2, .int 0), (0, .int z)]) hx hb dX8_bytesIn_26 rfl hl (by decide) rfl (fun ls hl => ?_)
          refine lv_iinc (v := (-8)) (lv' := [(2, .int (-8)), (1, .int 2), (0, .int z)]) hx hb dX8_bytesIn_27 hl (k := 1) rfl (by decide) (by decide) rfl (fun ls hl => ?_)
          refine lv_goto (tgt := 5) hx hb dX8_bytesIn_30 (by decide) ?_
          refine lv_iload_n hx hb dX8_bytesIn_5 rfl (lv_at hl 0 rfl) ?_
          refine lv_if_lt (tgt := 33) hx hb dX8_bytesIn_6 (by decide) (fun c_35 => ?_) (fun c_35 => ?_)
          · skip
            refine lv_iload_n hx hb dX8_bytesIn_33 rfl (lv_at hl 1 rfl) ?_
            exact W.iret (v := 2) hx hb hr (fun t ht hW => ⟨⟨2, (), rfl, (by rw [show q_nz z = 2 from by simp [q_nz, q_b, c_2, c_26, c_28, c_34]]; rfl), trivial⟩, hS.F ht⟩) hS.2.2 dX8_bytesIn_34
          · exact absurd (by decide) c_35
        · skip
          refine lv_iconst (v := 0) hx hb dX8_bytesIn_20 (by decide) ?_
          refine lv_goto (tgt := 25) hx hb dX8_bytesIn_21 (by decide) ?_
          refine lv_iadd hx hb dX8_bytesIn_25 ?_
          refine q_top (y := 1) (by decide) ?_
          refine lv_istore_n (lv' := [(1, .int 1), (2, .int 0), (0, .int z)]) hx hb dX8_bytesIn_26 rfl hl (by decide) rfl (fun ls hl => ?_)
          refine lv_iinc (v := (-8)) (lv' := [(2, .int (-8)), (1, .int 1), (0, .int z)]) hx hb dX8_bytesIn_27 hl (k := 1) rfl (by decide) (by decide) rfl (fun ls hl => ?_)
          refine lv_goto (tgt := 5) hx hb dX8_bytesIn_30 (by decide) ?_
          refine lv_iload_n hx hb dX8_bytesIn_5 rfl (lv_at hl 0 rfl) ?_
          refine lv_if_lt (tgt := 33) hx hb dX8_bytesIn_6 (by decide) (fun c_36 => ?_) (fun c_36 => ?_)
          · skip
            refine lv_iload_n hx hb dX8_bytesIn_33 rfl (lv_at hl 1 rfl) ?_
            exact W.iret (v := 1) hx hb hr (fun t ht hW => ⟨⟨1, (), rfl, (by rw [show q_nz z = 1 from by simp [q_nz, q_b, c_2, c_26, c_28, c_34]]; rfl), trivial⟩, hS.F ht⟩) hS.2.2 dX8_bytesIn_34
          · exact absurd (by decide) c_36
    · skip
      refine lv_iconst (v := 0) hx hb dX8_bytesIn_20 (by decide) ?_
      refine lv_goto (tgt := 25) hx hb dX8_bytesIn_21 (by decide) ?_
      refine lv_iadd hx hb dX8_bytesIn_25 ?_
      refine q_top (y := 0) (by decide) ?_
      refine lv_istore_n (lv' := [(1, .int 0), (2, .int 16), (0, .int z)]) hx hb dX8_bytesIn_26 rfl hl (by decide) rfl (fun ls hl => ?_)
      refine lv_iinc (v := 8) (lv' := [(2, .int 8), (1, .int 0), (0, .int z)]) hx hb dX8_bytesIn_27 hl (k := 1) rfl (by decide) (by decide) rfl (fun ls hl => ?_)
      refine lv_goto (tgt := 5) hx hb dX8_bytesIn_30 (by decide) ?_
      refine lv_iload_n hx hb dX8_bytesIn_5 rfl (lv_at hl 0 rfl) ?_
      refine lv_if_lt (tgt := 33) hx hb dX8_bytesIn_6 (by decide) (fun c_37 => ?_) (fun c_37 => ?_)
      · exact absurd c_37 (by decide)
      refine lv_iload_n hx hb dX8_bytesIn_9 rfl (lv_at hl 1 rfl) ?_
      refine lv_iload_n hx hb dX8_bytesIn_10 rfl (lv_at hl 2 rfl) ?_
      refine lv_iload_n hx hb dX8_bytesIn_11 rfl (lv_at hl 0 rfl) ?_
      refine lv_iushr hx hb dX8_bytesIn_12 rfl ?_
      refine lv_sipush (v := 255) hx hb dX8_bytesIn_13 (by decide) ?_
      refine lv_iand hx hb dX8_bytesIn_16 ?_
      refine lv_if_ne (tgt := 24) hx hb dX8_bytesIn_17 (by decide) (fun c_38 => ?_) (fun c_38 => ?_)
      · skip
        refine lv_iconst (v := 1) hx hb dX8_bytesIn_24 (by decide) ?_
        refine lv_iadd hx hb dX8_bytesIn_25 ?_
        refine q_top (y := 1) (by decide) ?_
        refine lv_istore_n (lv' := [(1, .int 1), (2, .int 8), (0, .int z)]) hx hb dX8_bytesIn_26 rfl hl (by decide) rfl (fun ls hl => ?_)
        refine lv_iinc (v := 0) (lv' := [(2, .int 0), (1, .int 1), (0, .int z)]) hx hb dX8_bytesIn_27 hl (k := 1) rfl (by decide) (by decide) rfl (fun ls hl => ?_)
        refine lv_goto (tgt := 5) hx hb dX8_bytesIn_30 (by decide) ?_
        refine lv_iload_n hx hb dX8_bytesIn_5 rfl (lv_at hl 0 rfl) ?_
        refine lv_if_lt (tgt := 33) hx hb dX8_bytesIn_6 (by decide) (fun c_39 => ?_) (fun c_39 => ?_)
        · exact absurd c_39 (by decide)
        refine lv_iload_n hx hb dX8_bytesIn_9 rfl (lv_at hl 1 rfl) ?_
        refine lv_iload_n hx hb dX8_bytesIn_10 rfl (lv_at hl 2 rfl) ?_
        refine lv_iload_n hx hb dX8_bytesIn_11 rfl (lv_at hl 0 rfl) ?_
        refine lv_iushr hx hb dX8_bytesIn_12 rfl ?_
        refine lv_sipush (v := 255) hx hb dX8_bytesIn_13 (by decide) ?_
        refine lv_iand hx hb dX8_bytesIn_16 ?_
        refine lv_if_ne (tgt := 24) hx hb dX8_bytesIn_17 (by decide) (fun c_40 => ?_) (fun c_40 => ?_)
        · skip
          refine lv_iconst (v := 1) hx hb dX8_bytesIn_24 (by decide) ?_
          refine lv_iadd hx hb dX8_bytesIn_25 ?_
          refine q_top (y := 2) (by decide) ?_
          refine lv_istore_n (lv' := [(1, .int 2), (2, .int 0), (0, .int z)]) hx hb dX8_bytesIn_26 rfl hl (by decide) rfl (fun ls hl => ?_)
          refine lv_iinc (v := (-8)) (lv' := [(2, .int (-8)), (1, .int 2), (0, .int z)]) hx hb dX8_bytesIn_27 hl (k := 1) rfl (by decide) (by decide) rfl (fun ls hl => ?_)
          refine lv_goto (tgt := 5) hx hb dX8_bytesIn_30 (by decide) ?_
          refine lv_iload_n hx hb dX8_bytesIn_5 rfl (lv_at hl 0 rfl) ?_
          refine lv_if_lt (tgt := 33) hx hb dX8_bytesIn_6 (by decide) (fun c_41 => ?_) (fun c_41 => ?_)
          · skip
            refine lv_iload_n hx hb dX8_bytesIn_33 rfl (lv_at hl 1 rfl) ?_
            exact W.iret (v := 2) hx hb hr (fun t ht hW => ⟨⟨2, (), rfl, (by rw [show q_nz z = 2 from by simp [q_nz, q_b, c_2, c_26, c_38, c_40]]; rfl), trivial⟩, hS.F ht⟩) hS.2.2 dX8_bytesIn_34
          · exact absurd (by decide) c_41
        · skip
          refine lv_iconst (v := 0) hx hb dX8_bytesIn_20 (by decide) ?_
          refine lv_goto (tgt := 25) hx hb dX8_bytesIn_21 (by decide) ?_
          refine lv_iadd hx hb dX8_bytesIn_25 ?_
          refine q_top (y := 1) (by decide) ?_
          refine lv_istore_n (lv' := [(1, .int 1), (2, .int 0), (0, .int z)]) hx hb dX8_bytesIn_26 rfl hl (by decide) rfl (fun ls hl => ?_)
          refine lv_iinc (v := (-8)) (lv' := [(2, .int (-8)), (1, .int 1), (0, .int z)]) hx hb dX8_bytesIn_27 hl (k := 1) rfl (by decide) (by decide) rfl (fun ls hl => ?_)
          refine lv_goto (tgt := 5) hx hb dX8_bytesIn_30 (by decide) ?_
          refine lv_iload_n hx hb dX8_bytesIn_5 rfl (lv_at hl 0 rfl) ?_
          refine lv_if_lt (tgt := 33) hx hb dX8_bytesIn_6 (by decide) (fun c_42 => ?_) (fun c_42 => ?_)
          · skip
            refine lv_iload_n hx hb dX8_bytesIn_33 rfl (lv_at hl 1 rfl) ?_
            exact W.iret (v := 1) hx hb hr (fun t ht hW => ⟨⟨1, (), rfl, (by rw [show q_nz z = 1 from by simp [q_nz, q_b, c_2, c_26, c_38, c_40]]; rfl), trivial⟩, hS.F ht⟩) hS.2.2 dX8_bytesIn_34
          · exact absurd (by decide) c_42
      · skip
        refine lv_iconst (v := 0) hx hb dX8_bytesIn_20 (by decide) ?_
        refine lv_goto (tgt := 25) hx hb dX8_bytesIn_21 (by decide) ?_
        refine lv_iadd hx hb dX8_bytesIn_25 ?_
        refine q_top (y := 0) (by decide) ?_
        refine lv_istore_n (lv' := [(1, .int 0), (2, .int 8), (0, .int z)]) hx hb dX8_bytesIn_26 rfl hl (by decide) rfl (fun ls hl => ?_)
        refine lv_iinc (v := 0) (lv' := [(2, .int 0), (1, .int 0), (0, .int z)]) hx hb dX8_bytesIn_27 hl (k := 1) rfl (by decide) (by decide) rfl (fun ls hl => ?_)
        refine lv_goto (tgt := 5) hx hb dX8_bytesIn_30 (by decide) ?_
        refine lv_iload_n hx hb dX8_bytesIn_5 rfl (lv_at hl 0 rfl) ?_
        refine lv_if_lt (tgt := 33) hx hb dX8_bytesIn_6 (by decide) (fun c_43 => ?_) (fun c_43 => ?_)
        · exact absurd c_43 (by decide)
        refine lv_iload_n hx hb dX8_bytesIn_9 rfl (lv_at hl 1 rfl) ?_
        refine lv_iload_n hx hb dX8_bytesIn_10 rfl (lv_at hl 2 rfl) ?_
        refine lv_iload_n hx hb dX8_bytesIn_11 rfl (lv_at hl 0 rfl) ?_
        refine lv_iushr hx hb dX8_bytesIn_12 rfl ?_
        refine lv_sipush (v := 255) hx hb dX8_bytesIn_13 (by decide) ?_
        refine lv_iand hx hb dX8_bytesIn_16 ?_
        refine lv_if_ne (tgt := 24) hx hb dX8_bytesIn_17 (by decide) (fun c_44 => ?_) (fun c_44 => ?_)
        · skip
          refine lv_iconst (v := 1) hx hb dX8_bytesIn_24 (by decide) ?_
          refine lv_iadd hx hb dX8_bytesIn_25 ?_
          refine q_top (y := 1) (by decide) ?_
          refine lv_istore_n (lv' := [(1, .int 1), (2, .int 0), (0, .int z)]) hx hb dX8_bytesIn_26 rfl hl (by decide) rfl (fun ls hl => ?_)
          refine lv_iinc (v := (-8)) (lv' := [(2, .int (-8)), (1, .int 1), (0, .int z)]) hx hb dX8_bytesIn_27 hl (k := 1) rfl (by decide) (by decide) rfl (fun ls hl => ?_)
          refine lv_goto (tgt := 5) hx hb dX8_bytesIn_30 (by decide) ?_
          refine lv_iload_n hx hb dX8_bytesIn_5 rfl (lv_at hl 0 rfl) ?_
          refine lv_if_lt (tgt := 33) hx hb dX8_bytesIn_6 (by decide) (fun c_45 => ?_) (fun c_45 => ?_)
          · skip
            refine lv_iload_n hx hb dX8_bytesIn_33 rfl (lv_at hl 1 rfl) ?_
            exact W.iret (v := 1) hx hb hr (fun t ht hW => ⟨⟨1, (), rfl, (by rw [show q_nz z = 1 from by simp [q_nz, q_b, c_2, c_26, c_38, c_44]]; rfl), trivial⟩, hS.F ht⟩) hS.2.2 dX8_bytesIn_34
          · exact absurd (by decide) c_45
        · skip
          refine lv_iconst (v := 0) hx hb dX8_bytesIn_20 (by decide) ?_
          refine lv_goto (tgt := 25) hx hb dX8_bytesIn_21 (by decide) ?_
          refine lv_iadd hx hb dX8_bytesIn_25 ?_
          refine q_top (y := 0) (by decide) ?_
          refine lv_istore_n (lv' := [(1, .int 0), (2, .int 0), (0, .int z)]) hx hb dX8_bytesIn_26 rfl hl (by decide) rfl (fun ls hl => ?_)
          refine lv_iinc (v := (-8)) (lv' := [(2, .int (-8)), (1, .int 0), (0, .int z)]) hx hb dX8_bytesIn_27 hl (k := 1) rfl (by decide) (by decide) rfl (fun ls hl => ?_)
          refine lv_goto (tgt := 5) hx hb dX8_bytesIn_30 (by decide) ?_
          refine lv_iload_n hx hb dX8_bytesIn_5 rfl (lv_at hl 0 rfl) ?_
          refine lv_if_lt (tgt := 33) hx hb dX8_bytesIn_6 (by decide) (fun c_46 => ?_) (fun c_46 => ?_)
          · skip
            refine lv_iload_n hx hb dX8_bytesIn_33 rfl (lv_at hl 1 rfl) ?_
            exact W.iret (v := 0) hx hb hr (fun t ht hW => ⟨⟨0, (), rfl, (by rw [show q_nz z = 0 from by simp [q_nz, q_b, c_2, c_26, c_38, c_44]]; rfl), trivial⟩, hS.F ht⟩) hS.2.2 dX8_bytesIn_34
          · exact absurd (by decide) c_46

def wq_X8_add : List Cond := .code yX8_add cX8_add 4 none :: ([.fieldLink RX8 15 "HubTree$Tape" "length" "I", .fieldLink RX8 9 "HubTree$Tape" "bytes" "[C"] ++ wsX80)
theorem iq_X8_add_8 : ∀ w ∈ wsX80, w ∈ wq_X8_add := fun _ h => List.mem_cons_of_mem _ (List.mem_append_right _ h)
set_option maxHeartbeats 4000000 in
set_option maxRecDepth 100000 in
theorem c_X8_add (l : Launch) (dC : Nat → ClassId) (dI : Nat → Nat → Nat) (h : Nat) (r : Nat) (c1 : ClassId) (f1 : Nat → Int32) (n : Nat) (z : Int32) (A : Nat → Prop) (hn : n ≤ 16) : Met l yX8_add wq_X8_add ({ frames := 0, cells := 0, slots := 0, locals := 0 }) (va_Pc [.ref h, .int z] (q_W (dC, dI) A [(h, .inr (8, [.ref r, .int (nI n)])), (r, .inl (c1, 240, .inl f1))] [(c1, .char)])) (va_Qv (fun u : Nat → Int32 => True) (fun (u : Nat → Int32) t => q_B (dC, dI) A [(h, .inr (8, [.ref r, .int (nI (n + q_nz z))])), (r, .inl (c1, 240, .inl u))] [] t) A) 0 0 A := by
  refine Met.ofW (cc := cX8_add) (maxL := 4) (ret := none) (by decide) rfl ?_
  intro p e s m args below meth c s₁ B hml hv
  obtain ⟨rfl, hP, hK, hD, hA⟩ := hv
  have hx := B.exec
  have hb := B.bytes
  have hr := B.returns
  have hts := atoms_spec (ws := wq_X8_add) B.pre
  have hown : s.vm.findClass RX8 = some m.cls := findClass_of_methodNamed B.named
  have hlocks := B.notSynchronized
  have hS : va_S A s.heap s.heap [] := va_S.rf
  have hl := lv_entry ([.ref h, .int z]) (n := 4) (Nat.le_of_ble_eq_true rfl)
  rw [lg_entry_eq]
  generalize (lg_sl ([.ref h, .int z]) ++ List.replicate (4 - (lg_sl ([.ref h, .int z])).length) Slot.unset).toArray = ls at hl ⊢
  have hl : lv_has ls 4 [(0, .ref h), (1, .int z)] := hl
  refine lv_bipush (v := 24) hx hb dX8_add_0 (by decide) ?_
  refine lv_istore_n (lv' := [(2, .int 24), (0, .ref h), (1, .int z)]) hx hb dX8_add_2 rfl hl (by decide) rfl (fun ls hl => ?_)
  refine lv_iload_n hx hb dX8_add_3 rfl (lv_at hl 0 rfl) ?_
  refine lv_if_lt (tgt := 58) hx hb dX8_add_4 (by decide) (fun c_1 => ?_) (fun c_1 => ?_)
  · exact absurd c_1 (by decide)
  refine lv_iload_n hx hb dX8_add_7 rfl (lv_at hl 2 rfl) ?_
  refine lv_iload_n hx hb dX8_add_8 rfl (lv_at hl 0 rfl) ?_
  refine lv_iushr hx hb dX8_add_9 rfl ?_
  refine lv_sipush (v := 255) hx hb dX8_add_10 (by decide) ?_
  refine lv_iand hx hb dX8_add_13 ?_
  refine lv_istore_n (lv' := [(3, .int (((z).toUInt32 >>> ((24 : Int32).toUInt32 &&& Int32.toUInt32 31)).toInt32 &&& 255)), (2, .int 24), (0, .ref h), (1, .int z)]) hx hb dX8_add_14 rfl hl (by decide) rfl (fun ls hl => ?_)
  refine lv_iload_n hx hb dX8_add_15 rfl (lv_at hl 0 rfl) ?_
  refine lv_if_eq (tgt := 52) hx hb dX8_add_16 (by decide) (fun c_2 => ?_) (fun c_2 => ?_)
  · skip
    refine lv_iinc (v := 16) (lv' := [(2, .int 16), (3, .int (((z).toUInt32 >>> ((24 : Int32).toUInt32 &&& Int32.toUInt32 31)).toInt32 &&& 255)), (0, .ref h), (1, .int z)]) hx hb dX8_add_52 hl (k := 1) rfl (by decide) (by decide) rfl (fun ls hl => ?_)
    refine lv_goto (tgt := 3) hx hb dX8_add_55 (by decide) ?_
    refine lv_iload_n hx hb dX8_add_3 rfl (lv_at hl 0 rfl) ?_
    refine lv_if_lt (tgt := 58) hx hb dX8_add_4 (by decide) (fun c_3 => ?_) (fun c_3 => ?_)
    · exact absurd c_3 (by decide)
    refine lv_iload_n hx hb dX8_add_7 rfl (lv_at hl 3 rfl) ?_
    refine lv_iload_n hx hb dX8_add_8 rfl (lv_at hl 0 rfl) ?_
    refine lv_iushr hx hb dX8_add_9 rfl ?_
    refine lv_sipush (v := 255) hx hb dX8_add_10 (by decide) ?_
    refine lv_iand hx hb dX8_add_13 ?_
    refine lv_istore_n (lv' := [(3, .int (((z).toUInt32 >>> ((16 : Int32).toUInt32 &&& Int32.toUInt32 31)).toInt32 &&& 255)), (2, .int 16), (0, .ref h), (1, .int z)]) hx hb dX8_add_14 rfl hl (by decide) rfl (fun ls hl => ?_)
    refine lv_iload_n hx hb dX8_add_15 rfl (lv_at hl 0 rfl) ?_
    refine lv_if_eq (tgt := 52) hx hb dX8_add_16 (by decide) (fun c_4 => ?_) (fun c_4 => ?_)
    · skip
      refine lv_iinc (v := 8) (lv' := [(2, .int 8), (3, .int (((z).toUInt32 >>> ((16 : Int32).toUInt32 &&& Int32.toUInt32 31)).toInt32 &&& 255)), (0, .ref h), (1, .int z)]) hx hb dX8_add_52 hl (k := 1) rfl (by decide) (by decide) rfl (fun ls hl => ?_)
      refine lv_goto (tgt := 3) hx hb dX8_add_55 (by decide) ?_
      refine lv_iload_n hx hb dX8_add_3 rfl (lv_at hl 0 rfl) ?_
      refine lv_if_lt (tgt := 58) hx hb dX8_add_4 (by decide) (fun c_5 => ?_) (fun c_5 => ?_)
      · exact absurd c_5 (by decide)
      refine lv_iload_n hx hb dX8_add_7 rfl (lv_at hl 3 rfl) ?_
      refine lv_iload_n hx hb dX8_add_8 rfl (lv_at hl 0 rfl) ?_
      refine lv_iushr hx hb dX8_add_9 rfl ?_
      refine lv_sipush (v := 255) hx hb dX8_add_10 (by decide) ?_
      refine lv_iand hx hb dX8_add_13 ?_
      refine lv_istore_n (lv' := [(3, .int (((z).toUInt32 >>> ((8 : Int32).toUInt32 &&& Int32.toUInt32 31)).toInt32 &&& 255)), (2, .int 8), (0, .ref h), (1, .int z)]) hx hb dX8_add_14 rfl hl (by decide) rfl (fun ls hl => ?_)
      refine lv_iload_n hx hb dX8_add_15 rfl (lv_at hl 0 rfl) ?_
      refine lv_if_eq (tgt := 52) hx hb dX8_add_16 (by decide) (fun c_6 => ?_) (fun c_6 => ?_)
      · skip
        refine lv_iinc (v := 0) (lv' := [(2, .int 0), (3, .int (((z).toUInt32 >>> ((8 : Int32).toUInt32 &&& Int32.toUInt32 31)).toInt32 &&& 255)), (0, .ref h), (1, .int z)]) hx hb dX8_add_52 hl (k := 1) rfl (by decide) (by decide) rfl (fun ls hl => ?_)
        refine lv_goto (tgt := 3) hx hb dX8_add_55 (by decide) ?_
        refine lv_iload_n hx hb dX8_add_3 rfl (lv_at hl 0 rfl) ?_
        refine lv_if_lt (tgt := 58) hx hb dX8_add_4 (by decide) (fun c_7 => ?_) (fun c_7 => ?_)
        · exact absurd c_7 (by decide)
        refine lv_iload_n hx hb dX8_add_7 rfl (lv_at hl 3 rfl) ?_
        refine lv_iload_n hx hb dX8_add_8 rfl (lv_at hl 0 rfl) ?_
        refine lv_iushr hx hb dX8_add_9 rfl ?_
        refine lv_sipush (v := 255) hx hb dX8_add_10 (by decide) ?_
        refine lv_iand hx hb dX8_add_13 ?_
        refine lv_istore_n (lv' := [(3, .int (((z).toUInt32 >>> ((0 : Int32).toUInt32 &&& Int32.toUInt32 31)).toInt32 &&& 255)), (2, .int 0), (0, .ref h), (1, .int z)]) hx hb dX8_add_14 rfl hl (by decide) rfl (fun ls hl => ?_)
        refine lv_iload_n hx hb dX8_add_15 rfl (lv_at hl 0 rfl) ?_
        refine lv_if_eq (tgt := 52) hx hb dX8_add_16 (by decide) (fun c_8 => ?_) (fun c_8 => ?_)
        · skip
          refine lv_iinc (v := (-8)) (lv' := [(2, .int (-8)), (3, .int (((z).toUInt32 >>> ((0 : Int32).toUInt32 &&& Int32.toUInt32 31)).toInt32 &&& 255)), (0, .ref h), (1, .int z)]) hx hb dX8_add_52 hl (k := 1) rfl (by decide) (by decide) rfl (fun ls hl => ?_)
          refine lv_goto (tgt := 3) hx hb dX8_add_55 (by decide) ?_
          refine lv_iload_n hx hb dX8_add_3 rfl (lv_at hl 0 rfl) ?_
          refine lv_if_lt (tgt := 58) hx hb dX8_add_4 (by decide) (fun c_9 => ?_) (fun c_9 => ?_)
          · skip
            have e9 : n = n + q_nz z := by
              have h9 : q_nz z = 0 := by simp [q_nz, q_b, c_2, c_4, c_6, c_8]
              omega
            rw [e9] at hP hD
            have hP9 := hP.sub (ws' := [(h, .inr (8, [.ref r, .int (nI (n + q_nz z))])), (r, .inl (c1, 240, .inl f1))]) [0, 1] rfl
            have hD9 := hD.sub (ws' := [(h, .inr (8, [.ref r, .int (nI (n + q_nz z))])), (r, .inl (c1, 240, .inl f1))]) [0, 1] (by decide) rfl
            have hK9 := hK.sub (tys' := []) [] rfl
            exact W.vret hx hb hr (fun t ht hW => ⟨⟨f1, rfl, trivial, by rw [ht]; exact hP9, va_K.moved hW.alike hK9, hD9⟩, hS.F ht⟩) hS.2.2 dX8_add_58
          · exact absurd (by decide) c_9
        · skip
          refine lv_aload_n hx hb dX8_add_19 rfl (lv_at hl 2 rfl) ?_
          refine va_get (D := (dC, dI)) (ci := 8) (v := .int (nI n)) (C := RX8) (T := TX8) (N := 2) hx hb hts iq_X8_add_8 hown hK hP 0 rfl rfl 1 (by decide) (hts (.fieldLink RX8 15 "HubTree$Tape" "length" "I") (List.mem_of_getElem? (i := 1) rfl)) (fun _ h9 => h9) rfl dX8_add_20 ?_
          refine lv_aload_n hx hb dX8_add_23 rfl (lv_at hl 2 rfl) ?_
          refine va_get (D := (dC, dI)) (ci := 8) (v := .ref r) (C := RX8) (T := TX8) (N := 2) hx hb hts iq_X8_add_8 hown hK hP 0 rfl rfl 0 (by decide) (hts (.fieldLink RX8 9 "HubTree$Tape" "bytes" "[C") (List.mem_of_getElem? (i := 2) rfl)) (fun _ h9 => h9) rfl dX8_add_24 ?_
          refine va_alen hx hb hK hP 1 0 rfl rfl (v := 240) rfl dX8_add_27 ?_
          refine lv_icmp_ge (tgt := 52) hx hb dX8_add_28 (by decide) (fun c_10 => ?_) (fun c_10 => ?_)
          · exact absurd c_10 (q_n240 (by omega))
          refine lv_aload_n hx hb dX8_add_31 rfl (lv_at hl 2 rfl) ?_
          refine va_get (D := (dC, dI)) (ci := 8) (v := .ref r) (C := RX8) (T := TX8) (N := 2) hx hb hts iq_X8_add_8 hown hK hP 0 rfl rfl 0 (by decide) (hts (.fieldLink RX8 9 "HubTree$Tape" "bytes" "[C") (List.mem_of_getElem? (i := 2) rfl)) (fun _ h9 => h9) rfl dX8_add_32 ?_
          refine lv_aload_n hx hb dX8_add_35 rfl (lv_at hl 2 rfl) ?_
          refine va_get (D := (dC, dI)) (ci := 8) (v := .int (nI n)) (C := RX8) (T := TX8) (N := 2) hx hb hts iq_X8_add_8 hown hK hP 0 rfl rfl 1 (by decide) (hts (.fieldLink RX8 15 "HubTree$Tape" "length" "I") (List.mem_of_getElem? (i := 1) rfl)) (fun _ h9 => h9) rfl dX8_add_36 ?_
          refine lv_iload_n hx hb dX8_add_39 rfl (lv_at hl 0 rfl) ?_
          refine lv_i2c hx hb dX8_add_40 rfl ?_
          refine va_cast hx hb hK hP hD hS 1 0 rfl rfl (i := (nI n)) (x := (((((z).toUInt32 >>> ((0 : Int32).toUInt32 &&& Int32.toUInt32 31)).toInt32 &&& 255)).toUInt32 % 65536).toInt32) (vp_in_nI (show n < 240 by omega) (by decide)) dX8_add_41 (fun H locs hP hD hS => ?_)
          obtain ⟨f_11, hP, hD⟩ : ∃ f9 : Nat → Int32, va_P (dC, dI) vwCl [(h, .inr (8, [.ref r, .int (nI n)])), (r, .inl (c1, 240, .inl f9))] H ∧ va_D A [(h, .inr (8, [.ref r, .int (nI n)])), (r, .inl (c1, 240, .inl f9))] := ⟨_, hP, hD⟩
          refine lv_aload_n hx hb dX8_add_42 rfl (lv_at hl 2 rfl) ?_
          refine lv_dup hx hb dX8_add_43 rfl ?_
          refine va_get (D := (dC, dI)) (ci := 8) (v := .int (nI n)) (C := RX8) (T := TX8) (N := 2) hx hb hts iq_X8_add_8 hown hK hP 0 rfl rfl 1 (by decide) (hts (.fieldLink RX8 15 "HubTree$Tape" "length" "I") (List.mem_of_getElem? (i := 1) rfl)) (fun _ h9 => h9) rfl dX8_add_44 ?_
          refine lv_iconst (v := 1) hx hb dX8_add_47 (by decide) ?_
          refine lv_iadd hx hb dX8_add_48 ?_
          refine q_top (y := nI (n + 1)) (nI_1 n) ?_
          refine va_put (D := (dC, dI)) (ci := 8) (v := .int (nI (n + 1))) (ty := .int) (C := RX8) (T := TX8) (N := 2) hx hb hts iq_X8_add_8 tyX8 tyX8_ok nmX8 hown hK hP hD hS 0 rfl rfl 1 (by decide) (hts (.fieldLink RX8 15 "HubTree$Tape" "length" "I") (List.mem_of_getElem? (i := 1) rfl)) (fun _ h9 => h9) rfl (by decide +kernel) rfl rfl (Nat.le_of_ble_eq_true rfl) dX8_add_49 (fun H locs hP hD hS => ?_)
          have hP : va_P (dC, dI) vwCl [(h, .inr (8, [.ref r, .int (nI (n + 1))])), (r, .inl (c1, 240, .inl f_11))] H := hP
          have hD : va_D A [(h, .inr (8, [.ref r, .int (nI (n + 1))])), (r, .inl (c1, 240, .inl f_11))] := hD
          refine lv_iinc (v := (-8)) (lv' := [(2, .int (-8)), (3, .int (((z).toUInt32 >>> ((0 : Int32).toUInt32 &&& Int32.toUInt32 31)).toInt32 &&& 255)), (0, .ref h), (1, .int z)]) hx hb dX8_add_52 hl (k := 1) rfl (by decide) (by decide) rfl (fun ls hl => ?_)
          refine lv_goto (tgt := 3) hx hb dX8_add_55 (by decide) ?_
          refine lv_iload_n hx hb dX8_add_3 rfl (lv_at hl 0 rfl) ?_
          refine lv_if_lt (tgt := 58) hx hb dX8_add_4 (by decide) (fun c_12 => ?_) (fun c_12 => ?_)
          · skip
            have e9 : (n + 1) = n + q_nz z := by
              have h9 : q_nz z = 1 := by simp [q_nz, q_b, c_2, c_4, c_6, c_8]
              omega
            rw [e9] at hP hD
            have hP9 := hP.sub (ws' := [(h, .inr (8, [.ref r, .int (nI (n + q_nz z))])), (r, .inl (c1, 240, .inl f_11))]) [0, 1] rfl
            have hD9 := hD.sub (ws' := [(h, .inr (8, [.ref r, .int (nI (n + q_nz z))])), (r, .inl (c1, 240, .inl f_11))]) [0, 1] (by decide) rfl
            have hK9 := hK.sub (tys' := []) [] rfl
            exact W.vret hx hb hr (fun t ht hW => ⟨⟨f_11, rfl, trivial, by rw [ht]; exact hP9, va_K.moved hW.alike hK9, hD9⟩, hS.F ht⟩) hS.2.2 dX8_add_58
          · exact absurd (by decide) c_12
      · skip
        refine lv_aload_n hx hb dX8_add_19 rfl (lv_at hl 2 rfl) ?_
        refine va_get (D := (dC, dI)) (ci := 8) (v := .int (nI n)) (C := RX8) (T := TX8) (N := 2) hx hb hts iq_X8_add_8 hown hK hP 0 rfl rfl 1 (by decide) (hts (.fieldLink RX8 15 "HubTree$Tape" "length" "I") (List.mem_of_getElem? (i := 1) rfl)) (fun _ h9 => h9) rfl dX8_add_20 ?_
        refine lv_aload_n hx hb dX8_add_23 rfl (lv_at hl 2 rfl) ?_
        refine va_get (D := (dC, dI)) (ci := 8) (v := .ref r) (C := RX8) (T := TX8) (N := 2) hx hb hts iq_X8_add_8 hown hK hP 0 rfl rfl 0 (by decide) (hts (.fieldLink RX8 9 "HubTree$Tape" "bytes" "[C") (List.mem_of_getElem? (i := 2) rfl)) (fun _ h9 => h9) rfl dX8_add_24 ?_
        refine va_alen hx hb hK hP 1 0 rfl rfl (v := 240) rfl dX8_add_27 ?_
        refine lv_icmp_ge (tgt := 52) hx hb dX8_add_28 (by decide) (fun c_13 => ?_) (fun c_13 => ?_)
        · exact absurd c_13 (q_n240 (by omega))
        refine lv_aload_n hx hb dX8_add_31 rfl (lv_at hl 2 rfl) ?_
        refine va_get (D := (dC, dI)) (ci := 8) (v := .ref r) (C := RX8) (T := TX8) (N := 2) hx hb hts iq_X8_add_8 hown hK hP 0 rfl rfl 0 (by decide) (hts (.fieldLink RX8 9 "HubTree$Tape" "bytes" "[C") (List.mem_of_getElem? (i := 2) rfl)) (fun _ h9 => h9) rfl dX8_add_32 ?_
        refine lv_aload_n hx hb dX8_add_35 rfl (lv_at hl 2 rfl) ?_
        refine va_get (D := (dC, dI)) (ci := 8) (v := .int (nI n)) (C := RX8) (T := TX8) (N := 2) hx hb hts iq_X8_add_8 hown hK hP 0 rfl rfl 1 (by decide) (hts (.fieldLink RX8 15 "HubTree$Tape" "length" "I") (List.mem_of_getElem? (i := 1) rfl)) (fun _ h9 => h9) rfl dX8_add_36 ?_
        refine lv_iload_n hx hb dX8_add_39 rfl (lv_at hl 0 rfl) ?_
        refine lv_i2c hx hb dX8_add_40 rfl ?_
        refine va_cast hx hb hK hP hD hS 1 0 rfl rfl (i := (nI n)) (x := (((((z).toUInt32 >>> ((8 : Int32).toUInt32 &&& Int32.toUInt32 31)).toInt32 &&& 255)).toUInt32 % 65536).toInt32) (vp_in_nI (show n < 240 by omega) (by decide)) dX8_add_41 (fun H locs hP hD hS => ?_)
        obtain ⟨f_14, hP, hD⟩ : ∃ f9 : Nat → Int32, va_P (dC, dI) vwCl [(h, .inr (8, [.ref r, .int (nI n)])), (r, .inl (c1, 240, .inl f9))] H ∧ va_D A [(h, .inr (8, [.ref r, .int (nI n)])), (r, .inl (c1, 240, .inl f9))] := ⟨_, hP, hD⟩
        refine lv_aload_n hx hb dX8_add_42 rfl (lv_at hl 2 rfl) ?_
        refine lv_dup hx hb dX8_add_43 rfl ?_
        refine va_get (D := (dC, dI)) (ci := 8) (v := .int (nI n)) (C := RX8) (T := TX8) (N := 2) hx hb hts iq_X8_add_8 hown hK hP 0 rfl rfl 1 (by decide) (hts (.fieldLink RX8 15 "HubTree$Tape" "length" "I") (List.mem_of_getElem? (i := 1) rfl)) (fun _ h9 => h9) rfl dX8_add_44 ?_
        refine lv_iconst (v := 1) hx hb dX8_add_47 (by decide) ?_
        refine lv_iadd hx hb dX8_add_48 ?_
        refine q_top (y := nI (n + 1)) (nI_1 n) ?_
        refine va_put (D := (dC, dI)) (ci := 8) (v := .int (nI (n + 1))) (ty := .int) (C := RX8) (T := TX8) (N := 2) hx hb hts iq_X8_add_8 tyX8 tyX8_ok nmX8 hown hK hP hD hS 0 rfl rfl 1 (by decide) (hts (.fieldLink RX8 15 "HubTree$Tape" "length" "I") (List.mem_of_getElem? (i := 1) rfl)) (fun _ h9 => h9) rfl (by decide +kernel) rfl rfl (Nat.le_of_ble_eq_true rfl) dX8_add_49 (fun H locs hP hD hS => ?_)
        have hP : va_P (dC, dI) vwCl [(h, .inr (8, [.ref r, .int (nI (n + 1))])), (r, .inl (c1, 240, .inl f_14))] H := hP
        have hD : va_D A [(h, .inr (8, [.ref r, .int (nI (n + 1))])), (r, .inl (c1, 240, .inl f_14))] := hD
        refine lv_iinc (v := 0) (lv' := [(2, .int 0), (3, .int (((z).toUInt32 >>> ((8 : Int32).toUInt32 &&& Int32.toUInt32 31)).toInt32 &&& 255)), (0, .ref h), (1, .int z)]) hx hb dX8_add_52 hl (k := 1) rfl (by decide) (by decide) rfl (fun ls hl => ?_)
        refine lv_goto (tgt := 3) hx hb dX8_add_55 (by decide) ?_
        refine lv_iload_n hx hb dX8_add_3 rfl (lv_at hl 0 rfl) ?_
        refine lv_if_lt (tgt := 58) hx hb dX8_add_4 (by decide) (fun c_15 => ?_) (fun c_15 => ?_)
        · exact absurd c_15 (by decide)
        refine lv_iload_n hx hb dX8_add_7 rfl (lv_at hl 3 rfl) ?_
        refine lv_iload_n hx hb dX8_add_8 rfl (lv_at hl 0 rfl) ?_
        refine lv_iushr hx hb dX8_add_9 rfl ?_
        refine lv_sipush (v := 255) hx hb dX8_add_10 (by decide) ?_
        refine lv_iand hx hb dX8_add_13 ?_
        refine lv_istore_n (lv' := [(3, .int (((z).toUInt32 >>> ((0 : Int32).toUInt32 &&& Int32.toUInt32 31)).toInt32 &&& 255)), (2, .int 0), (0, .ref h), (1, .int z)]) hx hb dX8_add_14 rfl hl (by decide) rfl (fun ls hl => ?_)
        refine lv_iload_n hx hb dX8_add_15 rfl (lv_at hl 0 rfl) ?_
        refine lv_if_eq (tgt := 52) hx hb dX8_add_16 (by decide) (fun c_16 => ?_) (fun c_16 => ?_)
        · skip
          refine lv_iinc (v := (-8)) (lv' := [(2, .int (-8)), (3, .int (((z).toUInt32 >>> ((0 : Int32).toUInt32 &&& Int32.toUInt32 31)).toInt32 &&& 255)), (0, .ref h), (1, .int z)]) hx hb dX8_add_52 hl (k := 1) rfl (by decide) (by decide) rfl (fun ls hl => ?_)
          refine lv_goto (tgt := 3) hx hb dX8_add_55 (by decide) ?_
          refine lv_iload_n hx hb dX8_add_3 rfl (lv_at hl 0 rfl) ?_
          refine lv_if_lt (tgt := 58) hx hb dX8_add_4 (by decide) (fun c_17 => ?_) (fun c_17 => ?_)
          · skip
            have e9 : (n + 1) = n + q_nz z := by
              have h9 : q_nz z = 1 := by simp [q_nz, q_b, c_2, c_4, c_6, c_16]
              omega
            rw [e9] at hP hD
            have hP9 := hP.sub (ws' := [(h, .inr (8, [.ref r, .int (nI (n + q_nz z))])), (r, .inl (c1, 240, .inl f_14))]) [0, 1] rfl
            have hD9 := hD.sub (ws' := [(h, .inr (8, [.ref r, .int (nI (n + q_nz z))])), (r, .inl (c1, 240, .inl f_14))]) [0, 1] (by decide) rfl
            have hK9 := hK.sub (tys' := []) [] rfl
            exact W.vret hx hb hr (fun t ht hW => ⟨⟨f_14, rfl, trivial, by rw [ht]; exact hP9, va_K.moved hW.alike hK9, hD9⟩, hS.F ht⟩) hS.2.2 dX8_add_58
          · exact absurd (by decide) c_17
        · skip
          refine lv_aload_n hx hb dX8_add_19 rfl (lv_at hl 2 rfl) ?_
          refine va_get (D := (dC, dI)) (ci := 8) (v := .int (nI (n + 1))) (C := RX8) (T := TX8) (N := 2) hx hb hts iq_X8_add_8 hown hK hP 0 rfl rfl 1 (by decide) (hts (.fieldLink RX8 15 "HubTree$Tape" "length" "I") (List.mem_of_getElem? (i := 1) rfl)) (fun _ h9 => h9) rfl dX8_add_20 ?_
          refine lv_aload_n hx hb dX8_add_23 rfl (lv_at hl 2 rfl) ?_
          refine va_get (D := (dC, dI)) (ci := 8) (v := .ref r) (C := RX8) (T := TX8) (N := 2) hx hb hts iq_X8_add_8 hown hK hP 0 rfl rfl 0 (by decide) (hts (.fieldLink RX8 9 "HubTree$Tape" "bytes" "[C") (List.mem_of_getElem? (i := 2) rfl)) (fun _ h9 => h9) rfl dX8_add_24 ?_
          refine va_alen hx hb hK hP 1 0 rfl rfl (v := 240) rfl dX8_add_27 ?_
          refine lv_icmp_ge (tgt := 52) hx hb dX8_add_28 (by decide) (fun c_18 => ?_) (fun c_18 => ?_)
          · exact absurd c_18 (q_n240 (by omega))
          refine lv_aload_n hx hb dX8_add_31 rfl (lv_at hl 2 rfl) ?_
          refine va_get (D := (dC, dI)) (ci := 8) (v := .ref r) (C := RX8) (T := TX8) (N := 2) hx hb hts iq_X8_add_8 hown hK hP 0 rfl rfl 0 (by decide) (hts (.fieldLink RX8 9 "HubTree$Tape" "bytes" "[C") (List.mem_of_getElem? (i := 2) rfl)) (fun _ h9 => h9) rfl dX8_add_32 ?_
          refine lv_aload_n hx hb dX8_add_35 rfl (lv_at hl 2 rfl) ?_
          refine va_get (D := (dC, dI)) (ci := 8) (v := .int (nI (n + 1))) (C := RX8) (T := TX8) (N := 2) hx hb hts iq_X8_add_8 hown hK hP 0 rfl rfl 1 (by decide) (hts (.fieldLink RX8 15 "HubTree$Tape" "length" "I") (List.mem_of_getElem? (i := 1) rfl)) (fun _ h9 => h9) rfl dX8_add_36 ?_
          refine lv_iload_n hx hb dX8_add_39 rfl (lv_at hl 0 rfl) ?_
          refine lv_i2c hx hb dX8_add_40 rfl ?_
          refine va_cast hx hb hK hP hD hS 1 0 rfl rfl (i := (nI (n + 1))) (x := (((((z).toUInt32 >>> ((0 : Int32).toUInt32 &&& Int32.toUInt32 31)).toInt32 &&& 255)).toUInt32 % 65536).toInt32) (vp_in_nI (show (n + 1) < 240 by omega) (by decide)) dX8_add_41 (fun H locs hP hD hS => ?_)
          obtain ⟨f_19, hP, hD⟩ : ∃ f9 : Nat → Int32, va_P (dC, dI) vwCl [(h, .inr (8, [.ref r, .int (nI (n + 1))])), (r, .inl (c1, 240, .inl f9))] H ∧ va_D A [(h, .inr (8, [.ref r, .int (nI (n + 1))])), (r, .inl (c1, 240, .inl f9))] := ⟨_, hP, hD⟩
          refine lv_aload_n hx hb dX8_add_42 rfl (lv_at hl 2 rfl) ?_
          refine lv_dup hx hb dX8_add_43 rfl ?_
          refine va_get (D := (dC, dI)) (ci := 8) (v := .int (nI (n + 1))) (C := RX8) (T := TX8) (N := 2) hx hb hts iq_X8_add_8 hown hK hP 0 rfl rfl 1 (by decide) (hts (.fieldLink RX8 15 "HubTree$Tape" "length" "I") (List.mem_of_getElem? (i := 1) rfl)) (fun _ h9 => h9) rfl dX8_add_44 ?_
          refine lv_iconst (v := 1) hx hb dX8_add_47 (by decide) ?_
          refine lv_iadd hx hb dX8_add_48 ?_
          refine q_top (y := nI ((n + 1) + 1)) (nI_1 (n + 1)) ?_
          refine va_put (D := (dC, dI)) (ci := 8) (v := .int (nI ((n + 1) + 1))) (ty := .int) (C := RX8) (T := TX8) (N := 2) hx hb hts iq_X8_add_8 tyX8 tyX8_ok nmX8 hown hK hP hD hS 0 rfl rfl 1 (by decide) (hts (.fieldLink RX8 15 "HubTree$Tape" "length" "I") (List.mem_of_getElem? (i := 1) rfl)) (fun _ h9 => h9) rfl (by decide +kernel) rfl rfl (Nat.le_of_ble_eq_true rfl) dX8_add_49 (fun H locs hP hD hS => ?_)
          have hP : va_P (dC, dI) vwCl [(h, .inr (8, [.ref r, .int (nI ((n + 1) + 1))])), (r, .inl (c1, 240, .inl f_19))] H := hP
          have hD : va_D A [(h, .inr (8, [.ref r, .int (nI ((n + 1) + 1))])), (r, .inl (c1, 240, .inl f_19))] := hD
          refine lv_iinc (v := (-8)) (lv' := [(2, .int (-8)), (3, .int (((z).toUInt32 >>> ((0 : Int32).toUInt32 &&& Int32.toUInt32 31)).toInt32 &&& 255)), (0, .ref h), (1, .int z)]) hx hb dX8_add_52 hl (k := 1) rfl (by decide) (by decide) rfl (fun ls hl => ?_)
          refine lv_goto (tgt := 3) hx hb dX8_add_55 (by decide) ?_
          refine lv_iload_n hx hb dX8_add_3 rfl (lv_at hl 0 rfl) ?_
          refine lv_if_lt (tgt := 58) hx hb dX8_add_4 (by decide) (fun c_20 => ?_) (fun c_20 => ?_)
          · skip
            have e9 : ((n + 1) + 1) = n + q_nz z := by
              have h9 : q_nz z = 2 := by simp [q_nz, q_b, c_2, c_4, c_6, c_16]
              omega
            rw [e9] at hP hD
            have hP9 := hP.sub (ws' := [(h, .inr (8, [.ref r, .int (nI (n + q_nz z))])), (r, .inl (c1, 240, .inl f_19))]) [0, 1] rfl
            have hD9 := hD.sub (ws' := [(h, .inr (8, [.ref r, .int (nI (n + q_nz z))])), (r, .inl (c1, 240, .inl f_19))]) [0, 1] (by decide) rfl
            have hK9 := hK.sub (tys' := []) [] rfl
            exact W.vret hx hb hr (fun t ht hW => ⟨⟨f_19, rfl, trivial, by rw [ht]; exact hP9, va_K.moved hW.alike hK9, hD9⟩, hS.F ht⟩) hS.2.2 dX8_add_58
          · exact absurd (by decide) c_20
    · skip
      refine lv_aload_n hx hb dX8_add_19 rfl (lv_at hl 2 rfl) ?_
      refine va_get (D := (dC, dI)) (ci := 8) (v := .int (nI n)) (C := RX8) (T := TX8) (N := 2) hx hb hts iq_X8_add_8 hown hK hP 0 rfl rfl 1 (by decide) (hts (.fieldLink RX8 15 "HubTree$Tape" "length" "I") (List.mem_of_getElem? (i := 1) rfl)) (fun _ h9 => h9) rfl dX8_add_20 ?_
      refine lv_aload_n hx hb dX8_add_23 rfl (lv_at hl 2 rfl) ?_
      refine va_get (D := (dC, dI)) (ci := 8) (v := .ref r) (C := RX8) (T := TX8) (N := 2) hx hb hts iq_X8_add_8 hown hK hP 0 rfl rfl 0 (by decide) (hts (.fieldLink RX8 9 "HubTree$Tape" "bytes" "[C") (List.mem_of_getElem? (i := 2) rfl)) (fun _ h9 => h9) rfl dX8_add_24 ?_
      refine va_alen hx hb hK hP 1 0 rfl rfl (v := 240) rfl dX8_add_27 ?_
      refine lv_icmp_ge (tgt := 52) hx hb dX8_add_28 (by decide) (fun c_21 => ?_) (fun c_21 => ?_)
      · exact absurd c_21 (q_n240 (by omega))
      refine lv_aload_n hx hb dX8_add_31 rfl (lv_at hl 2 rfl) ?_
      refine va_get (D := (dC, dI)) (ci := 8) (v := .ref r) (C := RX8) (T := TX8) (N := 2) hx hb hts iq_X8_add_8 hown hK hP 0 rfl rfl 0 (by decide) (hts (.fieldLink RX8 9 "HubTree$Tape" "bytes" "[C") (List.mem_of_getElem? (i := 2) rfl)) (fun _ h9 => h9) rfl dX8_add_32 ?_
      refine lv_aload_n hx hb dX8_add_35 rfl (lv_at hl 2 rfl) ?_
      refine va_get (D := (dC, dI)) (ci := 8) (v := .int (nI n)) (C := RX8) (T := TX8) (N := 2) hx hb hts iq_X8_add_8 hown hK hP 0 rfl rfl 1 (by decide) (hts (.fieldLink RX8 15 "HubTree$Tape" "length" "I") (List.mem_of_getElem? (i := 1) rfl)) (fun _ h9 => h9) rfl dX8_add_36 ?_
      refine lv_iload_n hx hb dX8_add_39 rfl (lv_at hl 0 rfl) ?_
      refine lv_i2c hx hb dX8_add_40 rfl ?_
      refine va_cast hx hb hK hP hD hS 1 0 rfl rfl (i := (nI n)) (x := (((((z).toUInt32 >>> ((16 : Int32).toUInt32 &&& Int32.toUInt32 31)).toInt32 &&& 255)).toUInt32 % 65536).toInt32) (vp_in_nI (show n < 240 by omega) (by decide)) dX8_add_41 (fun H locs hP hD hS => ?_)
      obtain ⟨f_22, hP, hD⟩ : ∃ f9 : Nat → Int32, va_P (dC, dI) vwCl [(h, .inr (8, [.ref r, .int (nI n)])), (r, .inl (c1, 240, .inl f9))] H ∧ va_D A [(h, .inr (8, [.ref r, .int (nI n)])), (r, .inl (c1, 240, .inl f9))] := ⟨_, hP, hD⟩
      refine lv_aload_n hx hb dX8_add_42 rfl (lv_at hl 2 rfl) ?_
      refine lv_dup hx hb dX8_add_43 rfl ?_
      refine va_get (D := (dC, dI)) (ci := 8) (v := .int (nI n)) (C := RX8) (T := TX8) (N := 2) hx hb hts iq_X8_add_8 hown hK hP 0 rfl rfl 1 (by decide) (hts (.fieldLink RX8 15 "HubTree$Tape" "length" "I") (List.mem_of_getElem? (i := 1) rfl)) (fun _ h9 => h9) rfl dX8_add_44 ?_
      refine lv_iconst (v := 1) hx hb dX8_add_47 (by decide) ?_
      refine lv_iadd hx hb dX8_add_48 ?_
      refine q_top (y := nI (n + 1)) (nI_1 n) ?_
      refine va_put (D := (dC, dI)) (ci := 8) (v := .int (nI (n + 1))) (ty := .int) (C := RX8) (T := TX8) (N := 2) hx hb hts iq_X8_add_8 tyX8 tyX8_ok nmX8 hown hK hP hD hS 0 rfl rfl 1 (by decide) (hts (.fieldLink RX8 15 "HubTree$Tape" "length" "I") (List.mem_of_getElem? (i := 1) rfl)) (fun _ h9 => h9) rfl (by decide +kernel) rfl rfl (Nat.le_of_ble_eq_true rfl) dX8_add_49 (fun H locs hP hD hS => ?_)
      have hP : va_P (dC, dI) vwCl [(h, .inr (8, [.ref r, .int (nI (n + 1))])), (r, .inl (c1, 240, .inl f_22))] H := hP
      have hD : va_D A [(h, .inr (8, [.ref r, .int (nI (n + 1))])), (r, .inl (c1, 240, .inl f_22))] := hD
      refine lv_iinc (v := 8) (lv' := [(2, .int 8), (3, .int (((z).toUInt32 >>> ((16 : Int32).toUInt32 &&& Int32.toUInt32 31)).toInt32 &&& 255)), (0, .ref h), (1, .int z)]) hx hb dX8_add_52 hl (k := 1) rfl (by decide) (by decide) rfl (fun ls hl => ?_)
      refine lv_goto (tgt := 3) hx hb dX8_add_55 (by decide) ?_
      refine lv_iload_n hx hb dX8_add_3 rfl (lv_at hl 0 rfl) ?_
      refine lv_if_lt (tgt := 58) hx hb dX8_add_4 (by decide) (fun c_23 => ?_) (fun c_23 => ?_)
      · exact absurd c_23 (by decide)
      refine lv_iload_n hx hb dX8_add_7 rfl (lv_at hl 3 rfl) ?_
      refine lv_iload_n hx hb dX8_add_8 rfl (lv_at hl 0 rfl) ?_
      refine lv_iushr hx hb dX8_add_9 rfl ?_
      refine lv_sipush (v := 255) hx hb dX8_add_10 (by decide) ?_
      refine lv_iand hx hb dX8_add_13 ?_
      refine lv_istore_n (lv' := [(3, .int (((z).toUInt32 >>> ((8 : Int32).toUInt32 &&& Int32.toUInt32 31)).toInt32 &&& 255)), (2, .int 8), (0, .ref h), (1, .int z)]) hx hb dX8_add_14 rfl hl (by decide) rfl (fun ls hl => ?_)
      refine lv_iload_n hx hb dX8_add_15 rfl (lv_at hl 0 rfl) ?_
      refine lv_if_eq (tgt := 52) hx hb dX8_add_16 (by decide) (fun c_24 => ?_) (fun c_24 => ?_)
      · skip
        refine lv_iinc (v := 0) (lv' := [(2, .int 0), (3, .int (((z).toUInt32 >>> ((8 : Int32).toUInt32 &&& Int32.toUInt32 31)).toInt32 &&& 255)), (0, .ref h), (1, .int z)]) hx hb dX8_add_52 hl (k := 1) rfl (by decide) (by decide) rfl (fun ls hl => ?_)
        refine lv_goto (tgt := 3) hx hb dX8_add_55 (by decide) ?_
        refine lv_iload_n hx hb dX8_add_3 rfl (lv_at hl 0 rfl) ?_
        refine lv_if_lt (tgt := 58) hx hb dX8_add_4 (by decide) (fun c_25 => ?_) (fun c_25 => ?_)
        · exact absurd c_25 (by decide)
        refine lv_iload_n hx hb dX8_add_7 rfl (lv_at hl 3 rfl) ?_
        refine lv_iload_n hx hb dX8_add_8 rfl (lv_at hl 0 rfl) ?_
        refine lv_iushr hx hb dX8_add_9 rfl ?_
        refine lv_sipush (v := 255) hx hb dX8_add_10 (by decide) ?_
        refine lv_iand hx hb dX8_add_13 ?_
        refine lv_istore_n (lv' := [(3, .int (((z).toUInt32 >>> ((0 : Int32).toUInt32 &&& Int32.toUInt32 31)).toInt32 &&& 255)), (2, .int 0), (0, .ref h), (1, .int z)]) hx hb dX8_add_14 rfl hl (by decide) rfl (fun ls hl => ?_)
        refine lv_iload_n hx hb dX8_add_15 rfl (lv_at hl 0 rfl) ?_
        refine lv_if_eq (tgt := 52) hx hb dX8_add_16 (by decide) (fun c_26 => ?_) (fun c_26 => ?_)
        · skip
          refine lv_iinc (v := (-8)) (lv' := [(2, .int (-8)), (3, .int (((z).toUInt32 >>> ((0 : Int32).toUInt32 &&& Int32.toUInt32 31)).toInt32 &&& 255)), (0, .ref h), (1, .int z)]) hx hb dX8_add_52 hl (k := 1) rfl (by decide) (by decide) rfl (fun ls hl => ?_)
          refine lv_goto (tgt := 3) hx hb dX8_add_55 (by decide) ?_
          refine lv_iload_n hx hb dX8_add_3 rfl (lv_at hl 0 rfl) ?_
          refine lv_if_lt (tgt := 58) hx hb dX8_add_4 (by decide) (fun c_27 => ?_) (fun c_27 => ?_)
          · skip
            have e9 : (n + 1) = n + q_nz z := by
              have h9 : q_nz z = 1 := by simp [q_nz, q_b, c_2, c_4, c_24, c_26]
              omega
            rw [e9] at hP hD
            have hP9 := hP.sub (ws' := [(h, .inr (8, [.ref r, .int (nI (n + q_nz z))])), (r, .inl (c1, 240, .inl f_22))]) [0, 1] rfl
            have hD9 := hD.sub (ws' := [(h, .inr (8, [.ref r, .int (nI (n + q_nz z))])), (r, .inl (c1, 240, .inl f_22))]) [0, 1] (by decide) rfl
            have hK9 := hK.sub (tys' := []) [] rfl
            exact W.vret hx hb hr (fun t ht hW => ⟨⟨f_22, rfl, trivial, by rw [ht]; exact hP9, va_K.moved hW.alike hK9, hD9⟩, hS.F ht⟩) hS.2.2 dX8_add_58
          · exact absurd (by decide) c_27
        · skip
          refine lv_aload_n hx hb dX8_add_19 rfl (lv_at hl 2 rfl) ?_
          refine va_get (D := (dC, dI)) (ci := 8) (v := .int (nI (n + 1))) (C := RX8) (T := TX8) (N := 2) hx hb hts iq_X8_add_8 hown hK hP 0 rfl rfl 1 (by decide) (hts (.fieldLink RX8 15 "HubTree$Tape" "length" "I") (List.mem_of_getElem? (i := 1) rfl)) (fun _ h9 => h9) rfl dX8_add_20 ?_
          refine lv_aload_n hx hb dX8_add_23 rfl (lv_at hl 2 rfl) ?_
          refine va_get (D := (dC, dI)) (ci := 8) (v := .ref r) (C := RX8) (T := TX8) (N := 2) hx hb hts iq_X8_add_8 hown hK hP 0 rfl rfl 0 (by decide) (hts (.fieldLink RX8 9 "HubTree$Tape" "bytes" "[C") (List.mem_of_getElem? (i := 2) rfl)) (fun _ h9 => h9) rfl dX8_add_24 ?_
          refine va_alen hx hb hK hP 1 0 rfl rfl (v := 240) rfl dX8_add_27 ?_
          refine lv_icmp_ge (tgt := 52) hx hb dX8_add_28 (by decide) (fun c_28 => ?_) (fun c_28 => ?_)
          · exact absurd c_28 (q_n240 (by omega))
          refine lv_aload_n hx hb dX8_add_31 rfl (lv_at hl 2 rfl) ?_
          refine va_get (D := (dC, dI)) (ci := 8) (v := .ref r) (C := RX8) (T := TX8) (N := 2) hx hb hts iq_X8_add_8 hown hK hP 0 rfl rfl 0 (by decide) (hts (.fieldLink RX8 9 "HubTree$Tape" "bytes" "[C") (List.mem_of_getElem? (i := 2) rfl)) (fun _ h9 => h9) rfl dX8_add_32 ?_
          refine lv_aload_n hx hb dX8_add_35 rfl (lv_at hl 2 rfl) ?_
          refine va_get (D := (dC, dI)) (ci := 8) (v := .int (nI (n + 1))) (C := RX8) (T := TX8) (N := 2) hx hb hts iq_X8_add_8 hown hK hP 0 rfl rfl 1 (by decide) (hts (.fieldLink RX8 15 "HubTree$Tape" "length" "I") (List.mem_of_getElem? (i := 1) rfl)) (fun _ h9 => h9) rfl dX8_add_36 ?_
          refine lv_iload_n hx hb dX8_add_39 rfl (lv_at hl 0 rfl) ?_
          refine lv_i2c hx hb dX8_add_40 rfl ?_
          refine va_cast hx hb hK hP hD hS 1 0 rfl rfl (i := (nI (n + 1))) (x := (((((z).toUInt32 >>> ((0 : Int32).toUInt32 &&& Int32.toUInt32 31)).toInt32 &&& 255)).toUInt32 % 65536).toInt32) (vp_in_nI (show (n + 1) < 240 by omega) (by decide)) dX8_add_41 (fun H locs hP hD hS => ?_)
          obtain ⟨f_29, hP, hD⟩ : ∃ f9 : Nat → Int32, va_P (dC, dI) vwCl [(h, .inr (8, [.ref r, .int (nI (n + 1))])), (r, .inl (c1, 240, .inl f9))] H ∧ va_D A [(h, .inr (8, [.ref r, .int (nI (n + 1))])), (r, .inl (c1, 240, .inl f9))] := ⟨_, hP, hD⟩
          refine lv_aload_n hx hb dX8_add_42 rfl (lv_at hl 2 rfl) ?_
          refine lv_dup hx hb dX8_add_43 rfl ?_
          refine va_get (D := (dC, dI)) (ci := 8) (v := .int (nI (n + 1))) (C := RX8) (T := TX8) (N := 2) hx hb hts iq_X8_add_8 hown hK hP 0 rfl rfl 1 (by decide) (hts (.fieldLink RX8 15 "HubTree$Tape" "length" "I") (List.mem_of_getElem? (i := 1) rfl)) (fun _ h9 => h9) rfl dX8_add_44 ?_
          refine lv_iconst (v := 1) hx hb dX8_add_47 (by decide) ?_
          refine lv_iadd hx hb dX8_add_48 ?_
          refine q_top (y := nI ((n + 1) + 1)) (nI_1 (n + 1)) ?_
          refine va_put (D := (dC, dI)) (ci := 8) (v := .int (nI ((n + 1) + 1))) (ty := .int) (C := RX8) (T := TX8) (N := 2) hx hb hts iq_X8_add_8 tyX8 tyX8_ok nmX8 hown hK hP hD hS 0 rfl rfl 1 (by decide) (hts (.fieldLink RX8 15 "HubTree$Tape" "length" "I") (List.mem_of_getElem? (i := 1) rfl)) (fun _ h9 => h9) rfl (by decide +kernel) rfl rfl (Nat.le_of_ble_eq_true rfl) dX8_add_49 (fun H locs hP hD hS => ?_)
          have hP : va_P (dC, dI) vwCl [(h, .inr (8, [.ref r, .int (nI ((n + 1) + 1))])), (r, .inl (c1, 240, .inl f_29))] H := hP
          have hD : va_D A [(h, .inr (8, [.ref r, .int (nI ((n + 1) + 1))])), (r, .inl (c1, 240, .inl f_29))] := hD
          refine lv_iinc (v := (-8)) (lv' := [(2, .int (-8)), (3, .int (((z).toUInt32 >>> ((0 : Int32).toUInt32 &&& Int32.toUInt32 31)).toInt32 &&& 255)), (0, .ref h), (1, .int z)]) hx hb dX8_add_52 hl (k := 1) rfl (by decide) (by decide) rfl (fun ls hl => ?_)
          refine lv_goto (tgt := 3) hx hb dX8_add_55 (by decide) ?_
          refine lv_iload_n hx hb dX8_add_3 rfl (lv_at hl 0 rfl) ?_
          refine lv_if_lt (tgt := 58) hx hb dX8_add_4 (by decide) (fun c_30 => ?_) (fun c_30 => ?_)
          · skip
            have e9 : ((n + 1) + 1) = n + q_nz z := by
              have h9 : q_nz z = 2 := by simp [q_nz, q_b, c_2, c_4, c_24, c_26]
              omega
            rw [e9] at hP hD
            have hP9 := hP.sub (ws' := [(h, .inr (8, [.ref r, .int (nI (n + q_nz z))])), (r, .inl (c1, 240, .inl f_29))]) [0, 1] rfl
            have hD9 := hD.sub (ws' := [(h, .inr (8, [.ref r, .int (nI (n + q_nz z))])), (r, .inl (c1, 240, .inl f_29))]) [0, 1] (by decide) rfl
            have hK9 := hK.sub (tys' := []) [] rfl
            exact W.vret hx hb hr (fun t ht hW => ⟨⟨f_29, rfl, trivial, by rw [ht]; exact hP9, va_K.moved hW.alike hK9, hD9⟩, hS.F ht⟩) hS.2.2 dX8_add_58
          · exact absurd (by decide) c_30
      · skip
        refine lv_aload_n hx hb dX8_add_19 rfl (lv_at hl 2 rfl) ?_
        refine va_get (D := (dC, dI)) (ci := 8) (v := .int (nI (n + 1))) (C := RX8) (T := TX8) (N := 2) hx hb hts iq_X8_add_8 hown hK hP 0 rfl rfl 1 (by decide) (hts (.fieldLink RX8 15 "HubTree$Tape" "length" "I") (List.mem_of_getElem? (i := 1) rfl)) (fun _ h9 => h9) rfl dX8_add_20 ?_
        refine lv_aload_n hx hb dX8_add_23 rfl (lv_at hl 2 rfl) ?_
        refine va_get (D := (dC, dI)) (ci := 8) (v := .ref r) (C := RX8) (T := TX8) (N := 2) hx hb hts iq_X8_add_8 hown hK hP 0 rfl rfl 0 (by decide) (hts (.fieldLink RX8 9 "HubTree$Tape" "bytes" "[C") (List.mem_of_getElem? (i := 2) rfl)) (fun _ h9 => h9) rfl dX8_add_24 ?_
        refine va_alen hx hb hK hP 1 0 rfl rfl (v := 240) rfl dX8_add_27 ?_
        refine lv_icmp_ge (tgt := 52) hx hb dX8_add_28 (by decide) (fun c_31 => ?_) (fun c_31 => ?_)
        · exact absurd c_31 (q_n240 (by omega))
        refine lv_aload_n hx hb dX8_add_31 rfl (lv_at hl 2 rfl) ?_
        refine va_get (D := (dC, dI)) (ci := 8) (v := .ref r) (C := RX8) (T := TX8) (N := 2) hx hb hts iq_X8_add_8 hown hK hP 0 rfl rfl 0 (by decide) (hts (.fieldLink RX8 9 "HubTree$Tape" "bytes" "[C") (List.mem_of_getElem? (i := 2) rfl)) (fun _ h9 => h9) rfl dX8_add_32 ?_
        refine lv_aload_n hx hb dX8_add_35 rfl (lv_at hl 2 rfl) ?_
        refine va_get (D := (dC, dI)) (ci := 8) (v := .int (nI (n + 1))) (C := RX8) (T := TX8) (N := 2) hx hb hts iq_X8_add_8 hown hK hP 0 rfl rfl 1 (by decide) (hts (.fieldLink RX8 15 "HubTree$Tape" "length" "I") (List.mem_of_getElem? (i := 1) rfl)) (fun _ h9 => h9) rfl dX8_add_36 ?_
        refine lv_iload_n hx hb dX8_add_39 rfl (lv_at hl 0 rfl) ?_
        refine lv_i2c hx hb dX8_add_40 rfl ?_
        refine va_cast hx hb hK hP hD hS 1 0 rfl rfl (i := (nI (n + 1))) (x := (((((z).toUInt32 >>> ((8 : Int32).toUInt32 &&& Int32.toUInt32 31)).toInt32 &&& 255)).toUInt32 % 65536).toInt32) (vp_in_nI (show (n + 1) < 240 by omega) (by decide)) dX8_add_41 (fun H locs hP hD hS => ?_)
        obtain ⟨f_32, hP, hD⟩ : ∃ f9 : Nat → Int32, va_P (dC, dI) vwCl [(h, .inr (8, [.ref r, .int (nI (n + 1))])), (r, .inl (c1, 240, .inl f9))] H ∧ va_D A [(h, .inr (8, [.ref r, .int (nI (n + 1))])), (r, .inl (c1, 240, .inl f9))] := ⟨_, hP, hD⟩
        refine lv_aload_n hx hb dX8_add_42 rfl (lv_at hl 2 rfl) ?_
        refine lv_dup hx hb dX8_add_43 rfl ?_
        refine va_get (D := (dC, dI)) (ci := 8) (v := .int (nI (n + 1))) (C := RX8) (T := TX8) (N := 2) hx hb hts iq_X8_add_8 hown hK hP 0 rfl rfl 1 (by decide) (hts (.fieldLink RX8 15 "HubTree$Tape" "length" "I") (List.mem_of_getElem? (i := 1) rfl)) (fun _ h9 => h9) rfl dX8_add_44 ?_
        refine lv_iconst (v := 1) hx hb dX8_add_47 (by decide) ?_
        refine lv_iadd hx hb dX8_add_48 ?_
        refine q_top (y := nI ((n + 1) + 1)) (nI_1 (n + 1)) ?_
        refine va_put (D := (dC, dI)) (ci := 8) (v := .int (nI ((n + 1) + 1))) (ty := .int) (C := RX8) (T := TX8) (N := 2) hx hb hts iq_X8_add_8 tyX8 tyX8_ok nmX8 hown hK hP hD hS 0 rfl rfl 1 (by decide) (hts (.fieldLink RX8 15 "HubTree$Tape" "length" "I") (List.mem_of_getElem? (i := 1) rfl)) (fun _ h9 => h9) rfl (by decide +kernel) rfl rfl (Nat.le_of_ble_eq_true rfl) dX8_add_49 (fun H locs hP hD hS => ?_)
        have hP : va_P (dC, dI) vwCl [(h, .inr (8, [.ref r, .int (nI ((n + 1) + 1))])), (r, .inl (c1, 240, .inl f_32))] H := hP
        have hD : va_D A [(h, .inr (8, [.ref r, .int (nI ((n + 1) + 1))])), (r, .inl (c1, 240, .inl f_32))] := hD
        refine lv_iinc (v := 0) (lv' := [(2, .int 0), (3, .int (((z).toUInt32 >>> ((8 : Int32).toUInt32 &&& Int32.toUInt32 31)).toInt32 &&& 255)), (0, .ref h), (1, .int z)]) hx hb dX8_add_52 hl (k := 1) rfl (by decide) (by decide) rfl (fun ls hl => ?_)
        refine lv_goto (tgt := 3) hx hb dX8_add_55 (by decide) ?_
        refine lv_iload_n hx hb dX8_add_3 rfl (lv_at hl 0 rfl) ?_
        refine lv_if_lt (tgt := 58) hx hb dX8_add_4 (by decide) (fun c_33 => ?_) (fun c_33 => ?_)
        · exact absurd c_33 (by decide)
        refine lv_iload_n hx hb dX8_add_7 rfl (lv_at hl 3 rfl) ?_
        refine lv_iload_n hx hb dX8_add_8 rfl (lv_at hl 0 rfl) ?_
        refine lv_iushr hx hb dX8_add_9 rfl ?_
        refine lv_sipush (v := 255) hx hb dX8_add_10 (by decide) ?_
        refine lv_iand hx hb dX8_add_13 ?_
        refine lv_istore_n (lv' := [(3, .int (((z).toUInt32 >>> ((0 : Int32).toUInt32 &&& Int32.toUInt32 31)).toInt32 &&& 255)), (2, .int 0), (0, .ref h), (1, .int z)]) hx hb dX8_add_14 rfl hl (by decide) rfl (fun ls hl => ?_)
        refine lv_iload_n hx hb dX8_add_15 rfl (lv_at hl 0 rfl) ?_
        refine lv_if_eq (tgt := 52) hx hb dX8_add_16 (by decide) (fun c_34 => ?_) (fun c_34 => ?_)
        · skip
          refine lv_iinc (v := (-8)) (lv' := [(2, .int (-8)), (3, .int (((z).toUInt32 >>> ((0 : Int32).toUInt32 &&& Int32.toUInt32 31)).toInt32 &&& 255)), (0, .ref h), (1, .int z)]) hx hb dX8_add_52 hl (k := 1) rfl (by decide) (by decide) rfl (fun ls hl => ?_)
          refine lv_goto (tgt := 3) hx hb dX8_add_55 (by decide) ?_
          refine lv_iload_n hx hb dX8_add_3 rfl (lv_at hl 0 rfl) ?_
          refine lv_if_lt (tgt := 58) hx hb dX8_add_4 (by decide) (fun c_35 => ?_) (fun c_35 => ?_)
          · skip
            have e9 : ((n + 1) + 1) = n + q_nz z := by
              have h9 : q_nz z = 2 := by simp [q_nz, q_b, c_2, c_4, c_24, c_34]
              omega
            rw [e9] at hP hD
            have hP9 := hP.sub (ws' := [(h, .inr (8, [.ref r, .int (nI (n + q_nz z))])), (r, .inl (c1, 240, .inl f_32))]) [0, 1] rfl
            have hD9 := hD.sub (ws' := [(h, .inr (8, [.ref r, .int (nI (n + q_nz z))])), (r, .inl (c1, 240, .inl f_32))]) [0, 1] (by decide) rfl
            have hK9 := hK.sub (tys' := []) [] rfl
            exact W.vret hx hb hr (fun t ht hW => ⟨⟨f_32, rfl, trivial, by rw [ht]; exact hP9, va_K.moved hW.alike hK9, hD9⟩, hS.F ht⟩) hS.2.2 dX8_add_58
          · exact absurd (by decide) c_35
        · skip
          refine lv_aload_n hx hb dX8_add_19 rfl (lv_at hl 2 rfl) ?_
          refine va_get (D := (dC, dI)) (ci := 8) (v := .int (nI ((n + 1) + 1))) (C := RX8) (T := TX8) (N := 2) hx hb hts iq_X8_add_8 hown hK hP 0 rfl rfl 1 (by decide) (hts (.fieldLink RX8 15 "HubTree$Tape" "length" "I") (List.mem_of_getElem? (i := 1) rfl)) (fun _ h9 => h9) rfl dX8_add_20 ?_
          refine lv_aload_n hx hb dX8_add_23 rfl (lv_at hl 2 rfl) ?_
          refine va_get (D := (dC, dI)) (ci := 8) (v := .ref r) (C := RX8) (T := TX8) (N := 2) hx hb hts iq_X8_add_8 hown hK hP 0 rfl rfl 0 (by decide) (hts (.fieldLink RX8 9 "HubTree$Tape" "bytes" "[C") (List.mem_of_getElem? (i := 2) rfl)) (fun _ h9 => h9) rfl dX8_add_24 ?_
          refine va_alen hx hb hK hP 1 0 rfl rfl (v := 240) rfl dX8_add_27 ?_
          refine lv_icmp_ge (tgt := 52) hx hb dX8_add_28 (by decide) (fun c_36 => ?_) (fun c_36 => ?_)
          · exact absurd c_36 (q_n240 (by omega))
          refine lv_aload_n hx hb dX8_add_31 rfl (lv_at hl 2 rfl) ?_
          refine va_get (D := (dC, dI)) (ci := 8) (v := .ref r) (C := RX8) (T := TX8) (N := 2) hx hb hts iq_X8_add_8 hown hK hP 0 rfl rfl 0 (by decide) (hts (.fieldLink RX8 9 "HubTree$Tape" "bytes" "[C") (List.mem_of_getElem? (i := 2) rfl)) (fun _ h9 => h9) rfl dX8_add_32 ?_
          refine lv_aload_n hx hb dX8_add_35 rfl (lv_at hl 2 rfl) ?_
          refine va_get (D := (dC, dI)) (ci := 8) (v := .int (nI ((n + 1) + 1))) (C := RX8) (T := TX8) (N := 2) hx hb hts iq_X8_add_8 hown hK hP 0 rfl rfl 1 (by decide) (hts (.fieldLink RX8 15 "HubTree$Tape" "length" "I") (List.mem_of_getElem? (i := 1) rfl)) (fun _ h9 => h9) rfl dX8_add_36 ?_
          refine lv_iload_n hx hb dX8_add_39 rfl (lv_at hl 0 rfl) ?_
          refine lv_i2c hx hb dX8_add_40 rfl ?_
          refine va_cast hx hb hK hP hD hS 1 0 rfl rfl (i := (nI ((n + 1) + 1))) (x := (((((z).toUInt32 >>> ((0 : Int32).toUInt32 &&& Int32.toUInt32 31)).toInt32 &&& 255)).toUInt32 % 65536).toInt32) (vp_in_nI (show ((n + 1) + 1) < 240 by omega) (by decide)) dX8_add_41 (fun H locs hP hD hS => ?_)
          obtain ⟨f_37, hP, hD⟩ : ∃ f9 : Nat → Int32, va_P (dC, dI) vwCl [(h, .inr (8, [.ref r, .int (nI ((n + 1) + 1))])), (r, .inl (c1, 240, .inl f9))] H ∧ va_D A [(h, .inr (8, [.ref r, .int (nI ((n + 1) + 1))])), (r, .inl (c1, 240, .inl f9))] := ⟨_, hP, hD⟩
          refine lv_aload_n hx hb dX8_add_42 rfl (lv_at hl 2 rfl) ?_
          refine lv_dup hx hb dX8_add_43 rfl ?_
          refine va_get (D := (dC, dI)) (ci := 8) (v := .int (nI ((n + 1) + 1))) (C := RX8) (T := TX8) (N := 2) hx hb hts iq_X8_add_8 hown hK hP 0 rfl rfl 1 (by decide) (hts (.fieldLink RX8 15 "HubTree$Tape" "length" "I") (List.mem_of_getElem? (i := 1) rfl)) (fun _ h9 => h9) rfl dX8_add_44 ?_
          refine lv_iconst (v := 1) hx hb dX8_add_47 (by decide) ?_
          refine lv_iadd hx hb dX8_add_48 ?_
          refine q_top (y := nI (((n + 1) + 1) + 1)) (nI_1 ((n + 1) + 1)) ?_
          refine va_put (D := (dC, dI)) (ci := 8) (v := .int (nI (((n + 1) + 1) + 1))) (ty := .int) (C := RX8) (T := TX8) (N := 2) hx hb hts iq_X8_add_8 tyX8 tyX8_ok nmX8 hown hK hP hD hS 0 rfl rfl 1 (by decide) (hts (.fieldLink RX8 15 "HubTree$Tape" "length" "I") (List.mem_of_getElem? (i := 1) rfl)) (fun _ h9 => h9) rfl (by decide +kernel) rfl rfl (Nat.le_of_ble_eq_true rfl) dX8_add_49 (fun H locs hP hD hS => ?_)
          have hP : va_P (dC, dI) vwCl [(h, .inr (8, [.ref r, .int (nI (((n + 1) + 1) + 1))])), (r, .inl (c1, 240, .inl f_37))] H := hP
          have hD : va_D A [(h, .inr (8, [.ref r, .int (nI (((n + 1) + 1) + 1))])), (r, .inl (c1, 240, .inl f_37))] := hD
          refine lv_iinc (v := (-8)) (lv' := [(2, .int (-8)), (3, .int (((z).toUInt32 >>> ((0 : Int32).toUInt32 &&& Int32.toUInt32 31)).toInt32 &&& 255)), (0, .ref h), (1, .int z)]) hx hb dX8_add_52 hl (k := 1) rfl (by decide) (by decide) rfl (fun ls hl => ?_)
          refine lv_goto (tgt := 3) hx hb dX8_add_55 (by decide) ?_
          refine lv_iload_n hx hb dX8_add_3 rfl (lv_at hl 0 rfl) ?_
          refine lv_if_lt (tgt := 58) hx hb dX8_add_4 (by decide) (fun c_38 => ?_) (fun c_38 => ?_)
          · skip
            have e9 : (((n + 1) + 1) + 1) = n + q_nz z := by
              have h9 : q_nz z = 3 := by simp [q_nz, q_b, c_2, c_4, c_24, c_34]
              omega
            rw [e9] at hP hD
            have hP9 := hP.sub (ws' := [(h, .inr (8, [.ref r, .int (nI (n + q_nz z))])), (r, .inl (c1, 240, .inl f_37))]) [0, 1] rfl
            have hD9 := hD.sub (ws' := [(h, .inr (8, [.ref r, .int (nI (n + q_nz z))])), (r, .inl (c1, 240, .inl f_37))]) [0, 1] (by decide) rfl
            have hK9 := hK.sub (tys' := []) [] rfl
            exact W.vret hx hb hr (fun t ht hW => ⟨⟨f_37, rfl, trivial, by rw [ht]; exact hP9, va_K.moved hW.alike hK9, hD9⟩, hS.F ht⟩) hS.2.2 dX8_add_58
          · exact absurd (by decide) c_38
  · skip
    refine lv_aload_n hx hb dX8_add_19 rfl (lv_at hl 2 rfl) ?_
    refine va_get (D := (dC, dI)) (ci := 8) (v := .int (nI n)) (C := RX8) (T := TX8) (N := 2) hx hb hts iq_X8_add_8 hown hK hP 0 rfl rfl 1 (by decide) (hts (.fieldLink RX8 15 "HubTree$Tape" "length" "I") (List.mem_of_getElem? (i := 1) rfl)) (fun _ h9 => h9) rfl dX8_add_20 ?_
    refine lv_aload_n hx hb dX8_add_23 rfl (lv_at hl 2 rfl) ?_
    refine va_get (D := (dC, dI)) (ci := 8) (v := .ref r) (C := RX8) (T := TX8) (N := 2) hx hb hts iq_X8_add_8 hown hK hP 0 rfl rfl 0 (by decide) (hts (.fieldLink RX8 9 "HubTree$Tape" "bytes" "[C") (List.mem_of_getElem? (i := 2) rfl)) (fun _ h9 => h9) rfl dX8_add_24 ?_
    refine va_alen hx hb hK hP 1 0 rfl rfl (v := 240) rfl dX8_add_27 ?_
    refine lv_icmp_ge (tgt := 52) hx hb dX8_add_28 (by decide) (fun c_39 => ?_) (fun c_39 => ?_)
    · exact absurd c_39 (q_n240 (by omega))
    refine lv_aload_n hx hb dX8_add_31 rfl (lv_at hl 2 rfl) ?_
    refine va_get (D := (dC, dI)) (ci := 8) (v := .ref r) (C := RX8) (T := TX8) (N := 2) hx hb hts iq_X8_add_8 hown hK hP 0 rfl rfl 0 (by decide) (hts (.fieldLink RX8 9 "HubTree$Tape" "bytes" "[C") (List.mem_of_getElem? (i := 2) rfl)) (fun _ h9 => h9) rfl dX8_add_32 ?_
    refine lv_aload_n hx hb dX8_add_35 rfl (lv_at hl 2 rfl) ?_
    refine va_get (D := (dC, dI)) (ci := 8) (v := .int (nI n)) (C := RX8) (T := TX8) (N := 2) hx hb hts iq_X8_add_8 hown hK hP 0 rfl rfl 1 (by decide) (hts (.fieldLink RX8 15 "HubTree$Tape" "length" "I") (List.mem_of_getElem? (i := 1) rfl)) (fun _ h9 => h9) rfl dX8_add_36 ?_
    refine lv_iload_n hx hb dX8_add_39 rfl (lv_at hl 0 rfl) ?_
    refine lv_i2c hx hb dX8_add_40 rfl ?_
    refine va_cast hx hb hK hP hD hS 1 0 rfl rfl (i := (nI n)) (x := (((((z).toUInt32 >>> ((24 : Int32).toUInt32 &&& Int32.toUInt32 31)).toInt32 &&& 255)).toUInt32 % 65536).toInt32) (vp_in_nI (show n < 240 by omega) (by decide)) dX8_add_41 (fun H locs hP hD hS => ?_)
    obtain ⟨f_40, hP, hD⟩ : ∃ f9 : Nat → Int32, va_P (dC, dI) vwCl [(h, .inr (8, [.ref r, .int (nI n)])), (r, .inl (c1, 240, .inl f9))] H ∧ va_D A [(h, .inr (8, [.ref r, .int (nI n)])), (r, .inl (c1, 240, .inl f9))] := ⟨_, hP, hD⟩
    refine lv_aload_n hx hb dX8_add_42 rfl (lv_at hl 2 rfl) ?_
    refine lv_dup hx hb dX8_add_43 rfl ?_
    refine va_get (D := (dC, dI)) (ci := 8) (v := .int (nI n)) (C := RX8) (T := TX8) (N := 2) hx hb hts iq_X8_add_8 hown hK hP 0 rfl rfl 1 (by decide) (hts (.fieldLink RX8 15 "HubTree$Tape" "length" "I") (List.mem_of_getElem? (i := 1) rfl)) (fun _ h9 => h9) rfl dX8_add_44 ?_
    refine lv_iconst (v := 1) hx hb dX8_add_47 (by decide) ?_
    refine lv_iadd hx hb dX8_add_48 ?_
    refine q_top (y := nI (n + 1)) (nI_1 n) ?_
    refine va_put (D := (dC, dI)) (ci := 8) (v := .int (nI (n + 1))) (ty := .int) (C := RX8) (T := TX8) (N := 2) hx hb hts iq_X8_add_8 tyX8 tyX8_ok nmX8 hown hK hP hD hS 0 rfl rfl 1 (by decide) (hts (.fieldLink RX8 15 "HubTree$Tape" "length" "I") (List.mem_of_getElem? (i := 1) rfl)) (fun _ h9 => h9) rfl (by decide +kernel) rfl rfl (Nat.le_of_ble_eq_true rfl) dX8_add_49 (fun H locs hP hD hS => ?_)
    have hP : va_P (dC, dI) vwCl [(h, .inr (8, [.ref r, .int (nI (n + 1))])), (r, .inl (c1, 240, .inl f_40))] H := hP
    have hD : va_D A [(h, .inr (8, [.ref r, .int (nI (n + 1))])), (r, .inl (c1, 240, .inl f_40))] := hD
    refine lv_iinc (v := 16) (lv' := [(2, .int 16), (3, .int (((z).toUInt32 >>> ((24 : Int32).toUInt32 &&& Int32.toUInt32 31)).toInt32 &&& 255)), (0, .ref h), (1, .int z)]) hx hb dX8_add_52 hl (k := 1) rfl (by decide) (by decide) rfl (fun ls hl => ?_)
    refine lv_goto (tgt := 3) hx hb dX8_add_55 (by decide) ?_
    refine lv_iload_n hx hb dX8_add_3 rfl (lv_at hl 0 rfl) ?_
    refine lv_if_lt (tgt := 58) hx hb dX8_add_4 (by decide) (fun c_41 => ?_) (fun c_41 => ?_)
    · exact absurd c_41 (by decide)
    refine lv_iload_n hx hb dX8_add_7 rfl (lv_at hl 3 rfl) ?_
    refine lv_iload_n hx hb dX8_add_8 rfl (lv_at hl 0 rfl) ?_
    refine lv_iushr hx hb dX8_add_9 rfl ?_
    refine lv_sipush (v := 255) hx hb dX8_add_10 (by decide) ?_
    refine lv_iand hx hb dX8_add_13 ?_
    refine lv_istore_n (lv' := [(3, .int (((z).toUInt32 >>> ((16 : Int32).toUInt32 &&& Int32.toUInt32 31)).toInt32 &&& 255)), (2, .int 16), (0, .ref h), (1, .int z)]) hx hb dX8_add_14 rfl hl (by decide) rfl (fun ls hl => ?_)
    refine lv_iload_n hx hb dX8_add_15 rfl (lv_at hl 0 rfl) ?_
    refine lv_if_eq (tgt := 52) hx hb dX8_add_16 (by decide) (fun c_42 => ?_) (fun c_42 => ?_)
    · skip
      refine lv_iinc (v := 8) (lv' := [(2, .int 8), (3, .int (((z).toUInt32 >>> ((16 : Int32).toUInt32 &&& Int32.toUInt32 31)).toInt32 &&& 255)), (0, .ref h), (1, .int z)]) hx hb dX8_add_52 hl (k := 1) rfl (by decide) (by decide) rfl (fun ls hl => ?_)
      refine lv_goto (tgt := 3) hx hb dX8_add_55 (by decide) ?_
      refine lv_iload_n hx hb dX8_add_3 rfl (lv_at hl 0 rfl) ?_
      refine lv_if_lt (tgt := 58) hx hb dX8_add_4 (by decide) (fun c_43 => ?_) (fun c_43 => ?_)
      · exact absurd c_43 (by decide)
      refine lv_iload_n hx hb dX8_add_7 rfl (lv_at hl 3 rfl) ?_
      refine lv_iload_n hx hb dX8_add_8 rfl (lv_at hl 0 rfl) ?_
      refine lv_iushr hx hb dX8_add_9 rfl ?_
      refine lv_sipush (v := 255) hx hb dX8_add_10 (by decide) ?_
      refine lv_iand hx hb dX8_add_13 ?_
      refine lv_istore_n (lv' := [(3, .int (((z).toUInt32 >>> ((8 : Int32).toUInt32 &&& Int32.toUInt32 31)).toInt32 &&& 255)), (2, .int 8), (0, .ref h), (1, .int z)]) hx hb dX8_add_14 rfl hl (by decide) rfl (fun ls hl => ?_)
      refine lv_iload_n hx hb dX8_add_15 rfl (lv_at hl 0 rfl) ?_
      refine lv_if_eq (tgt := 52) hx hb dX8_add_16 (by decide) (fun c_44 => ?_) (fun c_44 => ?_)
      · skip
        refine lv_iinc (v := 0) (lv' := [(2, .int 0), (3, .int (((z).toUInt32 >>> ((8 : Int32).toUInt32 &&& Int32.toUInt32 31)).toInt32 &&& 255)), (0, .ref h), (1, .int z)]) hx hb dX8_add_52 hl (k := 1) rfl (by decide) (by decide) rfl (fun ls hl => ?_)
        refine lv_goto (tgt := 3) hx hb dX8_add_55 (by decide) ?_
        refine lv_iload_n hx hb dX8_add_3 rfl (lv_at hl 0 rfl) ?_
        refine lv_if_lt (tgt := 58) hx hb dX8_add_4 (by decide) (fun c_45 => ?_) (fun c_45 => ?_)
        · exact absurd c_45 (by decide)
        refine lv_iload_n hx hb dX8_add_7 rfl (lv_at hl 3 rfl) ?_
        refine lv_iload_n hx hb dX8_add_8 rfl (lv_at hl 0 rfl) ?_
        refine lv_iushr hx hb dX8_add_9 rfl ?_
        refine lv_sipush (v := 255) hx hb dX8_add_10 (by decide) ?_
        refine lv_iand hx hb dX8_add_13 ?_
        refine lv_istore_n (lv' := [(3, .int (((z).toUInt32 >>> ((0 : Int32).toUInt32 &&& Int32.toUInt32 31)).toInt32 &&& 255)), (2, .int 0), (0, .ref h), (1, .int z)]) hx hb dX8_add_14 rfl hl (by decide) rfl (fun ls hl => ?_)
        refine lv_iload_n hx hb dX8_add_15 rfl (lv_at hl 0 rfl) ?_
        refine lv_if_eq (tgt := 52) hx hb dX8_add_16 (by decide) (fun c_46 => ?_) (fun c_46 => ?_)
        · skip
          refine lv_iinc (v := (-8)) (lv' := [(2, .int (-8)), (3, .int (((z).toUInt32 >>> ((0 : Int32).toUInt32 &&& Int32.toUInt32 31)).toInt32 &&& 255)), (0, .ref h), (1, .int z)]) hx hb dX8_add_52 hl (k := 1) rfl (by decide) (by decide) rfl (fun ls hl => ?_)
          refine lv_goto (tgt := 3) hx hb dX8_add_55 (by decide) ?_
          refine lv_iload_n hx hb dX8_add_3 rfl (lv_at hl 0 rfl) ?_
          refine lv_if_lt (tgt := 58) hx hb dX8_add_4 (by decide) (fun c_47 => ?_) (fun c_47 => ?_)
          · skip
            have e9 : (n + 1) = n + q_nz z := by
              have h9 : q_nz z = 1 := by simp [q_nz, q_b, c_2, c_42, c_44, c_46]
              omega
            rw [e9] at hP hD
            have hP9 := hP.sub (ws' := [(h, .inr (8, [.ref r, .int (nI (n + q_nz z))])), (r, .inl (c1, 240, .inl f_40))]) [0, 1] rfl
            have hD9 := hD.sub (ws' := [(h, .inr (8, [.ref r, .int (nI (n + q_nz z))])), (r, .inl (c1, 240, .inl f_40))]) [0, 1] (by decide) rfl
            have hK9 := hK.sub (tys' := []) [] rfl
            exact W.vret hx hb hr (fun t ht hW => ⟨⟨f_40, rfl, trivial, by rw [ht]; exact hP9, va_K.moved hW.alike hK9, hD9⟩, hS.F ht⟩) hS.2.2 dX8_add_58
          · exact absurd (by decide) c_47
        · skip
          refine lv_aload_n hx hb dX8_add_19 rfl (lv_at hl 2 rfl) ?_
          refine va_get (D := (dC, dI)) (ci := 8) (v := .int (nI (n + 1))) (C := RX8) (T := TX8) (N := 2) hx hb hts iq_X8_add_8 hown hK hP 0 rfl rfl 1 (by decide) (hts (.fieldLink RX8 15 "HubTree$Tape" "length" "I") (List.mem_of_getElem? (i := 1) rfl)) (fun _ h9 => h9) rfl dX8_add_20 ?_
          refine lv_aload_n hx hb dX8_add_23 rfl (lv_at hl 2 rfl) ?_
          refine va_get (D := (dC, dI)) (ci := 8) (v := .ref r) (C := RX8) (T := TX8) (N := 2) hx hb hts iq_X8_add_8 hown hK hP 0 rfl rfl 0 (by decide) (hts (.fieldLink RX8 9 "HubTree$Tape" "bytes" "[C") (List.mem_of_getElem? (i := 2) rfl)) (fun _ h9 => h9) rfl dX8_add_24 ?_
          refine va_alen hx hb hK hP 1 0 rfl rfl (v := 240) rfl dX8_add_27 ?_
          refine lv_icmp_ge (tgt := 52) hx hb dX8_add_28 (by decide) (fun c_48 => ?_) (fun c_48 => ?_)
          · exact absurd c_48 (q_n240 (by omega))
          refine lv_aload_n hx hb dX8_add_31 rfl (lv_at hl 2 rfl) ?_
          refine va_get (D := (dC, dI)) (ci := 8) (v := .ref r) (C := RX8) (T := TX8) (N := 2) hx hb hts iq_X8_add_8 hown hK hP 0 rfl rfl 0 (by decide) (hts (.fieldLink RX8 9 "HubTree$Tape" "bytes" "[C") (List.mem_of_getElem? (i := 2) rfl)) (fun _ h9 => h9) rfl dX8_add_32 ?_
          refine lv_aload_n hx hb dX8_add_35 rfl (lv_at hl 2 rfl) ?_
          refine va_get (D := (dC, dI)) (ci := 8) (v := .int (nI (n + 1))) (C := RX8) (T := TX8) (N := 2) hx hb hts iq_X8_add_8 hown hK hP 0 rfl rfl 1 (by decide) (hts (.fieldLink RX8 15 "HubTree$Tape" "length" "I") (List.mem_of_getElem? (i := 1) rfl)) (fun _ h9 => h9) rfl dX8_add_36 ?_
          refine lv_iload_n hx hb dX8_add_39 rfl (lv_at hl 0 rfl) ?_
          refine lv_i2c hx hb dX8_add_40 rfl ?_
          refine va_cast hx hb hK hP hD hS 1 0 rfl rfl (i := (nI (n + 1))) (x := (((((z).toUInt32 >>> ((0 : Int32).toUInt32 &&& Int32.toUInt32 31)).toInt32 &&& 255)).toUInt32 % 65536).toInt32) (vp_in_nI (show (n + 1) < 240 by omega) (by decide)) dX8_add_41 (fun H locs hP hD hS => ?_)
          obtain ⟨f_49, hP, hD⟩ : ∃ f9 : Nat → Int32, va_P (dC, dI) vwCl [(h, .inr (8, [.ref r, .int (nI (n + 1))])), (r, .inl (c1, 240, .inl f9))] H ∧ va_D A [(h, .inr (8, [.ref r, .int (nI (n + 1))])), (r, .inl (c1, 240, .inl f9))] := ⟨_, hP, hD⟩
          refine lv_aload_n hx hb dX8_add_42 rfl (lv_at hl 2 rfl) ?_
          refine lv_dup hx hb dX8_add_43 rfl ?_
          refine va_get (D := (dC, dI)) (ci := 8) (v := .int (nI (n + 1))) (C := RX8) (T := TX8) (N := 2) hx hb hts iq_X8_add_8 hown hK hP 0 rfl rfl 1 (by decide) (hts (.fieldLink RX8 15 "HubTree$Tape" "length" "I") (List.mem_of_getElem? (i := 1) rfl)) (fun _ h9 => h9) rfl dX8_add_44 ?_
          refine lv_iconst (v := 1) hx hb dX8_add_47 (by decide) ?_
          refine lv_iadd hx hb dX8_add_48 ?_
          refine q_top (y := nI ((n + 1) + 1)) (nI_1 (n + 1)) ?_
          refine va_put (D := (dC, dI)) (ci := 8) (v := .int (nI ((n + 1) + 1))) (ty := .int) (C := RX8) (T := TX8) (N := 2) hx hb hts iq_X8_add_8 tyX8 tyX8_ok nmX8 hown hK hP hD hS 0 rfl rfl 1 (by decide) (hts (.fieldLink RX8 15 "HubTree$Tape" "length" "I") (List.mem_of_getElem? (i := 1) rfl)) (fun _ h9 => h9) rfl (by decide +kernel) rfl rfl (Nat.le_of_ble_eq_true rfl) dX8_add_49 (fun H locs hP hD hS => ?_)
          have hP : va_P (dC, dI) vwCl [(h, .inr (8, [.ref r, .int (nI ((n + 1) + 1))])), (r, .inl (c1, 240, .inl f_49))] H := hP
          have hD : va_D A [(h, .inr (8, [.ref r, .int (nI ((n + 1) + 1))])), (r, .inl (c1, 240, .inl f_49))] := hD
          refine lv_iinc (v := (-8)) (lv' := [(2, .int (-8)), (3, .int (((z).toUInt32 >>> ((0 : Int32).toUInt32 &&& Int32.toUInt32 31)).toInt32 &&& 255)), (0, .ref h), (1, .int z)]) hx hb dX8_add_52 hl (k := 1) rfl (by decide) (by decide) rfl (fun ls hl => ?_)
          refine lv_goto (tgt := 3) hx hb dX8_add_55 (by decide) ?_
          refine lv_iload_n hx hb dX8_add_3 rfl (lv_at hl 0 rfl) ?_
          refine lv_if_lt (tgt := 58) hx hb dX8_add_4 (by decide) (fun c_50 => ?_) (fun c_50 => ?_)
          · skip
            have e9 : ((n + 1) + 1) = n + q_nz z := by
              have h9 : q_nz z = 2 := by simp [q_nz, q_b, c_2, c_42, c_44, c_46]
              omega
            rw [e9] at hP hD
            have hP9 := hP.sub (ws' := [(h, .inr (8, [.ref r, .int (nI (n + q_nz z))])), (r, .inl (c1, 240, .inl f_49))]) [0, 1] rfl
            have hD9 := hD.sub (ws' := [(h, .inr (8, [.ref r, .int (nI (n + q_nz z))])), (r, .inl (c1, 240, .inl f_49))]) [0, 1] (by decide) rfl
            have hK9 := hK.sub (tys' := []) [] rfl
            exact W.vret hx hb hr (fun t ht hW => ⟨⟨f_49, rfl, trivial, by rw [ht]; exact hP9, va_K.moved hW.alike hK9, hD9⟩, hS.F ht⟩) hS.2.2 dX8_add_58
          · exact absurd (by decide) c_50
      · skip
        refine lv_aload_n hx hb dX8_add_19 rfl (lv_at hl 2 rfl) ?_
        refine va_get (D := (dC, dI)) (ci := 8) (v := .int (nI (n + 1))) (C := RX8) (T := TX8) (N := 2) hx hb hts iq_X8_add_8 hown hK hP 0 rfl rfl 1 (by decide) (hts (.fieldLink RX8 15 "HubTree$Tape" "length" "I") (List.mem_of_getElem? (i := 1) rfl)) (fun _ h9 => h9) rfl dX8_add_20 ?_
        refine lv_aload_n hx hb dX8_add_23 rfl (lv_at hl 2 rfl) ?_
        refine va_get (D := (dC, dI)) (ci := 8) (v := .ref r) (C := RX8) (T := TX8) (N := 2) hx hb hts iq_X8_add_8 hown hK hP 0 rfl rfl 0 (by decide) (hts (.fieldLink RX8 9 "HubTree$Tape" "bytes" "[C") (List.mem_of_getElem? (i := 2) rfl)) (fun _ h9 => h9) rfl dX8_add_24 ?_
        refine va_alen hx hb hK hP 1 0 rfl rfl (v := 240) rfl dX8_add_27 ?_
        refine lv_icmp_ge (tgt := 52) hx hb dX8_add_28 (by decide) (fun c_51 => ?_) (fun c_51 => ?_)
        · exact absurd c_51 (q_n240 (by omega))
        refine lv_aload_n hx hb dX8_add_31 rfl (lv_at hl 2 rfl) ?_
        refine va_get (D := (dC, dI)) (ci := 8) (v := .ref r) (C := RX8) (T := TX8) (N := 2) hx hb hts iq_X8_add_8 hown hK hP 0 rfl rfl 0 (by decide) (hts (.fieldLink RX8 9 "HubTree$Tape" "bytes" "[C") (List.mem_of_getElem? (i := 2) rfl)) (fun _ h9 => h9) rfl dX8_add_32 ?_
        refine lv_aload_n hx hb dX8_add_35 rfl (lv_at hl 2 rfl) ?_
        refine va_get (D := (dC, dI)) (ci := 8) (v := .int (nI (n + 1))) (C := RX8) (T := TX8) (N := 2) hx hb hts iq_X8_add_8 hown hK hP 0 rfl rfl 1 (by decide) (hts (.fieldLink RX8 15 "HubTree$Tape" "length" "I") (List.mem_of_getElem? (i := 1) rfl)) (fun _ h9 => h9) rfl dX8_add_36 ?_
        refine lv_iload_n hx hb dX8_add_39 rfl (lv_at hl 0 rfl) ?_
        refine lv_i2c hx hb dX8_add_40 rfl ?_
        refine va_cast hx hb hK hP hD hS 1 0 rfl rfl (i := (nI (n + 1))) (x := (((((z).toUInt32 >>> ((8 : Int32).toUInt32 &&& Int32.toUInt32 31)).toInt32 &&& 255)).toUInt32 % 65536).toInt32) (vp_in_nI (show (n + 1) < 240 by omega) (by decide)) dX8_add_41 (fun H locs hP hD hS => ?_)
        obtain ⟨f_52, hP, hD⟩ : ∃ f9 : Nat → Int32, va_P (dC, dI) vwCl [(h, .inr (8, [.ref r, .int (nI (n + 1))])), (r, .inl (c1, 240, .inl f9))] H ∧ va_D A [(h, .inr (8, [.ref r, .int (nI (n + 1))])), (r, .inl (c1, 240, .inl f9))] := ⟨_, hP, hD⟩
        refine lv_aload_n hx hb dX8_add_42 rfl (lv_at hl 2 rfl) ?_
        refine lv_dup hx hb dX8_add_43 rfl ?_
        refine va_get (D := (dC, dI)) (ci := 8) (v := .int (nI (n + 1))) (C := RX8) (T := TX8) (N := 2) hx hb hts iq_X8_add_8 hown hK hP 0 rfl rfl 1 (by decide) (hts (.fieldLink RX8 15 "HubTree$Tape" "length" "I") (List.mem_of_getElem? (i := 1) rfl)) (fun _ h9 => h9) rfl dX8_add_44 ?_
        refine lv_iconst (v := 1) hx hb dX8_add_47 (by decide) ?_
        refine lv_iadd hx hb dX8_add_48 ?_
        refine q_top (y := nI ((n + 1) + 1)) (nI_1 (n + 1)) ?_
        refine va_put (D := (dC, dI)) (ci := 8) (v := .int (nI ((n + 1) + 1))) (ty := .int) (C := RX8) (T := TX8) (N := 2) hx hb hts iq_X8_add_8 tyX8 tyX8_ok nmX8 hown hK hP hD hS 0 rfl rfl 1 (by decide) (hts (.fieldLink RX8 15 "HubTree$Tape" "length" "I") (List.mem_of_getElem? (i := 1) rfl)) (fun _ h9 => h9) rfl (by decide +kernel) rfl rfl (Nat.le_of_ble_eq_true rfl) dX8_add_49 (fun H locs hP hD hS => ?_)
        have hP : va_P (dC, dI) vwCl [(h, .inr (8, [.ref r, .int (nI ((n + 1) + 1))])), (r, .inl (c1, 240, .inl f_52))] H := hP
        have hD : va_D A [(h, .inr (8, [.ref r, .int (nI ((n + 1) + 1))])), (r, .inl (c1, 240, .inl f_52))] := hD
        refine lv_iinc (v := 0) (lv' := [(2, .int 0), (3, .int (((z).toUInt32 >>> ((8 : Int32).toUInt32 &&& Int32.toUInt32 31)).toInt32 &&& 255)), (0, .ref h), (1, .int z)]) hx hb dX8_add_52 hl (k := 1) rfl (by decide) (by decide) rfl (fun ls hl => ?_)
        refine lv_goto (tgt := 3) hx hb dX8_add_55 (by decide) ?_
        refine lv_iload_n hx hb dX8_add_3 rfl (lv_at hl 0 rfl) ?_
        refine lv_if_lt (tgt := 58) hx hb dX8_add_4 (by decide) (fun c_53 => ?_) (fun c_53 => ?_)
        · exact absurd c_53 (by decide)
        refine lv_iload_n hx hb dX8_add_7 rfl (lv_at hl 3 rfl) ?_
        refine lv_iload_n hx hb dX8_add_8 rfl (lv_at hl 0 rfl) ?_
        refine lv_iushr hx hb dX8_add_9 rfl ?_
        refine lv_sipush (v := 255) hx hb dX8_add_10 (by decide) ?_
        refine lv_iand hx hb dX8_add_13 ?_
        refine lv_istore_n (lv' := [(3, .int (((z).toUInt32 >>> ((0 : Int32).toUInt32 &&& Int32.toUInt32 31)).toInt32 &&& 255)), (2, .int 0), (0, .ref h), (1, .int z)]) hx hb dX8_add_14 rfl hl (by decide) rfl (fun ls hl => ?_)
        refine lv_iload_n hx hb dX8_add_15 rfl (lv_at hl 0 rfl) ?_
        refine lv_if_eq (tgt := 52) hx hb dX8_add_16 (by decide) (fun c_54 => ?_) (fun c_54 => ?_)
        · skip
          refine lv_iinc (v := (-8)) (lv' := [(2, .int (-8)), (3, .int (((z).toUInt32 >>> ((0 : Int32).toUInt32 &&& Int32.toUInt32 31)).toInt32 &&& 255)), (0, .ref h), (1, .int z)]) hx hb dX8_add_52 hl (k := 1) rfl (by decide) (by decide) rfl (fun ls hl => ?_)
          refine lv_goto (tgt := 3) hx hb dX8_add_55 (by decide) ?_
          refine lv_iload_n hx hb dX8_add_3 rfl (lv_at hl 0 rfl) ?_
          refine lv_if_lt (tgt := 58) hx hb dX8_add_4 (by decide) (fun c_55 => ?_) (fun c_55 => ?_)
          · skip
            have e9 : ((n + 1) + 1) = n + q_nz z := by
              have h9 : q_nz z = 2 := by simp [q_nz, q_b, c_2, c_42, c_44, c_54]
              omega
            rw [e9] at hP hD
            have hP9 := hP.sub (ws' := [(h, .inr (8, [.ref r, .int (nI (n + q_nz z))])), (r, .inl (c1, 240, .inl f_52))]) [0, 1] rfl
            have hD9 := hD.sub (ws' := [(h, .inr (8, [.ref r, .int (nI (n + q_nz z))])), (r, .inl (c1, 240, .inl f_52))]) [0, 1] (by decide) rfl
            have hK9 := hK.sub (tys' := []) [] rfl
            exact W.vret hx hb hr (fun t ht hW => ⟨⟨f_52, rfl, trivial, by rw [ht]; exact hP9, va_K.moved hW.alike hK9, hD9⟩, hS.F ht⟩) hS.2.2 dX8_add_58
          · exact absurd (by decide) c_55
        · skip
          refine lv_aload_n hx hb dX8_add_19 rfl (lv_at hl 2 rfl) ?_
          refine va_get (D := (dC, dI)) (ci := 8) (v := .int (nI ((n + 1) + 1))) (C := RX8) (T := TX8) (N := 2) hx hb hts iq_X8_add_8 hown hK hP 0 rfl rfl 1 (by decide) (hts (.fieldLink RX8 15 "HubTree$Tape" "length" "I") (List.mem_of_getElem? (i := 1) rfl)) (fun _ h9 => h9) rfl dX8_add_20 ?_
          refine lv_aload_n hx hb dX8_add_23 rfl (lv_at hl 2 rfl) ?_
          refine va_get (D := (dC, dI)) (ci := 8) (v := .ref r) (C := RX8) (T := TX8) (N := 2) hx hb hts iq_X8_add_8 hown hK hP 0 rfl rfl 0 (by decide) (hts (.fieldLink RX8 9 "HubTree$Tape" "bytes" "[C") (List.mem_of_getElem? (i := 2) rfl)) (fun _ h9 => h9) rfl dX8_add_24 ?_
          refine va_alen hx hb hK hP 1 0 rfl rfl (v := 240) rfl dX8_add_27 ?_
          refine lv_icmp_ge (tgt := 52) hx hb dX8_add_28 (by decide) (fun c_56 => ?_) (fun c_56 => ?_)
          · exact absurd c_56 (q_n240 (by omega))
          refine lv_aload_n hx hb dX8_add_31 rfl (lv_at hl 2 rfl) ?_
          refine va_get (D := (dC, dI)) (ci := 8) (v := .ref r) (C := RX8) (T := TX8) (N := 2) hx hb hts iq_X8_add_8 hown hK hP 0 rfl rfl 0 (by decide) (hts (.fieldLink RX8 9 "HubTree$Tape" "bytes" "[C") (List.mem_of_getElem? (i := 2) rfl)) (fun _ h9 => h9) rfl dX8_add_32 ?_
          refine lv_aload_n hx hb dX8_add_35 rfl (lv_at hl 2 rfl) ?_
          refine va_get (D := (dC, dI)) (ci := 8) (v := .int (nI ((n + 1) + 1))) (C := RX8) (T := TX8) (N := 2) hx hb hts iq_X8_add_8 hown hK hP 0 rfl rfl 1 (by decide) (hts (.fieldLink RX8 15 "HubTree$Tape" "length" "I") (List.mem_of_getElem? (i := 1) rfl)) (fun _ h9 => h9) rfl dX8_add_36 ?_
          refine lv_iload_n hx hb dX8_add_39 rfl (lv_at hl 0 rfl) ?_
          refine lv_i2c hx hb dX8_add_40 rfl ?_
          refine va_cast hx hb hK hP hD hS 1 0 rfl rfl (i := (nI ((n + 1) + 1))) (x := (((((z).toUInt32 >>> ((0 : Int32).toUInt32 &&& Int32.toUInt32 31)).toInt32 &&& 255)).toUInt32 % 65536).toInt32) (vp_in_nI (show ((n + 1) + 1) < 240 by omega) (by decide)) dX8_add_41 (fun H locs hP hD hS => ?_)
          obtain ⟨f_57, hP, hD⟩ : ∃ f9 : Nat → Int32, va_P (dC, dI) vwCl [(h, .inr (8, [.ref r, .int (nI ((n + 1) + 1))])), (r, .inl (c1, 240, .inl f9))] H ∧ va_D A [(h, .inr (8, [.ref r, .int (nI ((n + 1) + 1))])), (r, .inl (c1, 240, .inl f9))] := ⟨_, hP, hD⟩
          refine lv_aload_n hx hb dX8_add_42 rfl (lv_at hl 2 rfl) ?_
          refine lv_dup hx hb dX8_add_43 rfl ?_
          refine va_get (D := (dC, dI)) (ci := 8) (v := .int (nI ((n + 1) + 1))) (C := RX8) (T := TX8) (N := 2) hx hb hts iq_X8_add_8 hown hK hP 0 rfl rfl 1 (by decide) (hts (.fieldLink RX8 15 "HubTree$Tape" "length" "I") (List.mem_of_getElem? (i := 1) rfl)) (fun _ h9 => h9) rfl dX8_add_44 ?_
          refine lv_iconst (v := 1) hx hb dX8_add_47 (by decide) ?_
          refine lv_iadd hx hb dX8_add_48 ?_
          refine q_top (y := nI (((n + 1) + 1) + 1)) (nI_1 ((n + 1) + 1)) ?_
          refine va_put (D := (dC, dI)) (ci := 8) (v := .int (nI (((n + 1) + 1) + 1))) (ty := .int) (C := RX8) (T := TX8) (N := 2) hx hb hts iq_X8_add_8 tyX8 tyX8_ok nmX8 hown hK hP hD hS 0 rfl rfl 1 (by decide) (hts (.fieldLink RX8 15 "HubTree$Tape" "length" "I") (List.mem_of_getElem? (i := 1) rfl)) (fun _ h9 => h9) rfl (by decide +kernel) rfl rfl (Nat.le_of_ble_eq_true rfl) dX8_add_49 (fun H locs hP hD hS => ?_)
          have hP : va_P (dC, dI) vwCl [(h, .inr (8, [.ref r, .int (nI (((n + 1) + 1) + 1))])), (r, .inl (c1, 240, .inl f_57))] H := hP
          have hD : va_D A [(h, .inr (8, [.ref r, .int (nI (((n + 1) + 1) + 1))])), (r, .inl (c1, 240, .inl f_57))] := hD
          refine lv_iinc (v := (-8)) (lv' := [(2, .int (-8)), (3, .int (((z).toUInt32 >>> ((0 : Int32).toUInt32 &&& Int32.toUInt32 31)).toInt32 &&& 255)), (0, .ref h), (1, .int z)]) hx hb dX8_add_52 hl (k := 1) rfl (by decide) (by decide) rfl (fun ls hl => ?_)
          refine lv_goto (tgt := 3) hx hb dX8_add_55 (by decide) ?_
          refine lv_iload_n hx hb dX8_add_3 rfl (lv_at hl 0 rfl) ?_
          refine lv_if_lt (tgt := 58) hx hb dX8_add_4 (by decide) (fun c_58 => ?_) (fun c_58 => ?_)
          · skip
            have e9 : (((n + 1) + 1) + 1) = n + q_nz z := by
              have h9 : q_nz z = 3 := by simp [q_nz, q_b, c_2, c_42, c_44, c_54]
              omega
            rw [e9] at hP hD
            have hP9 := hP.sub (ws' := [(h, .inr (8, [.ref r, .int (nI (n + q_nz z))])), (r, .inl (c1, 240, .inl f_57))]) [0, 1] rfl
            have hD9 := hD.sub (ws' := [(h, .inr (8, [.ref r, .int (nI (n + q_nz z))])), (r, .inl (c1, 240, .inl f_57))]) [0, 1] (by decide) rfl
            have hK9 := hK.sub (tys' := []) [] rfl
            exact W.vret hx hb hr (fun t ht hW => ⟨⟨f_57, rfl, trivial, by rw [ht]; exact hP9, va_K.moved hW.alike hK9, hD9⟩, hS.F ht⟩) hS.2.2 dX8_add_58
          · exact absurd (by decide) c_58
    · skip
      refine lv_aload_n hx hb dX8_add_19 rfl (lv_at hl 2 rfl) ?_
      refine va_get (D := (dC, dI)) (ci := 8) (v := .int (nI (n + 1))) (C := RX8) (T := TX8) (N := 2) hx hb hts iq_X8_add_8 hown hK hP 0 rfl rfl 1 (by decide) (hts (.fieldLink RX8 15 "HubTree$Tape" "length" "I") (List.mem_of_getElem? (i := 1) rfl)) (fun _ h9 => h9) rfl dX8_add_20 ?_
      refine lv_aload_n hx hb dX8_add_23 rfl (lv_at hl 2 rfl) ?_
      refine va_get (D := (dC, dI)) (ci := 8) (v := .ref r) (C := RX8) (T := TX8) (N := 2) hx hb hts iq_X8_add_8 hown hK hP 0 rfl rfl 0 (by decide) (hts (.fieldLink RX8 9 "HubTree$Tape" "bytes" "[C") (List.mem_of_getElem? (i := 2) rfl)) (fun _ h9 => h9) rfl dX8_add_24 ?_
      refine va_alen hx hb hK hP 1 0 rfl rfl (v := 240) rfl dX8_add_27 ?_
      refine lv_icmp_ge (tgt := 52) hx hb dX8_add_28 (by decide) (fun c_59 => ?_) (fun c_59 => ?_)
      · exact absurd c_59 (q_n240 (by omega))
      refine lv_aload_n hx hb dX8_add_31 rfl (lv_at hl 2 rfl) ?_
      refine va_get (D := (dC, dI)) (ci := 8) (v := .ref r) (C := RX8) (T := TX8) (N := 2) hx hb hts iq_X8_add_8 hown hK hP 0 rfl rfl 0 (by decide) (hts (.fieldLink RX8 9 "HubTree$Tape" "bytes" "[C") (List.mem_of_getElem? (i := 2) rfl)) (fun _ h9 => h9) rfl dX8_add_32 ?_
      refine lv_aload_n hx hb dX8_add_35 rfl (lv_at hl 2 rfl) ?_
      refine va_get (D := (dC, dI)) (ci := 8) (v := .int (nI (n + 1))) (C := RX8) (T := TX8) (N := 2) hx hb hts iq_X8_add_8 hown hK hP 0 rfl rfl 1 (by decide) (hts (.fieldLink RX8 15 "HubTree$Tape" "length" "I") (List.mem_of_getElem? (i := 1) rfl)) (fun _ h9 => h9) rfl dX8_add_36 ?_
      refine lv_iload_n hx hb dX8_add_39 rfl (lv_at hl 0 rfl) ?_
      refine lv_i2c hx hb dX8_add_40 rfl ?_
      refine va_cast hx hb hK hP hD hS 1 0 rfl rfl (i := (nI (n + 1))) (x := (((((z).toUInt32 >>> ((16 : Int32).toUInt32 &&& Int32.toUInt32 31)).toInt32 &&& 255)).toUInt32 % 65536).toInt32) (vp_in_nI (show (n + 1) < 240 by omega) (by decide)) dX8_add_41 (fun H locs hP hD hS => ?_)
      obtain ⟨f_60, hP, hD⟩ : ∃ f9 : Nat → Int32, va_P (dC, dI) vwCl [(h, .inr (8, [.ref r, .int (nI (n + 1))])), (r, .inl (c1, 240, .inl f9))] H ∧ va_D A [(h, .inr (8, [.ref r, .int (nI (n + 1))])), (r, .inl (c1, 240, .inl f9))] := ⟨_, hP, hD⟩
      refine lv_aload_n hx hb dX8_add_42 rfl (lv_at hl 2 rfl) ?_
      refine lv_dup hx hb dX8_add_43 rfl ?_
      refine va_get (D := (dC, dI)) (ci := 8) (v := .int (nI (n + 1))) (C := RX8) (T := TX8) (N := 2) hx hb hts iq_X8_add_8 hown hK hP 0 rfl rfl 1 (by decide) (hts (.fieldLink RX8 15 "HubTree$Tape" "length" "I") (List.mem_of_getElem? (i := 1) rfl)) (fun _ h9 => h9) rfl dX8_add_44 ?_
      refine lv_iconst (v := 1) hx hb dX8_add_47 (by decide) ?_
      refine lv_iadd hx hb dX8_add_48 ?_
      refine q_top (y := nI ((n + 1) + 1)) (nI_1 (n + 1)) ?_
      refine va_put (D := (dC, dI)) (ci := 8) (v := .int (nI ((n + 1) + 1))) (ty := .int) (C := RX8) (T := TX8) (N := 2) hx hb hts iq_X8_add_8 tyX8 tyX8_ok nmX8 hown hK hP hD hS 0 rfl rfl 1 (by decide) (hts (.fieldLink RX8 15 "HubTree$Tape" "length" "I") (List.mem_of_getElem? (i := 1) rfl)) (fun _ h9 => h9) rfl (by decide +kernel) rfl rfl (Nat.le_of_ble_eq_true rfl) dX8_add_49 (fun H locs hP hD hS => ?_)
      have hP : va_P (dC, dI) vwCl [(h, .inr (8, [.ref r, .int (nI ((n + 1) + 1))])), (r, .inl (c1, 240, .inl f_60))] H := hP
      have hD : va_D A [(h, .inr (8, [.ref r, .int (nI ((n + 1) + 1))])), (r, .inl (c1, 240, .inl f_60))] := hD
      refine lv_iinc (v := 8) (lv' := [(2, .int 8), (3, .int (((z).toUInt32 >>> ((16 : Int32).toUInt32 &&& Int32.toUInt32 31)).toInt32 &&& 255)), (0, .ref h), (1, .int z)]) hx hb dX8_add_52 hl (k := 1) rfl (by decide) (by decide) rfl (fun ls hl => ?_)
      refine lv_goto (tgt := 3) hx hb dX8_add_55 (by decide) ?_
      refine lv_iload_n hx hb dX8_add_3 rfl (lv_at hl 0 rfl) ?_
      refine lv_if_lt (tgt := 58) hx hb dX8_add_4 (by decide) (fun c_61 => ?_) (fun c_61 => ?_)
      · exact absurd c_61 (by decide)
      refine lv_iload_n hx hb dX8_add_7 rfl (lv_at hl 3 rfl) ?_
      refine lv_iload_n hx hb dX8_add_8 rfl (lv_at hl 0 rfl) ?_
      refine lv_iushr hx hb dX8_add_9 rfl ?_
      refine lv_sipush (v := 255) hx hb dX8_add_10 (by decide) ?_
      refine lv_iand hx hb dX8_add_13 ?_
      refine lv_istore_n (lv' := [(3, .int (((z).toUInt32 >>> ((8 : Int32).toUInt32 &&& Int32.toUInt32 31)).toInt32 &&& 255)), (2, .int 8), (0, .ref h), (1, .int z)]) hx hb dX8_add_14 rfl hl (by decide) rfl (fun ls hl => ?_)
      refine lv_iload_n hx hb dX8_add_15 rfl (lv_at hl 0 rfl) ?_
      refine lv_if_eq (tgt := 52) hx hb dX8_add_16 (by decide) (fun c_62 => ?_) (fun c_62 => ?_)
      · skip
        refine lv_iinc (v := 0) (lv' := [(2, .int 0), (3, .int (((z).toUInt32 >>> ((8 : Int32).toUInt32 &&& Int32.toUInt32 31)).toInt32 &&& 255)), (0, .ref h), (1, .int z)]) hx hb dX8_add_52 hl (k := 1) rfl (by decide) (by decide) rfl (fun ls hl => ?_)
        refine lv_goto (tgt := 3) hx hb dX8_add_55 (by decide) ?_
        refine lv_iload_n hx hb dX8_add_3 rfl (lv_at hl 0 rfl) ?_
        refine lv_if_lt (tgt := 58) hx hb dX8_add_4 (by decide) (fun c_63 => ?_) (fun c_63 => ?_)
        · exact absurd c_63 (by decide)
        refine lv_iload_n hx hb dX8_add_7 rfl (lv_at hl 3 rfl) ?_
        refine lv_iload_n hx hb dX8_add_8 rfl (lv_at hl 0 rfl) ?_
        refine lv_iushr hx hb dX8_add_9 rfl ?_
        refine lv_sipush (v := 255) hx hb dX8_add_10 (by decide) ?_
        refine lv_iand hx hb dX8_add_13 ?_
        refine lv_istore_n (lv' := [(3, .int (((z).toUInt32 >>> ((0 : Int32).toUInt32 &&& Int32.toUInt32 31)).toInt32 &&& 255)), (2, .int 0), (0, .ref h), (1, .int z)]) hx hb dX8_add_14 rfl hl (by decide) rfl (fun ls hl => ?_)
        refine lv_iload_n hx hb dX8_add_15 rfl (lv_at hl 0 rfl) ?_
        refine lv_if_eq (tgt := 52) hx hb dX8_add_16 (by decide) (fun c_64 => ?_) (fun c_64 => ?_)
        · skip
          refine lv_iinc (v := (-8)) (lv' := [(2, .int (-8)), (3, .int (((z).toUInt32 >>> ((0 : Int32).toUInt32 &&& Int32.toUInt32 31)).toInt32 &&& 255)), (0, .ref h), (1, .int z)]) hx hb dX8_add_52 hl (k := 1) rfl (by decide) (by decide) rfl (fun ls hl => ?_)
          refine lv_goto (tgt := 3) hx hb dX8_add_55 (by decide) ?_
          refine lv_iload_n hx hb dX8_add_3 rfl (lv_at hl 0 rfl) ?_
          refine lv_if_lt (tgt := 58) hx hb dX8_add_4 (by decide) (fun c_65 => ?_) (fun c_65 => ?_)
          · skip
            have e9 : ((n + 1) + 1) = n + q_nz z := by
              have h9 : q_nz z = 2 := by simp [q_nz, q_b, c_2, c_42, c_62, c_64]
              omega
            rw [e9] at hP hD
            have hP9 := hP.sub (ws' := [(h, .inr (8, [.ref r, .int (nI (n + q_nz z))])), (r, .inl (c1, 240, .inl f_60))]) [0, 1] rfl
            have hD9 := hD.sub (ws' := [(h, .inr (8, [.ref r, .int (nI (n + q_nz z))])), (r, .inl (c1, 240, .inl f_60))]) [0, 1] (by decide) rfl
            have hK9 := hK.sub (tys' := []) [] rfl
            exact W.vret hx hb hr (fun t ht hW => ⟨⟨f_60, rfl, trivial, by rw [ht]; exact hP9, va_K.moved hW.alike hK9, hD9⟩, hS.F ht⟩) hS.2.2 dX8_add_58
          · exact absurd (by decide) c_65
        · skip
          refine lv_aload_n hx hb dX8_add_19 rfl (lv_at hl 2 rfl) ?_
          refine va_get (D := (dC, dI)) (ci := 8) (v := .int (nI ((n + 1) + 1))) (C := RX8) (T := TX8) (N := 2) hx hb hts iq_X8_add_8 hown hK hP 0 rfl rfl 1 (by decide) (hts (.fieldLink RX8 15 "HubTree$Tape" "length" "I") (List.mem_of_getElem? (i := 1) rfl)) (fun _ h9 => h9) rfl dX8_add_20 ?_
          refine lv_aload_n hx hb dX8_add_23 rfl (lv_at hl 2 rfl) ?_
          refine va_get (D := (dC, dI)) (ci := 8) (v := .ref r) (C := RX8) (T := TX8) (N := 2) hx hb hts iq_X8_add_8 hown hK hP 0 rfl rfl 0 (by decide) (hts (.fieldLink RX8 9 "HubTree$Tape" "bytes" "[C") (List.mem_of_getElem? (i := 2) rfl)) (fun _ h9 => h9) rfl dX8_add_24 ?_
          refine va_alen hx hb hK hP 1 0 rfl rfl (v := 240) rfl dX8_add_27 ?_
          refine lv_icmp_ge (tgt := 52) hx hb dX8_add_28 (by decide) (fun c_66 => ?_) (fun c_66 => ?_)
          · exact absurd c_66 (q_n240 (by omega))
          refine lv_aload_n hx hb dX8_add_31 rfl (lv_at hl 2 rfl) ?_
          refine va_get (D := (dC, dI)) (ci := 8) (v := .ref r) (C := RX8) (T := TX8) (N := 2) hx hb hts iq_X8_add_8 hown hK hP 0 rfl rfl 0 (by decide) (hts (.fieldLink RX8 9 "HubTree$Tape" "bytes" "[C") (List.mem_of_getElem? (i := 2) rfl)) (fun _ h9 => h9) rfl dX8_add_32 ?_
          refine lv_aload_n hx hb dX8_add_35 rfl (lv_at hl 2 rfl) ?_
          refine va_get (D := (dC, dI)) (ci := 8) (v := .int (nI ((n + 1) + 1))) (C := RX8) (T := TX8) (N := 2) hx hb hts iq_X8_add_8 hown hK hP 0 rfl rfl 1 (by decide) (hts (.fieldLink RX8 15 "HubTree$Tape" "length" "I") (List.mem_of_getElem? (i := 1) rfl)) (fun _ h9 => h9) rfl dX8_add_36 ?_
          refine lv_iload_n hx hb dX8_add_39 rfl (lv_at hl 0 rfl) ?_
          refine lv_i2c hx hb dX8_add_40 rfl ?_
          refine va_cast hx hb hK hP hD hS 1 0 rfl rfl (i := (nI ((n + 1) + 1))) (x := (((((z).toUInt32 >>> ((0 : Int32).toUInt32 &&& Int32.toUInt32 31)).toInt32 &&& 255)).toUInt32 % 65536).toInt32) (vp_in_nI (show ((n + 1) + 1) < 240 by omega) (by decide)) dX8_add_41 (fun H locs hP hD hS => ?_)
          obtain ⟨f_67, hP, hD⟩ : ∃ f9 : Nat → Int32, va_P (dC, dI) vwCl [(h, .inr (8, [.ref r, .int (nI ((n + 1) + 1))])), (r, .inl (c1, 240, .inl f9))] H ∧ va_D A [(h, .inr (8, [.ref r, .int (nI ((n + 1) + 1))])), (r, .inl (c1, 240, .inl f9))] := ⟨_, hP, hD⟩
          refine lv_aload_n hx hb dX8_add_42 rfl (lv_at hl 2 rfl) ?_
          refine lv_dup hx hb dX8_add_43 rfl ?_
          refine va_get (D := (dC, dI)) (ci := 8) (v := .int (nI ((n + 1) + 1))) (C := RX8) (T := TX8) (N := 2) hx hb hts iq_X8_add_8 hown hK hP 0 rfl rfl 1 (by decide) (hts (.fieldLink RX8 15 "HubTree$Tape" "length" "I") (List.mem_of_getElem? (i := 1) rfl)) (fun _ h9 => h9) rfl dX8_add_44 ?_
          refine lv_iconst (v := 1) hx hb dX8_add_47 (by decide) ?_
          refine lv_iadd hx hb dX8_add_48 ?_
          refine q_top (y := nI (((n + 1) + 1) + 1)) (nI_1 ((n + 1) + 1)) ?_
          refine va_put (D := (dC, dI)) (ci := 8) (v := .int (nI (((n + 1) + 1) + 1))) (ty := .int) (C := RX8) (T := TX8) (N := 2) hx hb hts iq_X8_add_8 tyX8 tyX8_ok nmX8 hown hK hP hD hS 0 rfl rfl 1 (by decide) (hts (.fieldLink RX8 15 "HubTree$Tape" "length" "I") (List.mem_of_getElem? (i := 1) rfl)) (fun _ h9 => h9) rfl (by decide +kernel) rfl rfl (Nat.le_of_ble_eq_true rfl) dX8_add_49 (fun H locs hP hD hS => ?_)
          have hP : va_P (dC, dI) vwCl [(h, .inr (8, [.ref r, .int (nI (((n + 1) + 1) + 1))])), (r, .inl (c1, 240, .inl f_67))] H := hP
          have hD : va_D A [(h, .inr (8, [.ref r, .int (nI (((n + 1) + 1) + 1))])), (r, .inl (c1, 240, .inl f_67))] := hD
          refine lv_iinc (v := (-8)) (lv' := [(2, .int (-8)), (3, .int (((z).toUInt32 >>> ((0 : Int32).toUInt32 &&& Int32.toUInt32 31)).toInt32 &&& 255)), (0, .ref h), (1, .int z)]) hx hb dX8_add_52 hl (k := 1) rfl (by decide) (by decide) rfl (fun ls hl => ?_)
          refine lv_goto (tgt := 3) hx hb dX8_add_55 (by decide) ?_
          refine lv_iload_n hx hb dX8_add_3 rfl (lv_at hl 0 rfl) ?_
          refine lv_if_lt (tgt := 58) hx hb dX8_add_4 (by decide) (fun c_68 => ?_) (fun c_68 => ?_)
          · skip
            have e9 : (((n + 1) + 1) + 1) = n + q_nz z := by
              have h9 : q_nz z = 3 := by simp [q_nz, q_b, c_2, c_42, c_62, c_64]
              omega
            rw [e9] at hP hD
            have hP9 := hP.sub (ws' := [(h, .inr (8, [.ref r, .int (nI (n + q_nz z))])), (r, .inl (c1, 240, .inl f_67))]) [0, 1] rfl
            have hD9 := hD.sub (ws' := [(h, .inr (8, [.ref r, .int (nI (n + q_nz z))])), (r, .inl (c1, 240, .inl f_67))]) [0, 1] (by decide) rfl
            have hK9 := hK.sub (tys' := []) [] rfl
            exact W.vret hx hb hr (fun t ht hW => ⟨⟨f_67, rfl, trivial, by rw [ht]; exact hP9, va_K.moved hW.alike hK9, hD9⟩, hS.F ht⟩) hS.2.2 dX8_add_58
          · exact absurd (by decide) c_68
      · skip
        refine lv_aload_n hx hb dX8_add_19 rfl (lv_at hl 2 rfl) ?_
        refine va_get (D := (dC, dI)) (ci := 8) (v := .int (nI ((n + 1) + 1))) (C := RX8) (T := TX8) (N := 2) hx hb hts iq_X8_add_8 hown hK hP 0 rfl rfl 1 (by decide) (hts (.fieldLink RX8 15 "HubTree$Tape" "length" "I") (List.mem_of_getElem? (i := 1) rfl)) (fun _ h9 => h9) rfl dX8_add_20 ?_
        refine lv_aload_n hx hb dX8_add_23 rfl (lv_at hl 2 rfl) ?_
        refine va_get (D := (dC, dI)) (ci := 8) (v := .ref r) (C := RX8) (T := TX8) (N := 2) hx hb hts iq_X8_add_8 hown hK hP 0 rfl rfl 0 (by decide) (hts (.fieldLink RX8 9 "HubTree$Tape" "bytes" "[C") (List.mem_of_getElem? (i := 2) rfl)) (fun _ h9 => h9) rfl dX8_add_24 ?_
        refine va_alen hx hb hK hP 1 0 rfl rfl (v := 240) rfl dX8_add_27 ?_
        refine lv_icmp_ge (tgt := 52) hx hb dX8_add_28 (by decide) (fun c_69 => ?_) (fun c_69 => ?_)
        · exact absurd c_69 (q_n240 (by omega))
        refine lv_aload_n hx hb dX8_add_31 rfl (lv_at hl 2 rfl) ?_
        refine va_get (D := (dC, dI)) (ci := 8) (v := .ref r) (C := RX8) (T := TX8) (N := 2) hx hb hts iq_X8_add_8 hown hK hP 0 rfl rfl 0 (by decide) (hts (.fieldLink RX8 9 "HubTree$Tape" "bytes" "[C") (List.mem_of_getElem? (i := 2) rfl)) (fun _ h9 => h9) rfl dX8_add_32 ?_
        refine lv_aload_n hx hb dX8_add_35 rfl (lv_at hl 2 rfl) ?_
        refine va_get (D := (dC, dI)) (ci := 8) (v := .int (nI ((n + 1) + 1))) (C := RX8) (T := TX8) (N := 2) hx hb hts iq_X8_add_8 hown hK hP 0 rfl rfl 1 (by decide) (hts (.fieldLink RX8 15 "HubTree$Tape" "length" "I") (List.mem_of_getElem? (i := 1) rfl)) (fun _ h9 => h9) rfl dX8_add_36 ?_
        refine lv_iload_n hx hb dX8_add_39 rfl (lv_at hl 0 rfl) ?_
        refine lv_i2c hx hb dX8_add_40 rfl ?_
        refine va_cast hx hb hK hP hD hS 1 0 rfl rfl (i := (nI ((n + 1) + 1))) (x := (((((z).toUInt32 >>> ((8 : Int32).toUInt32 &&& Int32.toUInt32 31)).toInt32 &&& 255)).toUInt32 % 65536).toInt32) (vp_in_nI (show ((n + 1) + 1) < 240 by omega) (by decide)) dX8_add_41 (fun H locs hP hD hS => ?_)
        obtain ⟨f_70, hP, hD⟩ : ∃ f9 : Nat → Int32, va_P (dC, dI) vwCl [(h, .inr (8, [.ref r, .int (nI ((n + 1) + 1))])), (r, .inl (c1, 240, .inl f9))] H ∧ va_D A [(h, .inr (8, [.ref r, .int (nI ((n + 1) + 1))])), (r, .inl (c1, 240, .inl f9))] := ⟨_, hP, hD⟩
        refine lv_aload_n hx hb dX8_add_42 rfl (lv_at hl 2 rfl) ?_
        refine lv_dup hx hb dX8_add_43 rfl ?_
        refine va_get (D := (dC, dI)) (ci := 8) (v := .int (nI ((n + 1) + 1))) (C := RX8) (T := TX8) (N := 2) hx hb hts iq_X8_add_8 hown hK hP 0 rfl rfl 1 (by decide) (hts (.fieldLink RX8 15 "HubTree$Tape" "length" "I") (List.mem_of_getElem? (i := 1) rfl)) (fun _ h9 => h9) rfl dX8_add_44 ?_
        refine lv_iconst (v := 1) hx hb dX8_add_47 (by decide) ?_
        refine lv_iadd hx hb dX8_add_48 ?_
        refine q_top (y := nI (((n + 1) + 1) + 1)) (nI_1 ((n + 1) + 1)) ?_
        refine va_put (D := (dC, dI)) (ci := 8) (v := .int (nI (((n + 1) + 1) + 1))) (ty := .int) (C := RX8) (T := TX8) (N := 2) hx hb hts iq_X8_add_8 tyX8 tyX8_ok nmX8 hown hK hP hD hS 0 rfl rfl 1 (by decide) (hts (.fieldLink RX8 15 "HubTree$Tape" "length" "I") (List.mem_of_getElem? (i := 1) rfl)) (fun _ h9 => h9) rfl (by decide +kernel) rfl rfl (Nat.le_of_ble_eq_true rfl) dX8_add_49 (fun H locs hP hD hS => ?_)
        have hP : va_P (dC, dI) vwCl [(h, .inr (8, [.ref r, .int (nI (((n + 1) + 1) + 1))])), (r, .inl (c1, 240, .inl f_70))] H := hP
        have hD : va_D A [(h, .inr (8, [.ref r, .int (nI (((n + 1) + 1) + 1))])), (r, .inl (c1, 240, .inl f_70))] := hD
        refine lv_iinc (v := 0) (lv' := [(2, .int 0), (3, .int (((z).toUInt32 >>> ((8 : Int32).toUInt32 &&& Int32.toUInt32 31)).toInt32 &&& 255)), (0, .ref h), (1, .int z)]) hx hb dX8_add_52 hl (k := 1) rfl (by decide) (by decide) rfl (fun ls hl => ?_)
        refine lv_goto (tgt := 3) hx hb dX8_add_55 (by decide) ?_
        refine lv_iload_n hx hb dX8_add_3 rfl (lv_at hl 0 rfl) ?_
        refine lv_if_lt (tgt := 58) hx hb dX8_add_4 (by decide) (fun c_71 => ?_) (fun c_71 => ?_)
        · exact absurd c_71 (by decide)
        refine lv_iload_n hx hb dX8_add_7 rfl (lv_at hl 3 rfl) ?_
        refine lv_iload_n hx hb dX8_add_8 rfl (lv_at hl 0 rfl) ?_
        refine lv_iushr hx hb dX8_add_9 rfl ?_
        refine lv_sipush (v := 255) hx hb dX8_add_10 (by decide) ?_
        refine lv_iand hx hb dX8_add_13 ?_
        refine lv_istore_n (lv' := [(3, .int (((z).toUInt32 >>> ((0 : Int32).toUInt32 &&& Int32.toUInt32 31)).toInt32 &&& 255)), (2, .int 0), (0, .ref h), (1, .int z)]) hx hb dX8_add_14 rfl hl (by decide) rfl (fun ls hl => ?_)
        refine lv_iload_n hx hb dX8_add_15 rfl (lv_at hl 0 rfl) ?_
        refine lv_if_eq (tgt := 52) hx hb dX8_add_16 (by decide) (fun c_72 => ?_) (fun c_72 => ?_)
        · skip
          refine lv_iinc (v := (-8)) (lv' := [(2, .int (-8)), (3, .int (((z).toUInt32 >>> ((0 : Int32).toUInt32 &&& Int32.toUInt32 31)).toInt32 &&& 255)), (0, .ref h), (1, .int z)]) hx hb dX8_add_52 hl (k := 1) rfl (by decide) (by decide) rfl (fun ls hl => ?_)
          refine lv_goto (tgt := 3) hx hb dX8_add_55 (by decide) ?_
          refine lv_iload_n hx hb dX8_add_3 rfl (lv_at hl 0 rfl) ?_
          refine lv_if_lt (tgt := 58) hx hb dX8_add_4 (by decide) (fun c_73 => ?_) (fun c_73 => ?_)
          · skip
            have e9 : (((n + 1) + 1) + 1) = n + q_nz z := by
              have h9 : q_nz z = 3 := by simp [q_nz, q_b, c_2, c_42, c_62, c_72]
              omega
            rw [e9] at hP hD
            have hP9 := hP.sub (ws' := [(h, .inr (8, [.ref r, .int (nI (n + q_nz z))])), (r, .inl (c1, 240, .inl f_70))]) [0, 1] rfl
            have hD9 := hD.sub (ws' := [(h, .inr (8, [.ref r, .int (nI (n + q_nz z))])), (r, .inl (c1, 240, .inl f_70))]) [0, 1] (by decide) rfl
            have hK9 := hK.sub (tys' := []) [] rfl
            exact W.vret hx hb hr (fun t ht hW => ⟨⟨f_70, rfl, trivial, by rw [ht]; exact hP9, va_K.moved hW.alike hK9, hD9⟩, hS.F ht⟩) hS.2.2 dX8_add_58
          · exact absurd (by decide) c_73
        · skip
          refine lv_aload_n hx hb dX8_add_19 rfl (lv_at hl 2 rfl) ?_
          refine va_get (D := (dC, dI)) (ci := 8) (v := .int (nI (((n + 1) + 1) + 1))) (C := RX8) (T := TX8) (N := 2) hx hb hts iq_X8_add_8 hown hK hP 0 rfl rfl 1 (by decide) (hts (.fieldLink RX8 15 "HubTree$Tape" "length" "I") (List.mem_of_getElem? (i := 1) rfl)) (fun _ h9 => h9) rfl dX8_add_20 ?_
          refine lv_aload_n hx hb dX8_add_23 rfl (lv_at hl 2 rfl) ?_
          refine va_get (D := (dC, dI)) (ci := 8) (v := .ref r) (C := RX8) (T := TX8) (N := 2) hx hb hts iq_X8_add_8 hown hK hP 0 rfl rfl 0 (by decide) (hts (.fieldLink RX8 9 "HubTree$Tape" "bytes" "[C") (List.mem_of_getElem? (i := 2) rfl)) (fun _ h9 => h9) rfl dX8_add_24 ?_
          refine va_alen hx hb hK hP 1 0 rfl rfl (v := 240) rfl dX8_add_27 ?_
          refine lv_icmp_ge (tgt := 52) hx hb dX8_add_28 (by decide) (fun c_74 => ?_) (fun c_74 => ?_)
          · exact absurd c_74 (q_n240 (by omega))
          refine lv_aload_n hx hb dX8_add_31 rfl (lv_at hl 2 rfl) ?_
          refine va_get (D := (dC, dI)) (ci := 8) (v := .ref r) (C := RX8) (T := TX8) (N := 2) hx hb hts iq_X8_add_8 hown hK hP 0 rfl rfl 0 (by decide) (hts (.fieldLink RX8 9 "HubTree$Tape" "bytes" "[C") (List.mem_of_getElem? (i := 2) rfl)) (fun _ h9 => h9) rfl dX8_add_32 ?_
          refine lv_aload_n hx hb dX8_add_35 rfl (lv_at hl 2 rfl) ?_
          refine va_get (D := (dC, dI)) (ci := 8) (v := .int (nI (((n + 1) + 1) + 1))) (C := RX8) (T := TX8) (N := 2) hx hb hts iq_X8_add_8 hown hK hP 0 rfl rfl 1 (by decide) (hts (.fieldLink RX8 15 "HubTree$Tape" "length" "I") (List.mem_of_getElem? (i := 1) rfl)) (fun _ h9 => h9) rfl dX8_add_36 ?_
          refine lv_iload_n hx hb dX8_add_39 rfl (lv_at hl 0 rfl) ?_
          refine lv_i2c hx hb dX8_add_40 rfl ?_
          refine va_cast hx hb hK hP hD hS 1 0 rfl rfl (i := (nI (((n + 1) + 1) + 1))) (x := (((((z).toUInt32 >>> ((0 : Int32).toUInt32 &&& Int32.toUInt32 31)).toInt32 &&& 255)).toUInt32 % 65536).toInt32) (vp_in_nI (show (((n + 1) + 1) + 1) < 240 by omega) (by decide)) dX8_add_41 (fun H locs hP hD hS => ?_)
          obtain ⟨f_75, hP, hD⟩ : ∃ f9 : Nat → Int32, va_P (dC, dI) vwCl [(h, .inr (8, [.ref r, .int (nI (((n + 1) + 1) + 1))])), (r, .inl (c1, 240, .inl f9))] H ∧ va_D A [(h, .inr (8, [.ref r, .int (nI (((n + 1) + 1) + 1))])), (r, .inl (c1, 240, .inl f9))] := ⟨_, hP, hD⟩
          refine lv_aload_n hx hb dX8_add_42 rfl (lv_at hl 2 rfl) ?_
          refine lv_dup hx hb dX8_add_43 rfl ?_
          refine va_get (D := (dC, dI)) (ci := 8) (v := .int (nI (((n + 1) + 1) + 1))) (C := RX8) (T := TX8) (N := 2) hx hb hts iq_X8_add_8 hown hK hP 0 rfl rfl 1 (by decide) (hts (.fieldLink RX8 15 "HubTree$Tape" "length" "I") (List.mem_of_getElem? (i := 1) rfl)) (fun _ h9 => h9) rfl dX8_add_44 ?_
          refine lv_iconst (v := 1) hx hb dX8_add_47 (by decide) ?_
          refine lv_iadd hx hb dX8_add_48 ?_
          refine q_top (y := nI ((((n + 1) + 1) + 1) + 1)) (nI_1 (((n + 1) + 1) + 1)) ?_
          refine va_put (D := (dC, dI)) (ci := 8) (v := .int (nI ((((n + 1) + 1) + 1) + 1))) (ty := .int) (C := RX8) (T := TX8) (N := 2) hx hb hts iq_X8_add_8 tyX8 tyX8_ok nmX8 hown hK hP hD hS 0 rfl rfl 1 (by decide) (hts (.fieldLink RX8 15 "HubTree$Tape" "length" "I") (List.mem_of_getElem? (i := 1) rfl)) (fun _ h9 => h9) rfl (by decide +kernel) rfl rfl (Nat.le_of_ble_eq_true rfl) dX8_add_49 (fun H locs hP hD hS => ?_)
          have hP : va_P (dC, dI) vwCl [(h, .inr (8, [.ref r, .int (nI ((((n + 1) + 1) + 1) + 1))])), (r, .inl (c1, 240, .inl f_75))] H := hP
          have hD : va_D A [(h, .inr (8, [.ref r, .int (nI ((((n + 1) + 1) + 1) + 1))])), (r, .inl (c1, 240, .inl f_75))] := hD
          refine lv_iinc (v := (-8)) (lv' := [(2, .int (-8)), (3, .int (((z).toUInt32 >>> ((0 : Int32).toUInt32 &&& Int32.toUInt32 31)).toInt32 &&& 255)), (0, .ref h), (1, .int z)]) hx hb dX8_add_52 hl (k := 1) rfl (by decide) (by decide) rfl (fun ls hl => ?_)
          refine lv_goto (tgt := 3) hx hb dX8_add_55 (by decide) ?_
          refine lv_iload_n hx hb dX8_add_3 rfl (lv_at hl 0 rfl) ?_
          refine lv_if_lt (tgt := 58) hx hb dX8_add_4 (by decide) (fun c_76 => ?_) (fun c_76 => ?_)
          · skip
            have e9 : ((((n + 1) + 1) + 1) + 1) = n + q_nz z := by
              have h9 : q_nz z = 4 := by simp [q_nz, q_b, c_2, c_42, c_62, c_72]
              omega
            rw [e9] at hP hD
            have hP9 := hP.sub (ws' := [(h, .inr (8, [.ref r, .int (nI (n + q_nz z))])), (r, .inl (c1, 240, .inl f_75))]) [0, 1] rfl
            have hD9 := hD.sub (ws' := [(h, .inr (8, [.ref r, .int (nI (n + q_nz z))])), (r, .inl (c1, 240, .inl f_75))]) [0, 1] (by decide) rfl
            have hK9 := hK.sub (tys' := []) [] rfl
            exact W.vret hx hb hr (fun t ht hW => ⟨⟨f_75, rfl, trivial, by rw [ht]; exact hP9, va_K.moved hW.alike hK9, hD9⟩, hS.F ht⟩) hS.2.2 dX8_add_58
          · exact absurd (by decide) c_76

def wq_X9_feed : List Cond := .code yX9_feed cX9_feed 7 (some .int) :: ([.methodLink RX9 98 yX8_bytesIn, .static yX8_bytesIn, .initialized RX8, .code yX8_bytesIn cX8_bytesIn 3 (some .int), .fieldLink RX9 12 "HubTree" "tape" "LHubTree$Tape;", .fieldLink RX9 102 "HubTree$Tape" "length" "I", .methodLink RX9 106 yX8_add, .instanceMethod yX8_add, .selects RX8 yX8_add yX8_add, .code yX8_add cX8_add 4 none, .fieldLink RX8 15 "HubTree$Tape" "length" "I", .fieldLink RX8 9 "HubTree$Tape" "bytes" "[C"] ++ wsX90 ++ wsX80)
set_option maxRecDepth 20000 in
theorem g_X9_feed_X8_bytesIn_98 : GoodIn wq_X9_feed (va_wsS RX9 98 yX8_bytesIn wq_X8_bytesIn) := goodIn_r _ [1, 2, 3, 4] (by decide +kernel) (by decide +kernel)
set_option maxRecDepth 20000 in
theorem g_X9_feed_X8_add_106 : GoodIn wq_X9_feed (wsV RX9 106 RX8 yX8_add wq_X8_add) := goodIn_r _ [7, 8, 9, 3, 10, 11, 12, 28, 29] (by decide +kernel) (by decide +kernel)
theorem iq_X9_feed_9 : ∀ w ∈ wsX90, w ∈ wq_X9_feed := fun _ h => List.mem_cons_of_mem _ (List.mem_append_left _ (List.mem_append_right _ h))
theorem iq_X9_feed_8 : ∀ w ∈ wsX80, w ∈ wq_X9_feed := fun _ h => List.mem_cons_of_mem _ (List.mem_append_right _ h)
set_option maxHeartbeats 4000000 in
set_option maxRecDepth 100000 in
theorem c_X9_feed (l : Launch) (dC : Nat → ClassId) (dI : Nat → Nat → Nat) (a : Nat → Nat) (k : Nat → ClassId) (z1 : Int32) (z2 : Int32) (z3 : Int32) (z4 : Int32) (z5 : Int32) (A : Nat → Prop) : Met l yX9_feed wq_X9_feed ({ frames := 1, cells := 0, slots := 0, locals := 23 }) (va_Pc [.ref (a 0), .int z1, .int z2, .int z3, .int z4, .int z5] (q_W (dC, dI) A [((a 0), .inr (9, [.ref (a 1), .ref (a 3), .ref (a 4), .ref (a 7), .ref (a 10), .ref (a 14), .ref (a 16), .ref (a 18), .ref (a 19), .ref (a 21), .ref (a 23), .ref (a 25), .ref (a 27), .ref (a 28), .int 0])), ((a 1), .inr (8, [.ref (a 2), .int 0])), ((a 2), .inl ((k 2), 240, .inl (fun _ => 0)))] [((k 2), .char)])) (q_wi ((nI (((((0 + q_nz z1) + q_nz z2) + q_nz z3) + q_nz z4) + q_nz z5))) A) 0 0 A := by
  refine Met.ofW (cc := cX9_feed) (maxL := 7) (ret := (some .int)) (by decide) rfl ?_
  intro p e s m args below meth c s₁ B hml hv
  obtain ⟨rfl, hP, hK, hD, hA⟩ := hv
  have hx := B.exec
  have hb := B.bytes
  have hr := B.returns
  have hts := atoms_spec (ws := wq_X9_feed) B.pre
  have hown : s.vm.findClass RX9 = some m.cls := findClass_of_methodNamed B.named
  have hlocks := B.notSynchronized
  have hS : va_S A s.heap s.heap [] := va_S.rf
  have hl := lv_entry ([.ref (a 0), .int z1, .int z2, .int z3, .int z4, .int z5]) (n := 7) (Nat.le_of_ble_eq_true rfl)
  rw [lg_entry_eq]
  generalize (lg_sl ([.ref (a 0), .int z1, .int z2, .int z3, .int z4, .int z5]) ++ List.replicate (7 - (lg_sl ([.ref (a 0), .int z1, .int z2, .int z3, .int z4, .int z5])).length) Slot.unset).toArray = ls at hl ⊢
  have hl : lv_has ls 7 [(0, .ref (a 0)), (1, .int z1), (2, .int z2), (3, .int z3), (4, .int z4), (5, .int z5)] := hl
  refine lv_iload_n hx hb dX9_feed_0 rfl (lv_at hl 1 rfl) ?_
  refine q_goi (v := (nI (q_nz z1))) (va_runS (As := [.int z1]) (rest := []) ⟨hx, hb, hml, hown, hts⟩ (c_X8_bytesIn l dC dI z1) (va_cwS 1 hts g_X9_feed_X8_bytesIn_98 rfl rfl rfl (by decide +kernel) ⟨Nat.le_of_ble_eq_true rfl, Nat.le_of_ble_eq_true rfl⟩) (q_preS hK hP [] rfl [] rfl) rfl rfl hl.1 rfl (lv_room (Nat.le_of_ble_eq_true rfl)) dX9_feed_1 ⟨Nat.le_of_ble_eq_true rfl, Nat.le_of_ble_eq_true rfl⟩) hP hS (fun H locs hP hS => ?_)
  refine lv_iload_n hx hb dX9_feed_4 rfl (lv_at hl 2 rfl) ?_
  refine q_goi (v := (nI (q_nz z2))) (va_runS (As := [.int z2]) (rest := [.int (nI (q_nz z1))]) ⟨hx, hb, hml, hown, hts⟩ (c_X8_bytesIn l dC dI z2) (va_cwS 1 hts g_X9_feed_X8_bytesIn_98 rfl rfl rfl (by decide +kernel) ⟨Nat.le_of_ble_eq_true rfl, Nat.le_of_ble_eq_true rfl⟩) (q_preS hK hP [] rfl [] rfl) rfl rfl hl.1 rfl (lv_room (Nat.le_of_ble_eq_true rfl)) dX9_feed_5 ⟨Nat.le_of_ble_eq_true rfl, Nat.le_of_ble_eq_true rfl⟩) hP hS (fun H locs hP hS => ?_)
  refine lv_iadd hx hb dX9_feed_8 ?_
  refine lv_iload_n hx hb dX9_feed_9 rfl (lv_at hl 3 rfl) ?_
  refine q_goi (v := (nI (q_nz z3))) (va_runS (As := [.int z3]) (rest := [.int ((nI (q_nz z1)) + (nI (q_nz z2)))]) ⟨hx, hb, hml, hown, hts⟩ (c_X8_bytesIn l dC dI z3) (va_cwS 1 hts g_X9_feed_X8_bytesIn_98 rfl rfl rfl (by decide +kernel) ⟨Nat.le_of_ble_eq_true rfl, Nat.le_of_ble_eq_true rfl⟩) (q_preS hK hP [] rfl [] rfl) rfl rfl hl.1 rfl (lv_room (Nat.le_of_ble_eq_true rfl)) dX9_feed_10 ⟨Nat.le_of_ble_eq_true rfl, Nat.le_of_ble_eq_true rfl⟩) hP hS (fun H locs hP hS => ?_)
  refine lv_iadd hx hb dX9_feed_13 ?_
  refine lv_iload hx hb dX9_feed_14 (lv_at hl 4 rfl) ?_
  refine q_goi (v := (nI (q_nz z4))) (va_runS (As := [.int z4]) (rest := [.int (((nI (q_nz z1)) + (nI (q_nz z2))) + (nI (q_nz z3)))]) ⟨hx, hb, hml, hown, hts⟩ (c_X8_bytesIn l dC dI z4) (va_cwS 1 hts g_X9_feed_X8_bytesIn_98 rfl rfl rfl (by decide +kernel) ⟨Nat.le_of_ble_eq_true rfl, Nat.le_of_ble_eq_true rfl⟩) (q_preS hK hP [] rfl [] rfl) rfl rfl hl.1 rfl (lv_room (Nat.le_of_ble_eq_true rfl)) dX9_feed_16 ⟨Nat.le_of_ble_eq_true rfl, Nat.le_of_ble_eq_true rfl⟩) hP hS (fun H locs hP hS => ?_)
  refine lv_iadd hx hb dX9_feed_19 ?_
  refine lv_iload hx hb dX9_feed_20 (lv_at hl 5 rfl) ?_
  refine q_goi (v := (nI (q_nz z5))) (va_runS (As := [.int z5]) (rest := [.int ((((nI (q_nz z1)) + (nI (q_nz z2))) + (nI (q_nz z3))) + (nI (q_nz z4)))]) ⟨hx, hb, hml, hown, hts⟩ (c_X8_bytesIn l dC dI z5) (va_cwS 1 hts g_X9_feed_X8_bytesIn_98 rfl rfl rfl (by decide +kernel) ⟨Nat.le_of_ble_eq_true rfl, Nat.le_of_ble_eq_true rfl⟩) (q_preS hK hP [] rfl [] rfl) rfl rfl hl.1 rfl (lv_room (Nat.le_of_ble_eq_true rfl)) dX9_feed_22 ⟨Nat.le_of_ble_eq_true rfl, Nat.le_of_ble_eq_true rfl⟩) hP hS (fun H locs hP hS => ?_)
  refine lv_iadd hx hb dX9_feed_25 ?_
  refine lv_istore (lv' := [(6, .int (((((nI (q_nz z1)) + (nI (q_nz z2))) + (nI (q_nz z3))) + (nI (q_nz z4))) + (nI (q_nz z5)))), (0, .ref (a 0)), (1, .int z1), (2, .int z2), (3, .int z3), (4, .int z4), (5, .int z5)]) hx hb dX9_feed_26 hl (by decide) rfl (fun ls hl => ?_)
  refine lv_aload_n hx hb dX9_feed_28 rfl (lv_at hl 1 rfl) ?_
  refine va_get (D := (dC, dI)) (ci := 9) (v := .ref (a 1)) (C := RX9) (T := TX9) (N := 15) hx hb hts iq_X9_feed_9 hown hK hP 0 rfl rfl 0 (by decide) (hts (.fieldLink RX9 12 "HubTree" "tape" "LHubTree$Tape;") (List.mem_of_getElem? (i := 5) rfl)) (fun _ h9 => h9) rfl dX9_feed_29 ?_
  refine va_get (D := (dC, dI)) (ci := 8) (v := .int 0) (C := RX8) (T := TX8) (N := 2) hx hb hts iq_X9_feed_8 hown hK hP 1 rfl rfl 1 (by decide) (hts (.fieldLink RX9 102 "HubTree$Tape" "length" "I") (List.mem_of_getElem? (i := 6) rfl)) (fun _ h9 => h9) rfl dX9_feed_32 ?_
  refine lv_iload hx hb dX9_feed_35 (lv_at hl 0 rfl) ?_
  refine lv_iadd hx hb dX9_feed_37 ?_
  refine lv_sipush (v := 240) hx hb dX9_feed_38 (by decide) ?_
  refine lv_icmp_le (tgt := 46) hx hb dX9_feed_41 (by decide) (fun c_1 => ?_) (fun c_1 => ?_)
  rotate_left
  · exact absurd (q_more z1 z2 z3 z4 z5) c_1
  refine lv_aload_n hx hb dX9_feed_46 rfl (lv_at hl 1 rfl) ?_
  refine va_get (D := (dC, dI)) (ci := 9) (v := .ref (a 1)) (C := RX9) (T := TX9) (N := 15) hx hb hts iq_X9_feed_9 hown hK hP 0 rfl rfl 0 (by decide) (hts (.fieldLink RX9 12 "HubTree" "tape" "LHubTree$Tape;") (List.mem_of_getElem? (i := 5) rfl)) (fun _ h9 => h9) rfl dX9_feed_47 ?_
  refine lv_iload_n hx hb dX9_feed_50 rfl (lv_at hl 2 rfl) ?_
  have hP : va_P (dC, dI) vwCl [((a 0), .inr (9, [.ref (a 1), .ref (a 3), .ref (a 4), .ref (a 7), .ref (a 10), .ref (a 14), .ref (a 16), .ref (a 18), .ref (a 19), .ref (a 21), .ref (a 23), .ref (a 25), .ref (a 27), .ref (a 28), .int 0])), ((a 1), .inr (8, [.ref (a 2), .int (nI 0)])), ((a 2), .inl ((k 2), 240, .inl (fun _ => 0)))] H := hP
  have hD : va_D A [((a 0), .inr (9, [.ref (a 1), .ref (a 3), .ref (a 4), .ref (a 7), .ref (a 10), .ref (a 14), .ref (a 16), .ref (a 18), .ref (a 19), .ref (a 21), .ref (a 23), .ref (a 25), .ref (a 27), .ref (a 28), .int 0])), ((a 1), .inr (8, [.ref (a 2), .int (nI 0)])), ((a 2), .inl ((k 2), 240, .inl (fun _ => 0)))] := hD
  refine q_gov2 (wr := [((a 0), .inr (9, [.ref (a 1), .ref (a 3), .ref (a 4), .ref (a 7), .ref (a 10), .ref (a 14), .ref (a 16), .ref (a 18), .ref (a 19), .ref (a 21), .ref (a 23), .ref (a 25), .ref (a 27), .ref (a 28), .int 0]))]) (va_runV (As := [.int z1]) (rest := []) ⟨hx, hb, hml, hown, hts⟩ (c_X8_add l dC dI (a 1) (a 2) (k 2) (fun _ => 0) 0 z1 (va_A [((a 1), .inr (8, [.ref (a 2), .int (nI 0)])), ((a 2), .inl ((k 2), 240, .inl (fun _ => 0)))] H.size) (by have h1 := q_nz_le z1; have h2 := q_nz_le z2; have h3 := q_nz_le z3; have h4 := q_nz_le z4; omega)) (cwV 1 hts g_X9_feed_X8_add_106 rfl rfl rfl (by decide +kernel) ⟨Nat.le_of_ble_eq_true rfl, Nat.le_of_ble_eq_true rfl⟩) (q_preWV hK hP hD (ci := 8) (q0 := 1) rfl rfl [1, 2] (by decide) rfl rfl [0] rfl) rfl rfl hl.1 rfl (lv_room (Nat.le_of_ble_eq_true rfl)) dX9_feed_51 ⟨Nat.le_of_ble_eq_true rfl, Nat.le_of_ble_eq_true rfl⟩) hK hP hD hS hA [1, 2] [0] rfl rfl (by decide) (by decide) (fun u_2 H locs h_3 hP hD hK hS => ?_)
  have hP : va_P (dC, dI) vwCl [((a 0), .inr (9, [.ref (a 1), .ref (a 3), .ref (a 4), .ref (a 7), .ref (a 10), .ref (a 14), .ref (a 16), .ref (a 18), .ref (a 19), .ref (a 21), .ref (a 23), .ref (a 25), .ref (a 27), .ref (a 28), .int 0])), ((a 1), .inr (8, [.ref (a 2), .int (nI (0 + q_nz z1))])), ((a 2), .inl ((k 2), 240, .inl u_2))] H := hP
  have hD : va_D A [((a 0), .inr (9, [.ref (a 1), .ref (a 3), .ref (a 4), .ref (a 7), .ref (a 10), .ref (a 14), .ref (a 16), .ref (a 18), .ref (a 19), .ref (a 21), .ref (a 23), .ref (a 25), .ref (a 27), .ref (a 28), .int 0])), ((a 1), .inr (8, [.ref (a 2), .int (nI (0 + q_nz z1))])), ((a 2), .inl ((k 2), 240, .inl u_2))] := hD
  have hK : va_K (dC, dI) vwCl [((k 2), .char)] s := hK
  refine lv_aload_n hx hb dX9_feed_54 rfl (lv_at hl 1 rfl) ?_
  refine va_get (D := (dC, dI)) (ci := 9) (v := .ref (a 1)) (C := RX9) (T := TX9) (N := 15) hx hb hts iq_X9_feed_9 hown hK hP 0 rfl rfl 0 (by decide) (hts (.fieldLink RX9 12 "HubTree" "tape" "LHubTree$Tape;") (List.mem_of_getElem? (i := 5) rfl)) (fun _ h9 => h9) rfl dX9_feed_55 ?_
  refine lv_iload_n hx hb dX9_feed_58 rfl (lv_at hl 3 rfl) ?_
  refine q_gov2 (wr := [((a 0), .inr (9, [.ref (a 1), .ref (a 3), .ref (a 4), .ref (a 7), .ref (a 10), .ref (a 14), .ref (a 16), .ref (a 18), .ref (a 19), .ref (a 21), .ref (a 23), .ref (a 25), .ref (a 27), .ref (a 28), .int 0]))]) (va_runV (As := [.int z2]) (rest := []) ⟨hx, hb, hml, hown, hts⟩ (c_X8_add l dC dI (a 1) (a 2) (k 2) u_2 (0 + q_nz z1) z2 (va_A [((a 1), .inr (8, [.ref (a 2), .int (nI (0 + q_nz z1))])), ((a 2), .inl ((k 2), 240, .inl u_2))] H.size) (by have h1 := q_nz_le z1; have h2 := q_nz_le z2; have h3 := q_nz_le z3; have h4 := q_nz_le z4; omega)) (cwV 1 hts g_X9_feed_X8_add_106 rfl rfl rfl (by decide +kernel) ⟨Nat.le_of_ble_eq_true rfl, Nat.le_of_ble_eq_true rfl⟩) (q_preWV hK hP hD (ci := 8) (q0 := 1) rfl rfl [1, 2] (by decide) rfl rfl [0] rfl) rfl rfl hl.1 rfl (lv_room (Nat.le_of_ble_eq_true rfl)) dX9_feed_59 ⟨Nat.le_of_ble_eq_true rfl, Nat.le_of_ble_eq_true rfl⟩) hK hP hD hS hA [1, 2] [0] rfl rfl (by decide) (by decide) (fun u_4 H locs h_5 hP hD hK hS => ?_)
  have hP : va_P (dC, dI) vwCl [((a 0), .inr (9, [.ref (a 1), .ref (a 3), .ref (a 4), .ref (a 7), .ref (a 10), .ref (a 14), .ref (a 16), .ref (a 18), .ref (a 19), .ref (a 21), .ref (a 23), .ref (a 25), .ref (a 27), .ref (a 28), .int 0])), ((a 1), .inr (8, [.ref (a 2), .int (nI ((0 + q_nz z1) + q_nz z2))])), ((a 2), .inl ((k 2), 240, .inl u_4))] H := hP
  have hD : va_D A [((a 0), .inr (9, [.ref (a 1), .ref (a 3), .ref (a 4), .ref (a 7), .ref (a 10), .ref (a 14), .ref (a 16), .ref (a 18), .ref (a 19), .ref (a 21), .ref (a 23), .ref (a 25), .ref (a 27), .ref (a 28), .int 0])), ((a 1), .inr (8, [.ref (a 2), .int (nI ((0 + q_nz z1) + q_nz z2))])), ((a 2), .inl ((k 2), 240, .inl u_4))] := hD
  have hK : va_K (dC, dI) vwCl [((k 2), .char)] s := hK
  refine lv_aload_n hx hb dX9_feed_62 rfl (lv_at hl 1 rfl) ?_
  refine va_get (D := (dC, dI)) (ci := 9) (v := .ref (a 1)) (C := RX9) (T := TX9) (N := 15) hx hb hts iq_X9_feed_9 hown hK hP 0 rfl rfl 0 (by decide) (hts (.fieldLink RX9 12 "HubTree" "tape" "LHubTree$Tape;") (List.mem_of_getElem? (i := 5) rfl)) (fun _ h9 => h9) rfl dX9_feed_63 ?_
  refine lv_iload_n hx hb dX9_feed_66 rfl (lv_at hl 4 rfl) ?_
  refine q_gov2 (wr := [((a 0), .inr (9, [.ref (a 1), .ref (a 3), .ref (a 4), .ref (a 7), .ref (a 10), .ref (a 14), .ref (a 16), .ref (a 18), .ref (a 19), .ref (a 21), .ref (a 23), .ref (a 25), .ref (a 27), .ref (a 28), .int 0]))]) (va_runV (As := [.int z3]) (rest := []) ⟨hx, hb, hml, hown, hts⟩ (c_X8_add l dC dI (a 1) (a 2) (k 2) u_4 ((0 + q_nz z1) + q_nz z2) z3 (va_A [((a 1), .inr (8, [.ref (a 2), .int (nI ((0 + q_nz z1) + q_nz z2))])), ((a 2), .inl ((k 2), 240, .inl u_4))] H.size) (by have h1 := q_nz_le z1; have h2 := q_nz_le z2; have h3 := q_nz_le z3; have h4 := q_nz_le z4; omega)) (cwV 1 hts g_X9_feed_X8_add_106 rfl rfl rfl (by decide +kernel) ⟨Nat.le_of_ble_eq_true rfl, Nat.le_of_ble_eq_true rfl⟩) (q_preWV hK hP hD (ci := 8) (q0 := 1) rfl rfl [1, 2] (by decide) rfl rfl [0] rfl) rfl rfl hl.1 rfl (lv_room (Nat.le_of_ble_eq_true rfl)) dX9_feed_67 ⟨Nat.le_of_ble_eq_true rfl, Nat.le_of_ble_eq_true rfl⟩) hK hP hD hS hA [1, 2] [0] rfl rfl (by decide) (by decide) (fun u_6 H locs h_7 hP hD hK hS => ?_)
  have hP : va_P (dC, dI) vwCl [((a 0), .inr (9, [.ref (a 1), .ref (a 3), .ref (a 4), .ref (a 7), .ref (a 10), .ref (a 14), .ref (a 16), .ref (a 18), .ref (a 19), .ref (a 21), .ref (a 23), .ref (a 25), .ref (a 27), .ref (a 28), .int 0])), ((a 1), .inr (8, [.ref (a 2), .int (nI (((0 + q_nz z1) + q_nz z2) + q_nz z3))])), ((a 2), .inl ((k 2), 240, .inl u_6))] H := hP
  have hD : va_D A [((a 0), .inr (9, [.ref (a 1), .ref (a 3), .ref (a 4), .ref (a 7), .ref (a 10), .ref (a 14), .ref (a 16), .ref (a 18), .ref (a 19), .ref (a 21), .ref (a 23), .ref (a 25), .ref (a 27), .ref (a 28), .int 0])), ((a 1), .inr (8, [.ref (a 2), .int (nI (((0 + q_nz z1) + q_nz z2) + q_nz z3))])), ((a 2), .inl ((k 2), 240, .inl u_6))] := hD
  have hK : va_K (dC, dI) vwCl [((k 2), .char)] s := hK
  refine lv_aload_n hx hb dX9_feed_70 rfl (lv_at hl 1 rfl) ?_
  refine va_get (D := (dC, dI)) (ci := 9) (v := .ref (a 1)) (C := RX9) (T := TX9) (N := 15) hx hb hts iq_X9_feed_9 hown hK hP 0 rfl rfl 0 (by decide) (hts (.fieldLink RX9 12 "HubTree" "tape" "LHubTree$Tape;") (List.mem_of_getElem? (i := 5) rfl)) (fun _ h9 => h9) rfl dX9_feed_71 ?_
  refine lv_iload hx hb dX9_feed_74 (lv_at hl 5 rfl) ?_
  refine q_gov2 (wr := [((a 0), .inr (9, [.ref (a 1), .ref (a 3), .ref (a 4), .ref (a 7), .ref (a 10), .ref (a 14), .ref (a 16), .ref (a 18), .ref (a 19), .ref (a 21), .ref (a 23), .ref (a 25), .ref (a 27), .ref (a 28), .int 0]))]) (va_runV (As := [.int z4]) (rest := []) ⟨hx, hb, hml, hown, hts⟩ (c_X8_add l dC dI (a 1) (a 2) (k 2) u_6 (((0 + q_nz z1) + q_nz z2) + q_nz z3) z4 (va_A [((a 1), .inr (8, [.ref (a 2), .int (nI (((0 + q_nz z1) + q_nz z2) + q_nz z3))])), ((a 2), .inl ((k 2), 240, .inl u_6))] H.size) (by have h1 := q_nz_le z1; have h2 := q_nz_le z2; have h3 := q_nz_le z3; have h4 := q_nz_le z4; omega)) (cwV 1 hts g_X9_feed_X8_add_106 rfl rfl rfl (by decide +kernel) ⟨Nat.le_of_ble_eq_true rfl, Nat.le_of_ble_eq_true rfl⟩) (q_preWV hK hP hD (ci := 8) (q0 := 1) rfl rfl [1, 2] (by decide) rfl rfl [0] rfl) rfl rfl hl.1 rfl (lv_room (Nat.le_of_ble_eq_true rfl)) dX9_feed_76 ⟨Nat.le_of_ble_eq_true rfl, Nat.le_of_ble_eq_true rfl⟩) hK hP hD hS hA [1, 2] [0] rfl rfl (by decide) (by decide) (fun u_8 H locs h_9 hP hD hK hS => ?_)
  have hP : va_P (dC, dI) vwCl [((a 0), .inr (9, [.ref (a 1), .ref (a 3), .ref (a 4), .ref (a 7), .ref (a 10), .ref (a 14), .ref (a 16), .ref (a 18), .ref (a 19), .ref (a 21), .ref (a 23), .ref (a 25), .ref (a 27), .ref (a 28), .int 0])), ((a 1), .inr (8, [.ref (a 2), .int (nI ((((0 + q_nz z1) + q_nz z2) + q_nz z3) + q_nz z4))])), ((a 2), .inl ((k 2), 240, .inl u_8))] H := hP
  have hD : va_D A [((a 0), .inr (9, [.ref (a 1), .ref (a 3), .ref (a 4), .ref (a 7), .ref (a 10), .ref (a 14), .ref (a 16), .ref (a 18), .ref (a 19), .ref (a 21), .ref (a 23), .ref (a 25), .ref (a 27), .ref (a 28), .int 0])), ((a 1), .inr (8, [.ref (a 2), .int (nI ((((0 + q_nz z1) + q_nz z2) + q_nz z3) + q_nz z4))])), ((a 2), .inl ((k 2), 240, .inl u_8))] := hD
  have hK : va_K (dC, dI) vwCl [((k 2), .char)] s := hK
  refine lv_aload_n hx hb dX9_feed_79 rfl (lv_at hl 1 rfl) ?_
  refine va_get (D := (dC, dI)) (ci := 9) (v := .ref (a 1)) (C := RX9) (T := TX9) (N := 15) hx hb hts iq_X9_feed_9 hown hK hP 0 rfl rfl 0 (by decide) (hts (.fieldLink RX9 12 "HubTree" "tape" "LHubTree$Tape;") (List.mem_of_getElem? (i := 5) rfl)) (fun _ h9 => h9) rfl dX9_feed_80 ?_
  refine lv_iload hx hb dX9_feed_83 (lv_at hl 6 rfl) ?_
  refine q_gov2 (wr := [((a 0), .inr (9, [.ref (a 1), .ref (a 3), .ref (a 4), .ref (a 7), .ref (a 10), .ref (a 14), .ref (a 16), .ref (a 18), .ref (a 19), .ref (a 21), .ref (a 23), .ref (a 25), .ref (a 27), .ref (a 28), .int 0]))]) (va_runV (As := [.int z5]) (rest := []) ⟨hx, hb, hml, hown, hts⟩ (c_X8_add l dC dI (a 1) (a 2) (k 2) u_8 ((((0 + q_nz z1) + q_nz z2) + q_nz z3) + q_nz z4) z5 (va_A [((a 1), .inr (8, [.ref (a 2), .int (nI ((((0 + q_nz z1) + q_nz z2) + q_nz z3) + q_nz z4))])), ((a 2), .inl ((k 2), 240, .inl u_8))] H.size) (by have h1 := q_nz_le z1; have h2 := q_nz_le z2; have h3 := q_nz_le z3; have h4 := q_nz_le z4; omega)) (cwV 1 hts g_X9_feed_X8_add_106 rfl rfl rfl (by decide +kernel) ⟨Nat.le_of_ble_eq_true rfl, Nat.le_of_ble_eq_true rfl⟩) (q_preWV hK hP hD (ci := 8) (q0 := 1) rfl rfl [1, 2] (by decide) rfl rfl [0] rfl) rfl rfl hl.1 rfl (lv_room (Nat.le_of_ble_eq_true rfl)) dX9_feed_85 ⟨Nat.le_of_ble_eq_true rfl, Nat.le_of_ble_eq_true rfl⟩) hK hP hD hS hA [1, 2] [0] rfl rfl (by decide) (by decide) (fun u_10 H locs h_11 hP hD hK hS => ?_)
  have hP : va_P (dC, dI) vwCl [((a 0), .inr (9, [.ref (a 1), .ref (a 3), .ref (a 4), .ref (a 7), .ref (a 10), .ref (a 14), .ref (a 16), .ref (a 18), .ref (a 19), .ref (a 21), .ref (a 23), .ref (a 25), .ref (a 27), .ref (a 28), .int 0])), ((a 1), .inr (8, [.ref (a 2), .int (nI (((((0 + q_nz z1) + q_nz z2) + q_nz z3) + q_nz z4) + q_nz z5))])), ((a 2), .inl ((k 2), 240, .inl u_10))] H := hP
  have hD : va_D A [((a 0), .inr (9, [.ref (a 1), .ref (a 3), .ref (a 4), .ref (a 7), .ref (a 10), .ref (a 14), .ref (a 16), .ref (a 18), .ref (a 19), .ref (a 21), .ref (a 23), .ref (a 25), .ref (a 27), .ref (a 28), .int 0])), ((a 1), .inr (8, [.ref (a 2), .int (nI (((((0 + q_nz z1) + q_nz z2) + q_nz z3) + q_nz z4) + q_nz z5))])), ((a 2), .inl ((k 2), 240, .inl u_10))] := hD
  have hK : va_K (dC, dI) vwCl [((k 2), .char)] s := hK
  refine lv_aload_n hx hb dX9_feed_88 rfl (lv_at hl 1 rfl) ?_
  refine va_get (D := (dC, dI)) (ci := 9) (v := .ref (a 1)) (C := RX9) (T := TX9) (N := 15) hx hb hts iq_X9_feed_9 hown hK hP 0 rfl rfl 0 (by decide) (hts (.fieldLink RX9 12 "HubTree" "tape" "LHubTree$Tape;") (List.mem_of_getElem? (i := 5) rfl)) (fun _ h9 => h9) rfl dX9_feed_89 ?_
  refine va_get (D := (dC, dI)) (ci := 8) (v := .int (nI (((((0 + q_nz z1) + q_nz z2) + q_nz z3) + q_nz z4) + q_nz z5))) (C := RX8) (T := TX8) (N := 2) hx hb hts iq_X9_feed_8 hown hK hP 1 rfl rfl 1 (by decide) (hts (.fieldLink RX9 102 "HubTree$Tape" "length" "I") (List.mem_of_getElem? (i := 6) rfl)) (fun _ h9 => h9) rfl dX9_feed_92 ?_
  exact W.iret (v := (nI (((((0 + q_nz z1) + q_nz z2) + q_nz z3) + q_nz z4) + q_nz z5))) hx hb hr (fun t ht hW => ⟨⟨(nI (((((0 + q_nz z1) + q_nz z2) + q_nz z3) + q_nz z4) + q_nz z5)), (), rfl, rfl, trivial⟩, hS.F ht⟩) hS.2.2 dX9_feed_95

def wq_X10_byteOf : List Cond := .code yX10_byteOf cX10_byteOf 7 (some .int) :: ([])
set_option maxHeartbeats 4000000 in
set_option maxRecDepth 100000 in
theorem c_X10_byteOf (l : Launch) (dC : Nat → ClassId) (dI : Nat → Nat → Nat) (z1 : Int32) (z2 : Int32) (z3 : Int32) (z4 : Int32) (z5 : Int32) (kk : Int32) : Met l yX10_byteOf wq_X10_byteOf ({ frames := 0, cells := 0, slots := 0, locals := 0 }) (va_Pc [.int z1, .int z2, .int z3, .int z4, .int z5, .int kk] (q_R (dC, dI) [] [])) (q_i ((q_by z1 z2 z3 z4 z5 kk))) 0 0 (fun _ => False) := by
  refine Met.ofW (cc := cX10_byteOf) (maxL := 7) (ret := (some .int)) (by decide) rfl ?_
  intro p e s m args below meth c s₁ B hml hv
  obtain ⟨rfl, hP, hK⟩ := hv
  have hx := B.exec
  have hb := B.bytes
  have hr := B.returns
  have hts := atoms_spec (ws := wq_X10_byteOf) B.pre
  have hown : s.vm.findClass RX10 = some m.cls := findClass_of_methodNamed B.named
  have hlocks := B.notSynchronized
  have hS : va_S (fun _ => False) s.heap s.heap [] := va_S.rf
  have hl := lv_entry ([.int z1, .int z2, .int z3, .int z4, .int z5, .int kk]) (n := 7) (Nat.le_of_ble_eq_true rfl)
  rw [lg_entry_eq]
  generalize (lg_sl ([.int z1, .int z2, .int z3, .int z4, .int z5, .int kk]) ++ List.replicate (7 - (lg_sl ([.int z1, .int z2, .int z3, .int z4, .int z5, .int kk])).length) Slot.unset).toArray = ls at hl ⊢
  have hl : lv_has ls 7 [(0, .int z1), (1, .int z2), (2, .int z3), (3, .int z4), (4, .int z5), (5, .int kk)] := hl
  refine lv_iload hx hb dX10_byteOf_0 (lv_at hl 5 rfl) ?_
  refine lv_iconst (v := 4) hx hb dX10_byteOf_2 (by decide) ?_
  refine lv_icmp_ge (tgt := 10) hx hb dX10_byteOf_3 (by decide) (fun c_1 => ?_) (fun c_1 => ?_)
  · skip
    refine lv_iload hx hb dX10_byteOf_10 (lv_at hl 5 rfl) ?_
    refine lv_bipush (v := 8) hx hb dX10_byteOf_12 (by decide) ?_
    refine lv_icmp_ge (tgt := 21) hx hb dX10_byteOf_14 (by decide) (fun c_2 => ?_) (fun c_2 => ?_)
    · skip
      refine lv_iload hx hb dX10_byteOf_21 (lv_at hl 5 rfl) ?_
      refine lv_bipush (v := 12) hx hb dX10_byteOf_23 (by decide) ?_
      refine lv_icmp_ge (tgt := 32) hx hb dX10_byteOf_25 (by decide) (fun c_3 => ?_) (fun c_3 => ?_)
      · skip
        refine lv_iload hx hb dX10_byteOf_32 (lv_at hl 5 rfl) ?_
        refine lv_bipush (v := 16) hx hb dX10_byteOf_34 (by decide) ?_
        refine lv_icmp_ge (tgt := 43) hx hb dX10_byteOf_36 (by decide) (fun c_4 => ?_) (fun c_4 => ?_)
        · skip
          refine lv_iload hx hb dX10_byteOf_43 (lv_at hl 4 rfl) ?_
          refine lv_istore (lv' := [(6, .int z5), (0, .int z1), (1, .int z2), (2, .int z3), (3, .int z4), (4, .int z5), (5, .int kk)]) hx hb dX10_byteOf_45 hl (by decide) rfl (fun ls hl => ?_)
          refine lv_iload hx hb dX10_byteOf_47 (lv_at hl 0 rfl) ?_
          refine lv_bipush (v := 24) hx hb dX10_byteOf_49 (by decide) ?_
          refine lv_bipush (v := 8) hx hb dX10_byteOf_51 (by decide) ?_
          refine lv_iload hx hb dX10_byteOf_53 (lv_at hl 6 rfl) ?_
          refine lv_iconst (v := 4) hx hb dX10_byteOf_55 (by decide) ?_
          refine lv_irem hx hb dX10_byteOf_56 (by decide) ?_
          refine lv_imul hx hb dX10_byteOf_57 ?_
          refine lv_isub hx hb dX10_byteOf_58 ?_
          refine lv_ishr hx hb dX10_byteOf_59 ?_
          refine lv_sipush (v := 255) hx hb dX10_byteOf_60 (by decide) ?_
          refine lv_iand hx hb dX10_byteOf_63 ?_
          exact W.iret (v := ((z5 >>> ((24 - (8 * (kk - kk / 4 * 4))) &&& 31)) &&& 255)) hx hb hr (fun t ht hW => ⟨⟨((z5 >>> ((24 - (8 * (kk - kk / 4 * 4))) &&& 31)) &&& 255), (), rfl, (by unfold q_by; rw [if_pos c_1, if_pos c_2, if_pos c_3, if_pos c_4]), trivial⟩, hS.F ht⟩) hS.2.2 dX10_byteOf_64
        · skip
          refine lv_iload_n hx hb dX10_byteOf_39 rfl (lv_at hl 3 rfl) ?_
          refine lv_goto (tgt := 45) hx hb dX10_byteOf_40 (by decide) ?_
          refine lv_istore (lv' := [(6, .int z4), (0, .int z1), (1, .int z2), (2, .int z3), (3, .int z4), (4, .int z5), (5, .int kk)]) hx hb dX10_byteOf_45 hl (by decide) rfl (fun ls hl => ?_)
          refine lv_iload hx hb dX10_byteOf_47 (lv_at hl 0 rfl) ?_
          refine lv_bipush (v := 24) hx hb dX10_byteOf_49 (by decide) ?_
          refine lv_bipush (v := 8) hx hb dX10_byteOf_51 (by decide) ?_
          refine lv_iload hx hb dX10_byteOf_53 (lv_at hl 6 rfl) ?_
          refine lv_iconst (v := 4) hx hb dX10_byteOf_55 (by decide) ?_
          refine lv_irem hx hb dX10_byteOf_56 (by decide) ?_
          refine lv_imul hx hb dX10_byteOf_57 ?_
          refine lv_isub hx hb dX10_byteOf_58 ?_
          refine lv_ishr hx hb dX10_byteOf_59 ?_
          refine lv_sipush (v := 255) hx hb dX10_byteOf_60 (by decide) ?_
          refine lv_iand hx hb dX10_byteOf_63 ?_
          exact W.iret (v := ((z4 >>> ((24 - (8 * (kk - kk / 4 * 4))) &&& 31)) &&& 255)) hx hb hr (fun t ht hW => ⟨⟨((z4 >>> ((24 - (8 * (kk - kk / 4 * 4))) &&& 31)) &&& 255), (), rfl, (by unfold q_by; rw [if_pos c_1, if_pos c_2, if_pos c_3, if_neg c_4]), trivial⟩, hS.F ht⟩) hS.2.2 dX10_byteOf_64
      · skip
        refine lv_iload_n hx hb dX10_byteOf_28 rfl (lv_at hl 2 rfl) ?_
        refine lv_goto (tgt := 45) hx hb dX10_byteOf_29 (by decide) ?_
        refine lv_istore (lv' := [(6, .int z3), (0, .int z1), (1, .int z2), (2, .int z3), (3, .int z4), (4, .int z5), (5, .int kk)]) hx hb dX10_byteOf_45 hl (by decide) rfl (fun ls hl => ?_)
        refine lv_iload hx hb dX10_byteOf_47 (lv_at hl 0 rfl) ?_
        refine lv_bipush (v := 24) hx hb dX10_byteOf_49 (by decide) ?_
        refine lv_bipush (v := 8) hx hb dX10_byteOf_51 (by decide) ?_
        refine lv_iload hx hb dX10_byteOf_53 (lv_at hl 6 rfl) ?_
        refine lv_iconst (v := 4) hx hb dX10_byteOf_55 (by decide) ?_
        refine lv_irem hx hb dX10_byteOf_56 (by decide) ?_
        refine lv_imul hx hb dX10_byteOf_57 ?_
        refine lv_isub hx hb dX10_byteOf_58 ?_
        refine lv_ishr hx hb dX10_byteOf_59 ?_
        refine lv_sipush (v := 255) hx hb dX10_byteOf_60 (by decide) ?_
        refine lv_iand hx hb dX10_byteOf_63 ?_
        exact W.iret (v := ((z3 >>> ((24 - (8 * (kk - kk / 4 * 4))) &&& 31)) &&& 255)) hx hb hr (fun t ht hW => ⟨⟨((z3 >>> ((24 - (8 * (kk - kk / 4 * 4))) &&& 31)) &&& 255), (), rfl, (by unfold q_by; rw [if_pos c_1, if_pos c_2, if_neg c_3]), trivial⟩, hS.F ht⟩) hS.2.2 dX10_byteOf_64
    · skip
      refine lv_iload_n hx hb dX10_byteOf_17 rfl (lv_at hl 1 rfl) ?_
      refine lv_goto (tgt := 45) hx hb dX10_byteOf_18 (by decide) ?_
      refine lv_istore (lv' := [(6, .int z2), (0, .int z1), (1, .int z2), (2, .int z3), (3, .int z4), (4, .int z5), (5, .int kk)]) hx hb dX10_byteOf_45 hl (by decide) rfl (fun ls hl => ?_)
      refine lv_iload hx hb dX10_byteOf_47 (lv_at hl 0 rfl) ?_
      refine lv_bipush (v := 24) hx hb dX10_byteOf_49 (by decide) ?_
      refine lv_bipush (v := 8) hx hb dX10_byteOf_51 (by decide) ?_
      refine lv_iload hx hb dX10_byteOf_53 (lv_at hl 6 rfl) ?_
      refine lv_iconst (v := 4) hx hb dX10_byteOf_55 (by decide) ?_
      refine lv_irem hx hb dX10_byteOf_56 (by decide) ?_
      refine lv_imul hx hb dX10_byteOf_57 ?_
      refine lv_isub hx hb dX10_byteOf_58 ?_
      refine lv_ishr hx hb dX10_byteOf_59 ?_
      refine lv_sipush (v := 255) hx hb dX10_byteOf_60 (by decide) ?_
      refine lv_iand hx hb dX10_byteOf_63 ?_
      exact W.iret (v := ((z2 >>> ((24 - (8 * (kk - kk / 4 * 4))) &&& 31)) &&& 255)) hx hb hr (fun t ht hW => ⟨⟨((z2 >>> ((24 - (8 * (kk - kk / 4 * 4))) &&& 31)) &&& 255), (), rfl, (by unfold q_by; rw [if_pos c_1, if_neg c_2]), trivial⟩, hS.F ht⟩) hS.2.2 dX10_byteOf_64
  · skip
    refine lv_iload_n hx hb dX10_byteOf_6 rfl (lv_at hl 0 rfl) ?_
    refine lv_goto (tgt := 45) hx hb dX10_byteOf_7 (by decide) ?_
    refine lv_istore (lv' := [(6, .int z1), (0, .int z1), (1, .int z2), (2, .int z3), (3, .int z4), (4, .int z5), (5, .int kk)]) hx hb dX10_byteOf_45 hl (by decide) rfl (fun ls hl => ?_)
    refine lv_iload hx hb dX10_byteOf_47 (lv_at hl 0 rfl) ?_
    refine lv_bipush (v := 24) hx hb dX10_byteOf_49 (by decide) ?_
    refine lv_bipush (v := 8) hx hb dX10_byteOf_51 (by decide) ?_
    refine lv_iload hx hb dX10_byteOf_53 (lv_at hl 6 rfl) ?_
    refine lv_iconst (v := 4) hx hb dX10_byteOf_55 (by decide) ?_
    refine lv_irem hx hb dX10_byteOf_56 (by decide) ?_
    refine lv_imul hx hb dX10_byteOf_57 ?_
    refine lv_isub hx hb dX10_byteOf_58 ?_
    refine lv_ishr hx hb dX10_byteOf_59 ?_
    refine lv_sipush (v := 255) hx hb dX10_byteOf_60 (by decide) ?_
    refine lv_iand hx hb dX10_byteOf_63 ?_
    exact W.iret (v := ((z1 >>> ((24 - (8 * (kk - kk / 4 * 4))) &&& 31)) &&& 255)) hx hb hr (fun t ht hW => ⟨⟨((z1 >>> ((24 - (8 * (kk - kk / 4 * 4))) &&& 31)) &&& 255), (), rfl, (by unfold q_by; rw [if_neg c_1]), trivial⟩, hS.F ht⟩) hS.2.2 dX10_byteOf_64

def wq_X10_feed : List Cond := .code yX10_feed cX10_feed 9 (some .int) :: ([.fieldLink RX10 60 "HubTreeModel" "taped" "I", .methodLink RX10 56 yX10_byteOf, .static yX10_byteOf, .initialized RX10, .code yX10_byteOf cX10_byteOf 7 (some .int), .fieldLink RX10 9 "HubTreeModel" "tape" "[I"] ++ wsX100)
set_option maxRecDepth 20000 in
theorem g_X10_feed_X10_byteOf_56 : GoodIn wq_X10_feed (va_wsS RX10 56 yX10_byteOf wq_X10_byteOf) := goodIn_r _ [2, 3, 4, 5] (by decide +kernel) (by decide +kernel)
theorem iq_X10_feed_10 : ∀ w ∈ wsX100, w ∈ wq_X10_feed := fun _ h => List.mem_cons_of_mem _ (List.mem_append_right _ h)
set_option maxHeartbeats 4000000 in
set_option maxRecDepth 100000 in
theorem c_X10_feed (l : Launch) (dC : Nat → ClassId) (dI : Nat → Nat → Nat) (bm : Nat → Nat) (km : Nat → ClassId) (z1 : Int32) (z2 : Int32) (z3 : Int32) (z4 : Int32) (z5 : Int32) (A : Nat → Prop) : Met l yX10_feed wq_X10_feed ({ frames := 1, cells := 0, slots := 0, locals := 26 }) (va_Pc [.ref (bm 0), .int z1, .int z2, .int z3, .int z4, .int z5] (q_W (dC, dI) A [((bm 0), .inr (10, [.int 0, .ref (bm 1), .int 0, .int 0, .int 0, .ref (bm 2), .ref (bm 3), .int 0, .ref (bm 4), .ref (bm 5), .int 0, .ref (bm 6), .ref (bm 7), .int 0, .ref (bm 8), .ref (bm 9), .ref (bm 10), .int 0, .long 0, .ref (bm 11), .ref (bm 12), .ref (bm 13), .ref (bm 14), .int 0])), ((bm 1), .inl ((km 1), 240, .inl (fun _ => 0)))] [((km 1), .int)])) (q_wi ((nI (q_c z1 z2 z3 z4 z5 20))) A) 0 0 A := by
  refine Met.ofW (cc := cX10_feed) (maxL := 9) (ret := (some .int)) (by decide) rfl ?_
  intro p e s m args below meth c s₁ B hml hv
  obtain ⟨rfl, hP, hK, hD, hA⟩ := hv
  have hx := B.exec
  have hb := B.bytes
  have hr := B.returns
  have hts := atoms_spec (ws := wq_X10_feed) B.pre
  have hown : s.vm.findClass RX10 = some m.cls := findClass_of_methodNamed B.named
  have hlocks := B.notSynchronized
  have hS : va_S A s.heap s.heap [] := va_S.rf
  have hl := lv_entry ([.ref (bm 0), .int z1, .int z2, .int z3, .int z4, .int z5]) (n := 9) (Nat.le_of_ble_eq_true rfl)
  rw [lg_entry_eq]
  generalize (lg_sl ([.ref (bm 0), .int z1, .int z2, .int z3, .int z4, .int z5]) ++ List.replicate (9 - (lg_sl ([.ref (bm 0), .int z1, .int z2, .int z3, .int z4, .int z5])).length) Slot.unset).toArray = ls at hl ⊢
  have hl : lv_has ls 9 [(0, .ref (bm 0)), (1, .int z1), (2, .int z2), (3, .int z3), (4, .int z4), (5, .int z5)] := hl
  have hP0 := hP; have hD0 := hD; have hS0 := hS; have hl0 := hl
  have loop2 : ∀ (n i : Nat), i ≤ 20 → 20 < i + n → ∀ (f : Nat → Int32) (H : Heap) (locs : List Loc) (ls : Array Slot), va_P (dC, dI) vwCl [((bm 0), .inr (10, [.int 0, .ref (bm 1), .int (nI (q_c z1 z2 z3 z4 z5 i)), .int 0, .int 0, .ref (bm 2), .ref (bm 3), .int 0, .ref (bm 4), .ref (bm 5), .int 0, .ref (bm 6), .ref (bm 7), .int 0, .ref (bm 8), .ref (bm 9), .ref (bm 10), .int 0, .long 0, .ref (bm 11), .ref (bm 12), .ref (bm 13), .ref (bm 14), .int 0])), ((bm 1), .inl ((km 1), 240, .inl f))] H → va_D A [((bm 0), .inr (10, [.int 0, .ref (bm 1), .int (nI (q_c z1 z2 z3 z4 z5 i)), .int 0, .int 0, .ref (bm 2), .ref (bm 3), .int 0, .ref (bm 4), .ref (bm 5), .int 0, .ref (bm 6), .ref (bm 7), .int 0, .ref (bm 8), .ref (bm 9), .ref (bm 10), .int 0, .long 0, .ref (bm 11), .ref (bm 12), .ref (bm 13), .ref (bm 14), .int 0])), ((bm 1), .inl ((km 1), 240, .inl f))] → va_S A s.heap H locs → lv_has ls 9 [(7, .int (nI i)), (0, .ref (bm 0)), (1, .int z1), (2, .int z2), (3, .int z3), (4, .int z4), (5, .int z5)] → W p l e (headSpec wq_X10_feed ({ frames := 1, cells := 0, slots := 0, locals := 26 })).room s m #[.ref (bm 0), .int z1, .int z2, .int z3, .int z4, .int z5] below meth c H locs 0 0 (MQ below (q_wi (nI (q_c z1 z2 z3 z4 z5 20)) A) #[.ref (bm 0), .int z1, .int z2, .int z3, .int z4, .int z5] s 0 0 A) (F0 m 62 ls []) := by
    clear hP hD hS hl hP0 hD0 hS0 hl0
    intro n
    induction n with
    | zero => intro i h1 h2; omega
    | succ n ih =>
      intro i h1 h2 f H locs ls hP hD hS hl
      refine lv_iload hx hb dX10_feed_62 (lv_at hl 0 rfl) ?_
      refine lv_bipush (v := 20) hx hb dX10_feed_64 (by decide) ?_
      refine lv_icmp_ge (tgt := 115) hx hb dX10_feed_66 (by decide) (fun c_1 => ?_) (fun c_1 => ?_)
      · skip
        obtain rfl : i = 20 := by have := (nI_leI (a := 20) (b := i) (by decide) (by omega)).mp c_1; omega
        refine lv_aload_n hx hb dX10_feed_115 rfl (lv_at hl 1 rfl) ?_
        refine va_get (D := (dC, dI)) (ci := 10) (v := .int (nI (q_c z1 z2 z3 z4 z5 20))) (C := RX10) (T := TX10) (N := 24) hx hb hts iq_X10_feed_10 hown hK hP 0 rfl rfl 2 (by decide) (hts (.fieldLink RX10 60 "HubTreeModel" "taped" "I") (List.mem_of_getElem? (i := 1) rfl)) (fun _ h9 => h9) rfl dX10_feed_116 ?_
        exact W.iret (v := (nI (q_c z1 z2 z3 z4 z5 20))) hx hb hr (fun t ht hW => ⟨⟨(nI (q_c z1 z2 z3 z4 z5 20)), (), rfl, rfl, trivial⟩, hS.F ht⟩) hS.2.2 dX10_feed_119
      · skip
        have hi : i < 20 := by rcases Nat.lt_or_ge i 20 with q | q; exact q; exact absurd (nI_le (a := 20) q (by omega)) c_1
        refine lv_iload_n hx hb dX10_feed_69 rfl (lv_at hl 2 rfl) ?_
        refine lv_iload_n hx hb dX10_feed_70 rfl (lv_at hl 3 rfl) ?_
        refine lv_iload_n hx hb dX10_feed_71 rfl (lv_at hl 4 rfl) ?_
        refine lv_iload hx hb dX10_feed_72 (lv_at hl 5 rfl) ?_
        refine lv_iload hx hb dX10_feed_74 (lv_at hl 6 rfl) ?_
        refine lv_iload hx hb dX10_feed_76 (lv_at hl 0 rfl) ?_
        refine q_goi (v := (q_by z1 z2 z3 z4 z5 (nI i))) (va_runS (As := [.int z1, .int z2, .int z3, .int z4, .int z5, .int (nI i)]) (rest := []) ⟨hx, hb, hml, hown, hts⟩ (c_X10_byteOf l dC dI z1 z2 z3 z4 z5 (nI i)) (va_cwS 6 hts g_X10_feed_X10_byteOf_56 rfl rfl rfl (by decide +kernel) ⟨Nat.le_of_ble_eq_true rfl, Nat.le_of_ble_eq_true rfl⟩) (q_preS hK hP [] rfl [] rfl) rfl rfl hl.1 rfl (lv_room (Nat.le_of_ble_eq_true rfl)) dX10_feed_78 ⟨Nat.le_of_ble_eq_true rfl, Nat.le_of_ble_eq_true rfl⟩) hP hS (fun H locs hP hS => ?_)
        refine lv_istore (lv' := [(8, .int (q_by z1 z2 z3 z4 z5 (nI i))), (7, .int (nI i)), (0, .ref (bm 0)), (1, .int z1), (2, .int z2), (3, .int z3), (4, .int z4), (5, .int z5)]) hx hb dX10_feed_81 hl (by decide) rfl (fun ls hl => ?_)
        refine lv_iload hx hb dX10_feed_83 (lv_at hl 0 rfl) ?_
        refine lv_if_eq (tgt := 109) hx hb dX10_feed_85 (by decide) (fun c_2 => ?_) (fun c_2 => ?_)
        · skip
          refine lv_iinc (v := nI (i + 1)) (lv' := [(7, .int (nI (i + 1))), (8, .int (q_by z1 z2 z3 z4 z5 (nI i))), (0, .ref (bm 0)), (1, .int z1), (2, .int z2), (3, .int z3), (4, .int z4), (5, .int z5)]) hx hb dX10_feed_109 hl (k := 1) rfl (nI_1 i) (by decide) rfl (fun ls hl => ?_)
          refine lv_goto (tgt := 62) hx hb dX10_feed_112 (by decide) ?_
          rw [← q_c0 c_2] at hP hD
          exact ih (i + 1) hi (by omega) f H locs ls hP hD hS (lv_sub hl [0, 2, 3, 4, 5, 6, 7] rfl)
        · skip
          refine lv_aload_n hx hb dX10_feed_88 rfl (lv_at hl 2 rfl) ?_
          refine va_get (D := (dC, dI)) (ci := 10) (v := .ref (bm 1)) (C := RX10) (T := TX10) (N := 24) hx hb hts iq_X10_feed_10 hown hK hP 0 rfl rfl 1 (by decide) (hts (.fieldLink RX10 9 "HubTreeModel" "tape" "[I") (List.mem_of_getElem? (i := 6) rfl)) (fun _ h9 => h9) rfl dX10_feed_89 ?_
          refine lv_aload_n hx hb dX10_feed_92 rfl (lv_at hl 2 rfl) ?_
          refine va_get (D := (dC, dI)) (ci := 10) (v := .int (nI (q_c z1 z2 z3 z4 z5 i))) (C := RX10) (T := TX10) (N := 24) hx hb hts iq_X10_feed_10 hown hK hP 0 rfl rfl 2 (by decide) (hts (.fieldLink RX10 60 "HubTreeModel" "taped" "I") (List.mem_of_getElem? (i := 1) rfl)) (fun _ h9 => h9) rfl dX10_feed_93 ?_
          refine lv_iload hx hb dX10_feed_96 (lv_at hl 0 rfl) ?_
          refine va_iast hx hb hK hP hD hS 1 0 rfl rfl (i := (nI (q_c z1 z2 z3 z4 z5 i))) (x := (q_by z1 z2 z3 z4 z5 (nI i))) (vp_in_nI (by have := q_c_le (z1 := z1) (z2 := z2) (z3 := z3) (z4 := z4) (z5 := z5) i; omega) (by decide)) dX10_feed_98 (fun H locs hP hD hS => ?_)
          obtain ⟨f_3, hP, hD⟩ : ∃ f9 : Nat → Int32, va_P (dC, dI) vwCl [((bm 0), .inr (10, [.int 0, .ref (bm 1), .int (nI (q_c z1 z2 z3 z4 z5 i)), .int 0, .int 0, .ref (bm 2), .ref (bm 3), .int 0, .ref (bm 4), .ref (bm 5), .int 0, .ref (bm 6), .ref (bm 7), .int 0, .ref (bm 8), .ref (bm 9), .ref (bm 10), .int 0, .long 0, .ref (bm 11), .ref (bm 12), .ref (bm 13), .ref (bm 14), .int 0])), ((bm 1), .inl ((km 1), 240, .inl f9))] H ∧ va_D A [((bm 0), .inr (10, [.int 0, .ref (bm 1), .int (nI (q_c z1 z2 z3 z4 z5 i)), .int 0, .int 0, .ref (bm 2), .ref (bm 3), .int 0, .ref (bm 4), .ref (bm 5), .int 0, .ref (bm 6), .ref (bm 7), .int 0, .ref (bm 8), .ref (bm 9), .ref (bm 10), .int 0, .long 0, .ref (bm 11), .ref (bm 12), .ref (bm 13), .ref (bm 14), .int 0])), ((bm 1), .inl ((km 1), 240, .inl f9))] := ⟨_, hP, hD⟩
          refine lv_aload_n hx hb dX10_feed_99 rfl (lv_at hl 2 rfl) ?_
          refine lv_dup hx hb dX10_feed_100 rfl ?_
          refine va_get (D := (dC, dI)) (ci := 10) (v := .int (nI (q_c z1 z2 z3 z4 z5 i))) (C := RX10) (T := TX10) (N := 24) hx hb hts iq_X10_feed_10 hown hK hP 0 rfl rfl 2 (by decide) (hts (.fieldLink RX10 60 "HubTreeModel" "taped" "I") (List.mem_of_getElem? (i := 1) rfl)) (fun _ h9 => h9) rfl dX10_feed_101 ?_
          refine lv_iconst (v := 1) hx hb dX10_feed_104 (by decide) ?_
          refine lv_iadd hx hb dX10_feed_105 ?_
          refine q_top (y := nI (q_c z1 z2 z3 z4 z5 (i + 1))) (by rw [q_c1 c_2, nI_1]) ?_
          refine va_put (D := (dC, dI)) (ci := 10) (v := .int (nI (q_c z1 z2 z3 z4 z5 (i + 1)))) (ty := .int) (C := RX10) (T := TX10) (N := 24) hx hb hts iq_X10_feed_10 tyX10 tyX10_ok nmX10 hown hK hP hD hS 0 rfl rfl 2 (by decide) (hts (.fieldLink RX10 60 "HubTreeModel" "taped" "I") (List.mem_of_getElem? (i := 1) rfl)) (fun _ h9 => h9) rfl (by decide +kernel) rfl rfl (Nat.le_of_ble_eq_true rfl) dX10_feed_106 (fun H locs hP hD hS => ?_)
          have hP : va_P (dC, dI) vwCl [((bm 0), .inr (10, [.int 0, .ref (bm 1), .int (nI (q_c z1 z2 z3 z4 z5 (i + 1))), .int 0, .int 0, .ref (bm 2), .ref (bm 3), .int 0, .ref (bm 4), .ref (bm 5), .int 0, .ref (bm 6), .ref (bm 7), .int 0, .ref (bm 8), .ref (bm 9), .ref (bm 10), .int 0, .long 0, .ref (bm 11), .ref (bm 12), .ref (bm 13), .ref (bm 14), .int 0])), ((bm 1), .inl ((km 1), 240, .inl f_3))] H := hP
          have hD : va_D A [((bm 0), .inr (10, [.int 0, .ref (bm 1), .int (nI (q_c z1 z2 z3 z4 z5 (i + 1))), .int 0, .int 0, .ref (bm 2), .ref (bm 3), .int 0, .ref (bm 4), .ref (bm 5), .int 0, .ref (bm 6), .ref (bm 7), .int 0, .ref (bm 8), .ref (bm 9), .ref (bm 10), .int 0, .long 0, .ref (bm 11), .ref (bm 12), .ref (bm 13), .ref (bm 14), .int 0])), ((bm 1), .inl ((km 1), 240, .inl f_3))] := hD
          refine lv_iinc (v := nI (i + 1)) (lv' := [(7, .int (nI (i + 1))), (8, .int (q_by z1 z2 z3 z4 z5 (nI i))), (0, .ref (bm 0)), (1, .int z1), (2, .int z2), (3, .int z3), (4, .int z4), (5, .int z5)]) hx hb dX10_feed_109 hl (k := 1) rfl (nI_1 i) (by decide) rfl (fun ls hl => ?_)
          refine lv_goto (tgt := 62) hx hb dX10_feed_112 (by decide) ?_
          exact ih (i + 1) hi (by omega) f_3 H locs ls hP hD hS (lv_sub hl [0, 2, 3, 4, 5, 6, 7] rfl)
  have loop1 : ∀ (n i : Nat), i ≤ 20 → 20 < i + n → ∀ (H : Heap) (locs : List Loc) (ls : Array Slot), va_P (dC, dI) vwCl [((bm 0), .inr (10, [.int 0, .ref (bm 1), .int 0, .int 0, .int 0, .ref (bm 2), .ref (bm 3), .int 0, .ref (bm 4), .ref (bm 5), .int 0, .ref (bm 6), .ref (bm 7), .int 0, .ref (bm 8), .ref (bm 9), .ref (bm 10), .int 0, .long 0, .ref (bm 11), .ref (bm 12), .ref (bm 13), .ref (bm 14), .int 0])), ((bm 1), .inl ((km 1), 240, .inl (fun _ => 0)))] H → va_S A s.heap H locs → lv_has ls 9 [(7, .int (nI i)), (6, .int (nI (q_c z1 z2 z3 z4 z5 i))), (0, .ref (bm 0)), (1, .int z1), (2, .int z2), (3, .int z3), (4, .int z4), (5, .int z5)] → W p l e (headSpec wq_X10_feed ({ frames := 1, cells := 0, slots := 0, locals := 26 })).room s m #[.ref (bm 0), .int z1, .int z2, .int z3, .int z4, .int z5] below meth c H locs 0 0 (MQ below (q_wi (nI (q_c z1 z2 z3 z4 z5 20)) A) #[.ref (bm 0), .int z1, .int z2, .int z3, .int z4, .int z5] s 0 0 A) (F0 m 6 ls []) := by
    clear hP hS hl hP0 hS0 hl0
    intro n
    induction n with
    | zero => intro i h1 h2; omega
    | succ n ih =>
      intro i h1 h2 H locs ls hP hS hl
      refine lv_iload hx hb dX10_feed_6 (lv_at hl 0 rfl) ?_
      refine lv_bipush (v := 20) hx hb dX10_feed_8 (by decide) ?_
      refine lv_icmp_ge (tgt := 44) hx hb dX10_feed_10 (by decide) (fun c_4 => ?_) (fun c_4 => ?_)
      · skip
        obtain rfl : i = 20 := by have := (nI_leI (a := 20) (b := i) (by decide) (by omega)).mp c_4; omega
        refine lv_aload_n hx hb dX10_feed_44 rfl (lv_at hl 2 rfl) ?_
        refine va_get (D := (dC, dI)) (ci := 10) (v := .int 0) (C := RX10) (T := TX10) (N := 24) hx hb hts iq_X10_feed_10 hown hK hP 0 rfl rfl 2 (by decide) (hts (.fieldLink RX10 60 "HubTreeModel" "taped" "I") (List.mem_of_getElem? (i := 1) rfl)) (fun _ h9 => h9) rfl dX10_feed_45 ?_
        refine lv_iload hx hb dX10_feed_48 (lv_at hl 1 rfl) ?_
        refine lv_iadd hx hb dX10_feed_50 ?_
        refine lv_sipush (v := 240) hx hb dX10_feed_51 (by decide) ?_
        refine lv_icmp_le (tgt := 59) hx hb dX10_feed_54 (by decide) (fun c_5 => ?_) (fun c_5 => ?_)
        rotate_left
        · exact absurd (show (0 : Int32) + nI (q_c z1 z2 z3 z4 z5 20) ≤ 240 from by
            have h0 : (0 : Int32) = nI 0 := rfl
            rw [h0, nI_add]
            exact nI_le (b := 240) (by have := q_c_le (z1 := z1) (z2 := z2) (z3 := z3) (z4 := z4) (z5 := z5) 20; omega) (by decide)) c_5
        refine lv_iconst (v := 0) hx hb dX10_feed_59 (by decide) ?_
        refine lv_istore (lv' := [(7, .int 0), (6, .int (nI (q_c z1 z2 z3 z4 z5 20))), (0, .ref (bm 0)), (1, .int z1), (2, .int z2), (3, .int z3), (4, .int z4), (5, .int z5)]) hx hb dX10_feed_60 hl (by decide) rfl (fun ls hl => ?_)
        exact loop2 21 0 (by decide) (by decide) (fun _ => 0) H locs ls hP hD hS (lv_sub hl [0, 2, 3, 4, 5, 6, 7] rfl)
      · skip
        have hi : i < 20 := by rcases Nat.lt_or_ge i 20 with q | q; exact q; exact absurd (nI_le (a := 20) q (by omega)) c_4
        refine lv_iload hx hb dX10_feed_13 (lv_at hl 1 rfl) ?_
        refine lv_iload_n hx hb dX10_feed_15 rfl (lv_at hl 3 rfl) ?_
        refine lv_iload_n hx hb dX10_feed_16 rfl (lv_at hl 4 rfl) ?_
        refine lv_iload_n hx hb dX10_feed_17 rfl (lv_at hl 5 rfl) ?_
        refine lv_iload hx hb dX10_feed_18 (lv_at hl 6 rfl) ?_
        refine lv_iload hx hb dX10_feed_20 (lv_at hl 7 rfl) ?_
        refine lv_iload hx hb dX10_feed_22 (lv_at hl 0 rfl) ?_
        refine q_goi (v := (q_by z1 z2 z3 z4 z5 (nI i))) (va_runS (As := [.int z1, .int z2, .int z3, .int z4, .int z5, .int (nI i)]) (rest := [.int (nI (q_c z1 z2 z3 z4 z5 i))]) ⟨hx, hb, hml, hown, hts⟩ (c_X10_byteOf l dC dI z1 z2 z3 z4 z5 (nI i)) (va_cwS 6 hts g_X10_feed_X10_byteOf_56 rfl rfl rfl (by decide +kernel) ⟨Nat.le_of_ble_eq_true rfl, Nat.le_of_ble_eq_true rfl⟩) (q_preS hK hP [] rfl [] rfl) rfl rfl hl.1 rfl (lv_room (Nat.le_of_ble_eq_true rfl)) dX10_feed_24 ⟨Nat.le_of_ble_eq_true rfl, Nat.le_of_ble_eq_true rfl⟩) hP hS (fun H locs hP hS => ?_)
        refine lv_if_eq (tgt := 34) hx hb dX10_feed_27 (by decide) (fun c_6 => ?_) (fun c_6 => ?_)
        · skip
          refine lv_iconst (v := 0) hx hb dX10_feed_34 (by decide) ?_
          refine lv_iadd hx hb dX10_feed_35 ?_
          refine q_top (y := nI (q_c z1 z2 z3 z4 z5 (i + 1))) (by rw [q_c0 c_6, Int32.add_zero]) ?_
          refine lv_istore (lv' := [(6, .int (nI (q_c z1 z2 z3 z4 z5 (i + 1)))), (7, .int (nI i)), (0, .ref (bm 0)), (1, .int z1), (2, .int z2), (3, .int z3), (4, .int z4), (5, .int z5)]) hx hb dX10_feed_36 hl (by decide) rfl (fun ls hl => ?_)
          refine lv_iinc (v := nI (i + 1)) (lv' := [(7, .int (nI (i + 1))), (6, .int (nI (q_c z1 z2 z3 z4 z5 (i + 1)))), (0, .ref (bm 0)), (1, .int z1), (2, .int z2), (3, .int z3), (4, .int z4), (5, .int z5)]) hx hb dX10_feed_38 hl (k := 1) rfl (nI_1 i) (by decide) rfl (fun ls hl => ?_)
          refine lv_goto (tgt := 6) hx hb dX10_feed_41 (by decide) ?_
          exact ih (i + 1) hi (by omega) H locs ls hP hS (lv_sub hl [0, 1, 2, 3, 4, 5, 6, 7] rfl)
        · skip
          refine lv_iconst (v := 1) hx hb dX10_feed_30 (by decide) ?_
          refine lv_goto (tgt := 35) hx hb dX10_feed_31 (by decide) ?_
          refine lv_iadd hx hb dX10_feed_35 ?_
          refine q_top (y := nI (q_c z1 z2 z3 z4 z5 (i + 1))) (by rw [q_c1 c_6, nI_1]) ?_
          refine lv_istore (lv' := [(6, .int (nI (q_c z1 z2 z3 z4 z5 (i + 1)))), (7, .int (nI i)), (0, .ref (bm 0)), (1, .int z1), (2, .int z2), (3, .int z3), (4, .int z4), (5, .int z5)]) hx hb dX10_feed_36 hl (by decide) rfl (fun ls hl => ?_)
          refine lv_iinc (v := nI (i + 1)) (lv' := [(7, .int (nI (i + 1))), (6, .int (nI (q_c z1 z2 z3 z4 z5 (i + 1)))), (0, .ref (bm 0)), (1, .int z1), (2, .int z2), (3, .int z3), (4, .int z4), (5, .int z5)]) hx hb dX10_feed_38 hl (k := 1) rfl (nI_1 i) (by decide) rfl (fun ls hl => ?_)
          refine lv_goto (tgt := 6) hx hb dX10_feed_41 (by decide) ?_
          exact ih (i + 1) hi (by omega) H locs ls hP hS (lv_sub hl [0, 1, 2, 3, 4, 5, 6, 7] rfl)
  refine lv_iconst (v := 0) hx hb dX10_feed_0 (by decide) ?_
  refine lv_istore (lv' := [(6, .int 0), (0, .ref (bm 0)), (1, .int z1), (2, .int z2), (3, .int z3), (4, .int z4), (5, .int z5)]) hx hb dX10_feed_1 hl (by decide) rfl (fun ls hl => ?_)
  refine lv_iconst (v := 0) hx hb dX10_feed_3 (by decide) ?_
  refine lv_istore (lv' := [(7, .int 0), (6, .int 0), (0, .ref (bm 0)), (1, .int z1), (2, .int z2), (3, .int z3), (4, .int z4), (5, .int z5)]) hx hb dX10_feed_4 hl (by decide) rfl (fun ls hl => ?_)
  exact loop1 21 0 (by decide) (by decide) s.heap [] ls hP hS (lv_sub hl [0, 1, 2, 3, 4, 5, 6, 7] rfl)
