/-! DECODE ROWS, by program. -/
theorem dd_X9_in_0 : decode X9_in.2.1 0 = .ok (.lload_n 0, 1) := by decide +kernel
theorem dd_X9_in_1 : decode X9_in.2.1 1 = .ok (.lload_n 2, 1) := by decide +kernel
theorem dd_X9_in_2 : decode X9_in.2.1 2 = .ok (.lcmp, 1) := by decide +kernel
theorem dd_X9_in_3 : decode X9_in.2.1 3 = .ok (.ifCond .lt 14, 3) := by decide +kernel
theorem dd_X9_in_6 : decode X9_in.2.1 6 = .ok (.lload_n 0, 1) := by decide +kernel
theorem dd_X9_in_7 : decode X9_in.2.1 7 = .ok (.lload 4, 2) := by decide +kernel
theorem dd_X9_in_9 : decode X9_in.2.1 9 = .ok (.lcmp, 1) := by decide +kernel
theorem dd_X9_in_10 : decode X9_in.2.1 10 = .ok (.ifCond .gt 7, 3) := by decide +kernel
theorem dd_X9_in_13 : decode X9_in.2.1 13 = .ok (.iconst 1, 1) := by decide +kernel
theorem dd_X9_in_14 : decode X9_in.2.1 14 = .ok (.goto 4, 3) := by decide +kernel
theorem dd_X9_in_17 : decode X9_in.2.1 17 = .ok (.iconst 0, 1) := by decide +kernel
theorem dd_X9_in_18 : decode X9_in.2.1 18 = .ok (.ireturn, 1) := by decide +kernel
theorem dd_X9_has_0 : decode X9_has.2.1 0 = .ok (.iload_n 0, 1) := by decide +kernel
theorem dd_X9_has_1 : decode X9_has.2.1 1 = .ok (.iload_n 1, 1) := by decide +kernel
theorem dd_X9_has_2 : decode X9_has.2.1 2 = .ok (.ishr, 1) := by decide +kernel
theorem dd_X9_has_3 : decode X9_has.2.1 3 = .ok (.iconst 1, 1) := by decide +kernel
theorem dd_X9_has_4 : decode X9_has.2.1 4 = .ok (.iand, 1) := by decide +kernel
theorem dd_X9_has_5 : decode X9_has.2.1 5 = .ok (.iconst 1, 1) := by decide +kernel
theorem dd_X9_has_6 : decode X9_has.2.1 6 = .ok (.if_icmp .ne 7, 3) := by decide +kernel
theorem dd_X9_has_9 : decode X9_has.2.1 9 = .ok (.iconst 1, 1) := by decide +kernel
theorem dd_X9_has_10 : decode X9_has.2.1 10 = .ok (.goto 4, 3) := by decide +kernel
theorem dd_X9_has_13 : decode X9_has.2.1 13 = .ok (.iconst 0, 1) := by decide +kernel
theorem dd_X9_has_14 : decode X9_has.2.1 14 = .ok (.ireturn, 1) := by decide +kernel
theorem dd_X9_ones_0 : decode X9_ones.2.1 0 = .ok (.iconst 0, 1) := by decide +kernel
theorem dd_X9_ones_1 : decode X9_ones.2.1 1 = .ok (.istore_n 1, 1) := by decide +kernel
theorem dd_X9_ones_2 : decode X9_ones.2.1 2 = .ok (.iconst 0, 1) := by decide +kernel
theorem dd_X9_ones_3 : decode X9_ones.2.1 3 = .ok (.istore_n 2, 1) := by decide +kernel
theorem dd_X9_ones_4 : decode X9_ones.2.1 4 = .ok (.iload_n 2, 1) := by decide +kernel
theorem dd_X9_ones_5 : decode X9_ones.2.1 5 = .ok (.bipush 8, 2) := by decide +kernel
theorem dd_X9_ones_7 : decode X9_ones.2.1 7 = .ok (.if_icmp .ge 17, 3) := by decide +kernel
theorem dd_X9_ones_10 : decode X9_ones.2.1 10 = .ok (.iload_n 1, 1) := by decide +kernel
theorem dd_X9_ones_11 : decode X9_ones.2.1 11 = .ok (.iload_n 0, 1) := by decide +kernel
theorem dd_X9_ones_12 : decode X9_ones.2.1 12 = .ok (.iload_n 2, 1) := by decide +kernel
theorem dd_X9_ones_13 : decode X9_ones.2.1 13 = .ok (.ishr, 1) := by decide +kernel
theorem dd_X9_ones_14 : decode X9_ones.2.1 14 = .ok (.iconst 1, 1) := by decide +kernel
theorem dd_X9_ones_15 : decode X9_ones.2.1 15 = .ok (.iand, 1) := by decide +kernel
theorem dd_X9_ones_16 : decode X9_ones.2.1 16 = .ok (.iadd, 1) := by decide +kernel
theorem dd_X9_ones_17 : decode X9_ones.2.1 17 = .ok (.istore_n 1, 1) := by decide +kernel
theorem dd_X9_ones_18 : decode X9_ones.2.1 18 = .ok (.iinc 2 1, 3) := by decide +kernel
theorem dd_X9_ones_21 : decode X9_ones.2.1 21 = .ok (.goto (-17), 3) := by decide +kernel
theorem dd_X9_ones_24 : decode X9_ones.2.1 24 = .ok (.iload_n 1, 1) := by decide +kernel
theorem dd_X9_ones_25 : decode X9_ones.2.1 25 = .ok (.ireturn, 1) := by decide +kernel
theorem dd_X9_copyRow_0 : decode X9_copyRow.2.1 0 = .ok (.iconst 0, 1) := by decide +kernel
theorem dd_X9_copyRow_1 : decode X9_copyRow.2.1 1 = .ok (.istore_n 3, 1) := by decide +kernel
theorem dd_X9_copyRow_2 : decode X9_copyRow.2.1 2 = .ok (.iload_n 3, 1) := by decide +kernel
theorem dd_X9_copyRow_3 : decode X9_copyRow.2.1 3 = .ok (.bipush 12, 2) := by decide +kernel
theorem dd_X9_copyRow_5 : decode X9_copyRow.2.1 5 = .ok (.if_icmp .ge 25, 3) := by decide +kernel
theorem dd_X9_copyRow_8 : decode X9_copyRow.2.1 8 = .ok (.aload_n 0, 1) := by decide +kernel
theorem dd_X9_copyRow_9 : decode X9_copyRow.2.1 9 = .ok (.getfield 7, 3) := by decide +kernel
theorem dd_X9_copyRow_12 : decode X9_copyRow.2.1 12 = .ok (.iload_n 2, 1) := by decide +kernel
theorem dd_X9_copyRow_13 : decode X9_copyRow.2.1 13 = .ok (.iload_n 3, 1) := by decide +kernel
theorem dd_X9_copyRow_14 : decode X9_copyRow.2.1 14 = .ok (.iadd, 1) := by decide +kernel
theorem dd_X9_copyRow_15 : decode X9_copyRow.2.1 15 = .ok (.aload_n 0, 1) := by decide +kernel
theorem dd_X9_copyRow_16 : decode X9_copyRow.2.1 16 = .ok (.getfield 7, 3) := by decide +kernel
theorem dd_X9_copyRow_19 : decode X9_copyRow.2.1 19 = .ok (.iload_n 1, 1) := by decide +kernel
theorem dd_X9_copyRow_20 : decode X9_copyRow.2.1 20 = .ok (.iload_n 3, 1) := by decide +kernel
theorem dd_X9_copyRow_21 : decode X9_copyRow.2.1 21 = .ok (.iadd, 1) := by decide +kernel
theorem dd_X9_copyRow_22 : decode X9_copyRow.2.1 22 = .ok (.iaload, 1) := by decide +kernel
theorem dd_X9_copyRow_23 : decode X9_copyRow.2.1 23 = .ok (.iastore, 1) := by decide +kernel
theorem dd_X9_copyRow_24 : decode X9_copyRow.2.1 24 = .ok (.iinc 3 1, 3) := by decide +kernel
theorem dd_X9_copyRow_27 : decode X9_copyRow.2.1 27 = .ok (.goto (-25), 3) := by decide +kernel
theorem dd_X9_copyRow_30 : decode X9_copyRow.2.1 30 = .ok (.return_, 1) := by decide +kernel
theorem dd_X9_anew_0 : decode X9_anew.2.1 0 = .ok (.aload_n 0, 1) := by decide +kernel
theorem dd_X9_anew_1 : decode X9_anew.2.1 1 = .ok (.iload_n 1, 1) := by decide +kernel
theorem dd_X9_anew_2 : decode X9_anew.2.1 2 = .ok (.putfield 86, 3) := by decide +kernel
theorem dd_X9_anew_5 : decode X9_anew.2.1 5 = .ok (.aload_n 0, 1) := by decide +kernel
theorem dd_X9_anew_6 : decode X9_anew.2.1 6 = .ok (.iconst 2, 1) := by decide +kernel
theorem dd_X9_anew_7 : decode X9_anew.2.1 7 = .ok (.putfield 90, 3) := by decide +kernel
theorem dd_X9_anew_10 : decode X9_anew.2.1 10 = .ok (.aload_n 0, 1) := by decide +kernel
theorem dd_X9_anew_11 : decode X9_anew.2.1 11 = .ok (.bipush 20, 2) := by decide +kernel
theorem dd_X9_anew_13 : decode X9_anew.2.1 13 = .ok (.putfield 93, 3) := by decide +kernel
theorem dd_X9_anew_16 : decode X9_anew.2.1 16 = .ok (.aload_n 0, 1) := by decide +kernel
theorem dd_X9_anew_17 : decode X9_anew.2.1 17 = .ok (.iconst 0, 1) := by decide +kernel
theorem dd_X9_anew_18 : decode X9_anew.2.1 18 = .ok (.putfield 96, 3) := by decide +kernel
theorem dd_X9_anew_21 : decode X9_anew.2.1 21 = .ok (.aload_n 0, 1) := by decide +kernel
theorem dd_X9_anew_22 : decode X9_anew.2.1 22 = .ok (.iconst 0, 1) := by decide +kernel
theorem dd_X9_anew_23 : decode X9_anew.2.1 23 = .ok (.putfield 99, 3) := by decide +kernel
theorem dd_X9_anew_26 : decode X9_anew.2.1 26 = .ok (.iconst 0, 1) := by decide +kernel
theorem dd_X9_anew_27 : decode X9_anew.2.1 27 = .ok (.istore_n 2, 1) := by decide +kernel
theorem dd_X9_anew_28 : decode X9_anew.2.1 28 = .ok (.iload_n 2, 1) := by decide +kernel
theorem dd_X9_anew_29 : decode X9_anew.2.1 29 = .ok (.bipush 6, 2) := by decide +kernel
theorem dd_X9_anew_31 : decode X9_anew.2.1 31 = .ok (.if_icmp .ge 28, 3) := by decide +kernel
theorem dd_X9_anew_34 : decode X9_anew.2.1 34 = .ok (.aload_n 0, 1) := by decide +kernel
theorem dd_X9_anew_35 : decode X9_anew.2.1 35 = .ok (.getfield 7, 3) := by decide +kernel
theorem dd_X9_anew_38 : decode X9_anew.2.1 38 = .ok (.iconst 0, 1) := by decide +kernel
theorem dd_X9_anew_39 : decode X9_anew.2.1 39 = .ok (.iload_n 2, 1) := by decide +kernel
theorem dd_X9_anew_40 : decode X9_anew.2.1 40 = .ok (.iadd, 1) := by decide +kernel
theorem dd_X9_anew_41 : decode X9_anew.2.1 41 = .ok (.iconst 0, 1) := by decide +kernel
theorem dd_X9_anew_42 : decode X9_anew.2.1 42 = .ok (.iastore, 1) := by decide +kernel
theorem dd_X9_anew_43 : decode X9_anew.2.1 43 = .ok (.aload_n 0, 1) := by decide +kernel
theorem dd_X9_anew_44 : decode X9_anew.2.1 44 = .ok (.getfield 7, 3) := by decide +kernel
theorem dd_X9_anew_47 : decode X9_anew.2.1 47 = .ok (.bipush 6, 2) := by decide +kernel
theorem dd_X9_anew_49 : decode X9_anew.2.1 49 = .ok (.iload_n 2, 1) := by decide +kernel
theorem dd_X9_anew_50 : decode X9_anew.2.1 50 = .ok (.iadd, 1) := by decide +kernel
theorem dd_X9_anew_51 : decode X9_anew.2.1 51 = .ok (.iconst (-1), 1) := by decide +kernel
theorem dd_X9_anew_52 : decode X9_anew.2.1 52 = .ok (.iastore, 1) := by decide +kernel
theorem dd_X9_anew_53 : decode X9_anew.2.1 53 = .ok (.iinc 2 1, 3) := by decide +kernel
theorem dd_X9_anew_56 : decode X9_anew.2.1 56 = .ok (.goto (-28), 3) := by decide +kernel
theorem dd_X9_anew_59 : decode X9_anew.2.1 59 = .ok (.return_, 1) := by decide +kernel
theorem dd_X9_write_0 : decode X9_write.2.1 0 = .ok (.iload_n 1, 1) := by decide +kernel
theorem dd_X9_write_1 : decode X9_write.2.1 1 = .ok (.i2l, 1) := by decide +kernel
theorem dd_X9_write_2 : decode X9_write.2.1 2 = .ok (.lconst 0, 1) := by decide +kernel
theorem dd_X9_write_3 : decode X9_write.2.1 3 = .ok (.ldc2_w 102, 3) := by decide +kernel
theorem dd_X9_write_6 : decode X9_write.2.1 6 = .ok (.invokestatic 104, 3) := by decide +kernel
theorem dd_X9_write_9 : decode X9_write.2.1 9 = .ok (.ifCond .ne 6, 3) := by decide +kernel
theorem dd_X9_write_12 : decode X9_write.2.1 12 = .ok (.bipush (-3), 2) := by decide +kernel
theorem dd_X9_write_14 : decode X9_write.2.1 14 = .ok (.ireturn, 1) := by decide +kernel
theorem dd_X9_write_15 : decode X9_write.2.1 15 = .ok (.aload_n 0, 1) := by decide +kernel
theorem dd_X9_write_16 : decode X9_write.2.1 16 = .ok (.getfield 108, 3) := by decide +kernel
theorem dd_X9_write_19 : decode X9_write.2.1 19 = .ok (.sipush 200, 3) := by decide +kernel
theorem dd_X9_write_22 : decode X9_write.2.1 22 = .ok (.if_icmp .ne 6, 3) := by decide +kernel
theorem dd_X9_write_25 : decode X9_write.2.1 25 = .ok (.bipush (-5), 2) := by decide +kernel
theorem dd_X9_write_27 : decode X9_write.2.1 27 = .ok (.ireturn, 1) := by decide +kernel
theorem dd_X9_write_28 : decode X9_write.2.1 28 = .ok (.aload_n 0, 1) := by decide +kernel
theorem dd_X9_write_29 : decode X9_write.2.1 29 = .ok (.getfield 20, 3) := by decide +kernel
theorem dd_X9_write_32 : decode X9_write.2.1 32 = .ok (.aload_n 0, 1) := by decide +kernel
theorem dd_X9_write_33 : decode X9_write.2.1 33 = .ok (.getfield 108, 3) := by decide +kernel
theorem dd_X9_write_36 : decode X9_write.2.1 36 = .ok (.iload_n 1, 1) := by decide +kernel
theorem dd_X9_write_37 : decode X9_write.2.1 37 = .ok (.iastore, 1) := by decide +kernel
theorem dd_X9_write_38 : decode X9_write.2.1 38 = .ok (.aload_n 0, 1) := by decide +kernel
theorem dd_X9_write_39 : decode X9_write.2.1 39 = .ok (.dup, 1) := by decide +kernel
theorem dd_X9_write_40 : decode X9_write.2.1 40 = .ok (.getfield 108, 3) := by decide +kernel
theorem dd_X9_write_43 : decode X9_write.2.1 43 = .ok (.iconst 1, 1) := by decide +kernel
theorem dd_X9_write_44 : decode X9_write.2.1 44 = .ok (.iadd, 1) := by decide +kernel
theorem dd_X9_write_45 : decode X9_write.2.1 45 = .ok (.putfield 108, 3) := by decide +kernel
theorem dd_X9_write_48 : decode X9_write.2.1 48 = .ok (.aload_n 0, 1) := by decide +kernel
theorem dd_X9_write_49 : decode X9_write.2.1 49 = .ok (.getfield 108, 3) := by decide +kernel
theorem dd_X9_write_52 : decode X9_write.2.1 52 = .ok (.ireturn, 1) := by decide +kernel
theorem dd_X9_erase_0 : decode X9_erase.2.1 0 = .ok (.aload_n 0, 1) := by decide +kernel
theorem dd_X9_erase_1 : decode X9_erase.2.1 1 = .ok (.getfield 108, 3) := by decide +kernel
theorem dd_X9_erase_4 : decode X9_erase.2.1 4 = .ok (.istore_n 1, 1) := by decide +kernel
theorem dd_X9_erase_5 : decode X9_erase.2.1 5 = .ok (.aload_n 0, 1) := by decide +kernel
theorem dd_X9_erase_6 : decode X9_erase.2.1 6 = .ok (.iconst 0, 1) := by decide +kernel
theorem dd_X9_erase_7 : decode X9_erase.2.1 7 = .ok (.putfield 108, 3) := by decide +kernel
theorem dd_X9_erase_10 : decode X9_erase.2.1 10 = .ok (.iload_n 1, 1) := by decide +kernel
theorem dd_X9_erase_11 : decode X9_erase.2.1 11 = .ok (.ireturn, 1) := by decide +kernel
theorem dd_X9_isLetter_0 : decode X9_isLetter.2.1 0 = .ok (.iload_n 0, 1) := by decide +kernel
theorem dd_X9_isLetter_1 : decode X9_isLetter.2.1 1 = .ok (.i2l, 1) := by decide +kernel
theorem dd_X9_isLetter_2 : decode X9_isLetter.2.1 2 = .ok (.ldc2_w 111, 3) := by decide +kernel
theorem dd_X9_isLetter_5 : decode X9_isLetter.2.1 5 = .ok (.ldc2_w 113, 3) := by decide +kernel
theorem dd_X9_isLetter_8 : decode X9_isLetter.2.1 8 = .ok (.invokestatic 104, 3) := by decide +kernel
theorem dd_X9_isLetter_11 : decode X9_isLetter.2.1 11 = .ok (.ireturn, 1) := by decide +kernel
theorem dd_X9_isDigit_0 : decode X9_isDigit.2.1 0 = .ok (.iload_n 0, 1) := by decide +kernel
theorem dd_X9_isDigit_1 : decode X9_isDigit.2.1 1 = .ok (.i2l, 1) := by decide +kernel
theorem dd_X9_isDigit_2 : decode X9_isDigit.2.1 2 = .ok (.ldc2_w 115, 3) := by decide +kernel
theorem dd_X9_isDigit_5 : decode X9_isDigit.2.1 5 = .ok (.ldc2_w 117, 3) := by decide +kernel
theorem dd_X9_isDigit_8 : decode X9_isDigit.2.1 8 = .ok (.invokestatic 104, 3) := by decide +kernel
theorem dd_X9_isDigit_11 : decode X9_isDigit.2.1 11 = .ok (.ireturn, 1) := by decide +kernel
theorem dd_X9_nextToken_0 : decode X9_nextToken.2.1 0 = .ok (.aload_n 0, 1) := by decide +kernel
theorem dd_X9_nextToken_1 : decode X9_nextToken.2.1 1 = .ok (.aload_n 0, 1) := by decide +kernel
theorem dd_X9_nextToken_2 : decode X9_nextToken.2.1 2 = .ok (.getfield 119, 3) := by decide +kernel
theorem dd_X9_nextToken_5 : decode X9_nextToken.2.1 5 = .ok (.putfield 122, 3) := by decide +kernel
theorem dd_X9_nextToken_8 : decode X9_nextToken.2.1 8 = .ok (.aload_n 0, 1) := by decide +kernel
theorem dd_X9_nextToken_9 : decode X9_nextToken.2.1 9 = .ok (.getfield 122, 3) := by decide +kernel
theorem dd_X9_nextToken_12 : decode X9_nextToken.2.1 12 = .ok (.aload_n 0, 1) := by decide +kernel
theorem dd_X9_nextToken_13 : decode X9_nextToken.2.1 13 = .ok (.getfield 108, 3) := by decide +kernel
theorem dd_X9_nextToken_16 : decode X9_nextToken.2.1 16 = .ok (.if_icmp .ge 30, 3) := by decide +kernel
theorem dd_X9_nextToken_19 : decode X9_nextToken.2.1 19 = .ok (.aload_n 0, 1) := by decide +kernel
theorem dd_X9_nextToken_20 : decode X9_nextToken.2.1 20 = .ok (.getfield 20, 3) := by decide +kernel
theorem dd_X9_nextToken_23 : decode X9_nextToken.2.1 23 = .ok (.aload_n 0, 1) := by decide +kernel
theorem dd_X9_nextToken_24 : decode X9_nextToken.2.1 24 = .ok (.getfield 122, 3) := by decide +kernel
theorem dd_X9_nextToken_27 : decode X9_nextToken.2.1 27 = .ok (.iaload, 1) := by decide +kernel
theorem dd_X9_nextToken_28 : decode X9_nextToken.2.1 28 = .ok (.bipush 32, 2) := by decide +kernel
theorem dd_X9_nextToken_30 : decode X9_nextToken.2.1 30 = .ok (.if_icmp .ne 16, 3) := by decide +kernel
theorem dd_X9_nextToken_33 : decode X9_nextToken.2.1 33 = .ok (.aload_n 0, 1) := by decide +kernel
theorem dd_X9_nextToken_34 : decode X9_nextToken.2.1 34 = .ok (.dup, 1) := by decide +kernel
theorem dd_X9_nextToken_35 : decode X9_nextToken.2.1 35 = .ok (.getfield 122, 3) := by decide +kernel
theorem dd_X9_nextToken_38 : decode X9_nextToken.2.1 38 = .ok (.iconst 1, 1) := by decide +kernel
theorem dd_X9_nextToken_39 : decode X9_nextToken.2.1 39 = .ok (.iadd, 1) := by decide +kernel
theorem dd_X9_nextToken_40 : decode X9_nextToken.2.1 40 = .ok (.putfield 122, 3) := by decide +kernel
theorem dd_X9_nextToken_43 : decode X9_nextToken.2.1 43 = .ok (.goto (-35), 3) := by decide +kernel
theorem dd_X9_nextToken_46 : decode X9_nextToken.2.1 46 = .ok (.aload_n 0, 1) := by decide +kernel
theorem dd_X9_nextToken_47 : decode X9_nextToken.2.1 47 = .ok (.aload_n 0, 1) := by decide +kernel
theorem dd_X9_nextToken_48 : decode X9_nextToken.2.1 48 = .ok (.getfield 122, 3) := by decide +kernel
theorem dd_X9_nextToken_51 : decode X9_nextToken.2.1 51 = .ok (.aload_n 0, 1) := by decide +kernel
theorem dd_X9_nextToken_52 : decode X9_nextToken.2.1 52 = .ok (.getfield 108, 3) := by decide +kernel
theorem dd_X9_nextToken_55 : decode X9_nextToken.2.1 55 = .ok (.if_icmp .ge 12, 3) := by decide +kernel
theorem dd_X9_nextToken_58 : decode X9_nextToken.2.1 58 = .ok (.aload_n 0, 1) := by decide +kernel
theorem dd_X9_nextToken_59 : decode X9_nextToken.2.1 59 = .ok (.getfield 122, 3) := by decide +kernel
theorem dd_X9_nextToken_62 : decode X9_nextToken.2.1 62 = .ok (.iconst 1, 1) := by decide +kernel
theorem dd_X9_nextToken_63 : decode X9_nextToken.2.1 63 = .ok (.iadd, 1) := by decide +kernel
theorem dd_X9_nextToken_64 : decode X9_nextToken.2.1 64 = .ok (.goto 7, 3) := by decide +kernel
theorem dd_X9_nextToken_67 : decode X9_nextToken.2.1 67 = .ok (.aload_n 0, 1) := by decide +kernel
theorem dd_X9_nextToken_68 : decode X9_nextToken.2.1 68 = .ok (.getfield 122, 3) := by decide +kernel
theorem dd_X9_nextToken_71 : decode X9_nextToken.2.1 71 = .ok (.putfield 119, 3) := by decide +kernel
theorem dd_X9_nextToken_74 : decode X9_nextToken.2.1 74 = .ok (.aload_n 0, 1) := by decide +kernel
theorem dd_X9_nextToken_75 : decode X9_nextToken.2.1 75 = .ok (.getfield 122, 3) := by decide +kernel
theorem dd_X9_nextToken_78 : decode X9_nextToken.2.1 78 = .ok (.aload_n 0, 1) := by decide +kernel
theorem dd_X9_nextToken_79 : decode X9_nextToken.2.1 79 = .ok (.getfield 108, 3) := by decide +kernel
theorem dd_X9_nextToken_82 : decode X9_nextToken.2.1 82 = .ok (.if_icmp .ge 57, 3) := by decide +kernel
theorem dd_X9_nextToken_85 : decode X9_nextToken.2.1 85 = .ok (.aload_n 0, 1) := by decide +kernel
theorem dd_X9_nextToken_86 : decode X9_nextToken.2.1 86 = .ok (.getfield 20, 3) := by decide +kernel
theorem dd_X9_nextToken_89 : decode X9_nextToken.2.1 89 = .ok (.aload_n 0, 1) := by decide +kernel
theorem dd_X9_nextToken_90 : decode X9_nextToken.2.1 90 = .ok (.getfield 122, 3) := by decide +kernel
theorem dd_X9_nextToken_93 : decode X9_nextToken.2.1 93 = .ok (.iaload, 1) := by decide +kernel
theorem dd_X9_nextToken_94 : decode X9_nextToken.2.1 94 = .ok (.invokestatic 125, 3) := by decide +kernel
theorem dd_X9_nextToken_97 : decode X9_nextToken.2.1 97 = .ok (.ifCond .eq 42, 3) := by decide +kernel
theorem dd_X9_nextToken_100 : decode X9_nextToken.2.1 100 = .ok (.aload_n 0, 1) := by decide +kernel
theorem dd_X9_nextToken_101 : decode X9_nextToken.2.1 101 = .ok (.getfield 119, 3) := by decide +kernel
theorem dd_X9_nextToken_104 : decode X9_nextToken.2.1 104 = .ok (.aload_n 0, 1) := by decide +kernel
theorem dd_X9_nextToken_105 : decode X9_nextToken.2.1 105 = .ok (.getfield 108, 3) := by decide +kernel
theorem dd_X9_nextToken_108 : decode X9_nextToken.2.1 108 = .ok (.if_icmp .ge 96, 3) := by decide +kernel
theorem dd_X9_nextToken_111 : decode X9_nextToken.2.1 111 = .ok (.aload_n 0, 1) := by decide +kernel
theorem dd_X9_nextToken_112 : decode X9_nextToken.2.1 112 = .ok (.getfield 20, 3) := by decide +kernel
theorem dd_X9_nextToken_115 : decode X9_nextToken.2.1 115 = .ok (.aload_n 0, 1) := by decide +kernel
theorem dd_X9_nextToken_116 : decode X9_nextToken.2.1 116 = .ok (.getfield 119, 3) := by decide +kernel
theorem dd_X9_nextToken_119 : decode X9_nextToken.2.1 119 = .ok (.iaload, 1) := by decide +kernel
theorem dd_X9_nextToken_120 : decode X9_nextToken.2.1 120 = .ok (.invokestatic 125, 3) := by decide +kernel
theorem dd_X9_nextToken_123 : decode X9_nextToken.2.1 123 = .ok (.ifCond .eq 81, 3) := by decide +kernel
theorem dd_X9_nextToken_126 : decode X9_nextToken.2.1 126 = .ok (.aload_n 0, 1) := by decide +kernel
theorem dd_X9_nextToken_127 : decode X9_nextToken.2.1 127 = .ok (.dup, 1) := by decide +kernel
theorem dd_X9_nextToken_128 : decode X9_nextToken.2.1 128 = .ok (.getfield 119, 3) := by decide +kernel
theorem dd_X9_nextToken_131 : decode X9_nextToken.2.1 131 = .ok (.iconst 1, 1) := by decide +kernel
theorem dd_X9_nextToken_132 : decode X9_nextToken.2.1 132 = .ok (.iadd, 1) := by decide +kernel
theorem dd_X9_nextToken_133 : decode X9_nextToken.2.1 133 = .ok (.putfield 119, 3) := by decide +kernel
theorem dd_X9_nextToken_136 : decode X9_nextToken.2.1 136 = .ok (.goto (-36), 3) := by decide +kernel
theorem dd_X9_nextToken_139 : decode X9_nextToken.2.1 139 = .ok (.aload_n 0, 1) := by decide +kernel
theorem dd_X9_nextToken_140 : decode X9_nextToken.2.1 140 = .ok (.getfield 122, 3) := by decide +kernel
theorem dd_X9_nextToken_143 : decode X9_nextToken.2.1 143 = .ok (.aload_n 0, 1) := by decide +kernel
theorem dd_X9_nextToken_144 : decode X9_nextToken.2.1 144 = .ok (.getfield 108, 3) := by decide +kernel
theorem dd_X9_nextToken_147 : decode X9_nextToken.2.1 147 = .ok (.if_icmp .ge 57, 3) := by decide +kernel
theorem dd_X9_nextToken_150 : decode X9_nextToken.2.1 150 = .ok (.aload_n 0, 1) := by decide +kernel
theorem dd_X9_nextToken_151 : decode X9_nextToken.2.1 151 = .ok (.getfield 20, 3) := by decide +kernel
theorem dd_X9_nextToken_154 : decode X9_nextToken.2.1 154 = .ok (.aload_n 0, 1) := by decide +kernel
theorem dd_X9_nextToken_155 : decode X9_nextToken.2.1 155 = .ok (.getfield 122, 3) := by decide +kernel
theorem dd_X9_nextToken_158 : decode X9_nextToken.2.1 158 = .ok (.iaload, 1) := by decide +kernel
theorem dd_X9_nextToken_159 : decode X9_nextToken.2.1 159 = .ok (.invokestatic 129, 3) := by decide +kernel
theorem dd_X9_nextToken_162 : decode X9_nextToken.2.1 162 = .ok (.ifCond .eq 42, 3) := by decide +kernel
theorem dd_X9_nextToken_165 : decode X9_nextToken.2.1 165 = .ok (.aload_n 0, 1) := by decide +kernel
theorem dd_X9_nextToken_166 : decode X9_nextToken.2.1 166 = .ok (.getfield 119, 3) := by decide +kernel
theorem dd_X9_nextToken_169 : decode X9_nextToken.2.1 169 = .ok (.aload_n 0, 1) := by decide +kernel
theorem dd_X9_nextToken_170 : decode X9_nextToken.2.1 170 = .ok (.getfield 108, 3) := by decide +kernel
theorem dd_X9_nextToken_173 : decode X9_nextToken.2.1 173 = .ok (.if_icmp .ge 31, 3) := by decide +kernel
theorem dd_X9_nextToken_176 : decode X9_nextToken.2.1 176 = .ok (.aload_n 0, 1) := by decide +kernel
theorem dd_X9_nextToken_177 : decode X9_nextToken.2.1 177 = .ok (.getfield 20, 3) := by decide +kernel
theorem dd_X9_nextToken_180 : decode X9_nextToken.2.1 180 = .ok (.aload_n 0, 1) := by decide +kernel
theorem dd_X9_nextToken_181 : decode X9_nextToken.2.1 181 = .ok (.getfield 119, 3) := by decide +kernel
theorem dd_X9_nextToken_184 : decode X9_nextToken.2.1 184 = .ok (.iaload, 1) := by decide +kernel
theorem dd_X9_nextToken_185 : decode X9_nextToken.2.1 185 = .ok (.invokestatic 129, 3) := by decide +kernel
theorem dd_X9_nextToken_188 : decode X9_nextToken.2.1 188 = .ok (.ifCond .eq 16, 3) := by decide +kernel
theorem dd_X9_nextToken_191 : decode X9_nextToken.2.1 191 = .ok (.aload_n 0, 1) := by decide +kernel
theorem dd_X9_nextToken_192 : decode X9_nextToken.2.1 192 = .ok (.dup, 1) := by decide +kernel
theorem dd_X9_nextToken_193 : decode X9_nextToken.2.1 193 = .ok (.getfield 119, 3) := by decide +kernel
theorem dd_X9_nextToken_196 : decode X9_nextToken.2.1 196 = .ok (.iconst 1, 1) := by decide +kernel
theorem dd_X9_nextToken_197 : decode X9_nextToken.2.1 197 = .ok (.iadd, 1) := by decide +kernel
theorem dd_X9_nextToken_198 : decode X9_nextToken.2.1 198 = .ok (.putfield 119, 3) := by decide +kernel
theorem dd_X9_nextToken_201 : decode X9_nextToken.2.1 201 = .ok (.goto (-36), 3) := by decide +kernel
theorem dd_X9_nextToken_204 : decode X9_nextToken.2.1 204 = .ok (.return_, 1) := by decide +kernel
theorem dd_X9_isWord_0 : decode X9_isWord.2.1 0 = .ok (.aload_n 0, 1) := by decide +kernel
theorem dd_X9_isWord_1 : decode X9_isWord.2.1 1 = .ok (.getfield 119, 3) := by decide +kernel
theorem dd_X9_isWord_4 : decode X9_isWord.2.1 4 = .ok (.aload_n 0, 1) := by decide +kernel
theorem dd_X9_isWord_5 : decode X9_isWord.2.1 5 = .ok (.getfield 122, 3) := by decide +kernel
theorem dd_X9_isWord_8 : decode X9_isWord.2.1 8 = .ok (.isub, 1) := by decide +kernel
theorem dd_X9_isWord_9 : decode X9_isWord.2.1 9 = .ok (.aload_n 1, 1) := by decide +kernel
theorem dd_X9_isWord_10 : decode X9_isWord.2.1 10 = .ok (.arraylength, 1) := by decide +kernel
theorem dd_X9_isWord_11 : decode X9_isWord.2.1 11 = .ok (.if_icmp .ne 7, 3) := by decide +kernel
theorem dd_X9_isWord_14 : decode X9_isWord.2.1 14 = .ok (.iconst 1, 1) := by decide +kernel
theorem dd_X9_isWord_15 : decode X9_isWord.2.1 15 = .ok (.goto 4, 3) := by decide +kernel
theorem dd_X9_isWord_18 : decode X9_isWord.2.1 18 = .ok (.iconst 0, 1) := by decide +kernel
theorem dd_X9_isWord_19 : decode X9_isWord.2.1 19 = .ok (.istore_n 2, 1) := by decide +kernel
theorem dd_X9_isWord_20 : decode X9_isWord.2.1 20 = .ok (.iconst 0, 1) := by decide +kernel
theorem dd_X9_isWord_21 : decode X9_isWord.2.1 21 = .ok (.istore_n 3, 1) := by decide +kernel
theorem dd_X9_isWord_22 : decode X9_isWord.2.1 22 = .ok (.iload_n 3, 1) := by decide +kernel
theorem dd_X9_isWord_23 : decode X9_isWord.2.1 23 = .ok (.aload_n 1, 1) := by decide +kernel
theorem dd_X9_isWord_24 : decode X9_isWord.2.1 24 = .ok (.arraylength, 1) := by decide +kernel
theorem dd_X9_isWord_25 : decode X9_isWord.2.1 25 = .ok (.if_icmp .ge 36, 3) := by decide +kernel
theorem dd_X9_isWord_28 : decode X9_isWord.2.1 28 = .ok (.iload_n 2, 1) := by decide +kernel
theorem dd_X9_isWord_29 : decode X9_isWord.2.1 29 = .ok (.ifCond .eq 32, 3) := by decide +kernel
theorem dd_X9_isWord_32 : decode X9_isWord.2.1 32 = .ok (.aload_n 0, 1) := by decide +kernel
theorem dd_X9_isWord_33 : decode X9_isWord.2.1 33 = .ok (.getfield 20, 3) := by decide +kernel
theorem dd_X9_isWord_36 : decode X9_isWord.2.1 36 = .ok (.aload_n 0, 1) := by decide +kernel
theorem dd_X9_isWord_37 : decode X9_isWord.2.1 37 = .ok (.getfield 122, 3) := by decide +kernel
theorem dd_X9_isWord_40 : decode X9_isWord.2.1 40 = .ok (.iload_n 3, 1) := by decide +kernel
theorem dd_X9_isWord_41 : decode X9_isWord.2.1 41 = .ok (.iadd, 1) := by decide +kernel
theorem dd_X9_isWord_42 : decode X9_isWord.2.1 42 = .ok (.iaload, 1) := by decide +kernel
theorem dd_X9_isWord_43 : decode X9_isWord.2.1 43 = .ok (.aload_n 1, 1) := by decide +kernel
theorem dd_X9_isWord_44 : decode X9_isWord.2.1 44 = .ok (.iload_n 3, 1) := by decide +kernel
theorem dd_X9_isWord_45 : decode X9_isWord.2.1 45 = .ok (.iaload, 1) := by decide +kernel
theorem dd_X9_isWord_46 : decode X9_isWord.2.1 46 = .ok (.if_icmp .ne 7, 3) := by decide +kernel
theorem dd_X9_isWord_49 : decode X9_isWord.2.1 49 = .ok (.iconst 1, 1) := by decide +kernel
theorem dd_X9_isWord_50 : decode X9_isWord.2.1 50 = .ok (.goto 4, 3) := by decide +kernel
theorem dd_X9_isWord_53 : decode X9_isWord.2.1 53 = .ok (.iconst 0, 1) := by decide +kernel
theorem dd_X9_isWord_54 : decode X9_isWord.2.1 54 = .ok (.istore_n 2, 1) := by decide +kernel
theorem dd_X9_isWord_55 : decode X9_isWord.2.1 55 = .ok (.iinc 3 1, 3) := by decide +kernel
theorem dd_X9_isWord_58 : decode X9_isWord.2.1 58 = .ok (.goto (-36), 3) := by decide +kernel
theorem dd_X9_isWord_61 : decode X9_isWord.2.1 61 = .ok (.iload_n 2, 1) := by decide +kernel
theorem dd_X9_isWord_62 : decode X9_isWord.2.1 62 = .ok (.ireturn, 1) := by decide +kernel
theorem dd_X9_number_0 : decode X9_number.2.1 0 = .ok (.aload_n 0, 1) := by decide +kernel
theorem dd_X9_number_1 : decode X9_number.2.1 1 = .ok (.getfield 122, 3) := by decide +kernel
theorem dd_X9_number_4 : decode X9_number.2.1 4 = .ok (.aload_n 0, 1) := by decide +kernel
theorem dd_X9_number_5 : decode X9_number.2.1 5 = .ok (.getfield 108, 3) := by decide +kernel
theorem dd_X9_number_8 : decode X9_number.2.1 8 = .ok (.if_icmp .eq 31, 3) := by decide +kernel
theorem dd_X9_number_11 : decode X9_number.2.1 11 = .ok (.aload_n 0, 1) := by decide +kernel
theorem dd_X9_number_12 : decode X9_number.2.1 12 = .ok (.getfield 20, 3) := by decide +kernel
theorem dd_X9_number_15 : decode X9_number.2.1 15 = .ok (.aload_n 0, 1) := by decide +kernel
theorem dd_X9_number_16 : decode X9_number.2.1 16 = .ok (.getfield 122, 3) := by decide +kernel
theorem dd_X9_number_19 : decode X9_number.2.1 19 = .ok (.iaload, 1) := by decide +kernel
theorem dd_X9_number_20 : decode X9_number.2.1 20 = .ok (.invokestatic 129, 3) := by decide +kernel
theorem dd_X9_number_23 : decode X9_number.2.1 23 = .ok (.ifCond .eq 16, 3) := by decide +kernel
theorem dd_X9_number_26 : decode X9_number.2.1 26 = .ok (.aload_n 0, 1) := by decide +kernel
theorem dd_X9_number_27 : decode X9_number.2.1 27 = .ok (.getfield 119, 3) := by decide +kernel
theorem dd_X9_number_30 : decode X9_number.2.1 30 = .ok (.aload_n 0, 1) := by decide +kernel
theorem dd_X9_number_31 : decode X9_number.2.1 31 = .ok (.getfield 122, 3) := by decide +kernel
theorem dd_X9_number_34 : decode X9_number.2.1 34 = .ok (.isub, 1) := by decide +kernel
theorem dd_X9_number_35 : decode X9_number.2.1 35 = .ok (.iconst 2, 1) := by decide +kernel
theorem dd_X9_number_36 : decode X9_number.2.1 36 = .ok (.if_icmp .le 5, 3) := by decide +kernel
theorem dd_X9_number_39 : decode X9_number.2.1 39 = .ok (.iconst 0, 1) := by decide +kernel
theorem dd_X9_number_40 : decode X9_number.2.1 40 = .ok (.ireturn, 1) := by decide +kernel
theorem dd_X9_number_41 : decode X9_number.2.1 41 = .ok (.aload_n 0, 1) := by decide +kernel
theorem dd_X9_number_42 : decode X9_number.2.1 42 = .ok (.getfield 20, 3) := by decide +kernel
theorem dd_X9_number_45 : decode X9_number.2.1 45 = .ok (.aload_n 0, 1) := by decide +kernel
theorem dd_X9_number_46 : decode X9_number.2.1 46 = .ok (.getfield 122, 3) := by decide +kernel
theorem dd_X9_number_49 : decode X9_number.2.1 49 = .ok (.iaload, 1) := by decide +kernel
theorem dd_X9_number_50 : decode X9_number.2.1 50 = .ok (.bipush 48, 2) := by decide +kernel
theorem dd_X9_number_52 : decode X9_number.2.1 52 = .ok (.isub, 1) := by decide +kernel
theorem dd_X9_number_53 : decode X9_number.2.1 53 = .ok (.istore 4, 2) := by decide +kernel
theorem dd_X9_number_55 : decode X9_number.2.1 55 = .ok (.aload_n 0, 1) := by decide +kernel
theorem dd_X9_number_56 : decode X9_number.2.1 56 = .ok (.getfield 119, 3) := by decide +kernel
theorem dd_X9_number_59 : decode X9_number.2.1 59 = .ok (.aload_n 0, 1) := by decide +kernel
theorem dd_X9_number_60 : decode X9_number.2.1 60 = .ok (.getfield 122, 3) := by decide +kernel
theorem dd_X9_number_63 : decode X9_number.2.1 63 = .ok (.isub, 1) := by decide +kernel
theorem dd_X9_number_64 : decode X9_number.2.1 64 = .ok (.iconst 2, 1) := by decide +kernel
theorem dd_X9_number_65 : decode X9_number.2.1 65 = .ok (.if_icmp .ne 26, 3) := by decide +kernel
theorem dd_X9_number_68 : decode X9_number.2.1 68 = .ok (.bipush 10, 2) := by decide +kernel
theorem dd_X9_number_70 : decode X9_number.2.1 70 = .ok (.iload 4, 2) := by decide +kernel
theorem dd_X9_number_72 : decode X9_number.2.1 72 = .ok (.imul, 1) := by decide +kernel
theorem dd_X9_number_73 : decode X9_number.2.1 73 = .ok (.aload_n 0, 1) := by decide +kernel
theorem dd_X9_number_74 : decode X9_number.2.1 74 = .ok (.getfield 20, 3) := by decide +kernel
theorem dd_X9_number_77 : decode X9_number.2.1 77 = .ok (.aload_n 0, 1) := by decide +kernel
theorem dd_X9_number_78 : decode X9_number.2.1 78 = .ok (.getfield 122, 3) := by decide +kernel
theorem dd_X9_number_81 : decode X9_number.2.1 81 = .ok (.iconst 1, 1) := by decide +kernel
theorem dd_X9_number_82 : decode X9_number.2.1 82 = .ok (.iadd, 1) := by decide +kernel
theorem dd_X9_number_83 : decode X9_number.2.1 83 = .ok (.iaload, 1) := by decide +kernel
theorem dd_X9_number_84 : decode X9_number.2.1 84 = .ok (.iadd, 1) := by decide +kernel
theorem dd_X9_number_85 : decode X9_number.2.1 85 = .ok (.bipush 48, 2) := by decide +kernel
theorem dd_X9_number_87 : decode X9_number.2.1 87 = .ok (.isub, 1) := by decide +kernel
theorem dd_X9_number_88 : decode X9_number.2.1 88 = .ok (.goto 5, 3) := by decide +kernel
theorem dd_X9_number_91 : decode X9_number.2.1 91 = .ok (.iload 4, 2) := by decide +kernel
theorem dd_X9_number_93 : decode X9_number.2.1 93 = .ok (.istore 4, 2) := by decide +kernel
theorem dd_X9_number_95 : decode X9_number.2.1 95 = .ok (.iload 4, 2) := by decide +kernel
theorem dd_X9_number_97 : decode X9_number.2.1 97 = .ok (.i2l, 1) := by decide +kernel
theorem dd_X9_number_98 : decode X9_number.2.1 98 = .ok (.iload_n 2, 1) := by decide +kernel
theorem dd_X9_number_99 : decode X9_number.2.1 99 = .ok (.i2l, 1) := by decide +kernel
theorem dd_X9_number_100 : decode X9_number.2.1 100 = .ok (.iload_n 3, 1) := by decide +kernel
theorem dd_X9_number_101 : decode X9_number.2.1 101 = .ok (.i2l, 1) := by decide +kernel
theorem dd_X9_number_102 : decode X9_number.2.1 102 = .ok (.invokestatic 104, 3) := by decide +kernel
theorem dd_X9_number_105 : decode X9_number.2.1 105 = .ok (.istore 5, 2) := by decide +kernel
theorem dd_X9_number_107 : decode X9_number.2.1 107 = .ok (.iload 5, 2) := by decide +kernel
theorem dd_X9_number_109 : decode X9_number.2.1 109 = .ok (.ifCond .eq 15, 3) := by decide +kernel
theorem dd_X9_number_112 : decode X9_number.2.1 112 = .ok (.aload_n 0, 1) := by decide +kernel
theorem dd_X9_number_113 : decode X9_number.2.1 113 = .ok (.getfield 38, 3) := by decide +kernel
theorem dd_X9_number_116 : decode X9_number.2.1 116 = .ok (.iload_n 1, 1) := by decide +kernel
theorem dd_X9_number_117 : decode X9_number.2.1 117 = .ok (.iload 4, 2) := by decide +kernel
theorem dd_X9_number_119 : decode X9_number.2.1 119 = .ok (.iastore, 1) := by decide +kernel
theorem dd_X9_number_120 : decode X9_number.2.1 120 = .ok (.aload_n 0, 1) := by decide +kernel
theorem dd_X9_number_121 : decode X9_number.2.1 121 = .ok (.invokevirtual 132, 3) := by decide +kernel
theorem dd_X9_number_124 : decode X9_number.2.1 124 = .ok (.iload 5, 2) := by decide +kernel
theorem dd_X9_number_126 : decode X9_number.2.1 126 = .ok (.ireturn, 1) := by decide +kernel
theorem dd_X9_readsBeats_0 : decode X9_readsBeats.2.1 0 = .ok (.aload_n 0, 1) := by decide +kernel
theorem dd_X9_readsBeats_1 : decode X9_readsBeats.2.1 1 = .ok (.getfield 122, 3) := by decide +kernel
theorem dd_X9_readsBeats_4 : decode X9_readsBeats.2.1 4 = .ok (.aload_n 0, 1) := by decide +kernel
theorem dd_X9_readsBeats_5 : decode X9_readsBeats.2.1 5 = .ok (.getfield 108, 3) := by decide +kernel
theorem dd_X9_readsBeats_8 : decode X9_readsBeats.2.1 8 = .ok (.if_icmp .ge 23, 3) := by decide +kernel
theorem dd_X9_readsBeats_11 : decode X9_readsBeats.2.1 11 = .ok (.aload_n 0, 1) := by decide +kernel
theorem dd_X9_readsBeats_12 : decode X9_readsBeats.2.1 12 = .ok (.getfield 119, 3) := by decide +kernel
theorem dd_X9_readsBeats_15 : decode X9_readsBeats.2.1 15 = .ok (.aload_n 0, 1) := by decide +kernel
theorem dd_X9_readsBeats_16 : decode X9_readsBeats.2.1 16 = .ok (.getfield 122, 3) := by decide +kernel
theorem dd_X9_readsBeats_19 : decode X9_readsBeats.2.1 19 = .ok (.isub, 1) := by decide +kernel
theorem dd_X9_readsBeats_20 : decode X9_readsBeats.2.1 20 = .ok (.aload_n 0, 1) := by decide +kernel
theorem dd_X9_readsBeats_21 : decode X9_readsBeats.2.1 21 = .ok (.getfield 135, 3) := by decide +kernel
theorem dd_X9_readsBeats_24 : decode X9_readsBeats.2.1 24 = .ok (.if_icmp .ne 7, 3) := by decide +kernel
theorem dd_X9_readsBeats_27 : decode X9_readsBeats.2.1 27 = .ok (.iconst 1, 1) := by decide +kernel
theorem dd_X9_readsBeats_28 : decode X9_readsBeats.2.1 28 = .ok (.goto 4, 3) := by decide +kernel
theorem dd_X9_readsBeats_31 : decode X9_readsBeats.2.1 31 = .ok (.iconst 0, 1) := by decide +kernel
theorem dd_X9_readsBeats_32 : decode X9_readsBeats.2.1 32 = .ok (.istore_n 1, 1) := by decide +kernel
theorem dd_X9_readsBeats_33 : decode X9_readsBeats.2.1 33 = .ok (.iconst 0, 1) := by decide +kernel
theorem dd_X9_readsBeats_34 : decode X9_readsBeats.2.1 34 = .ok (.istore_n 2, 1) := by decide +kernel
theorem dd_X9_readsBeats_35 : decode X9_readsBeats.2.1 35 = .ok (.aload_n 0, 1) := by decide +kernel
theorem dd_X9_readsBeats_36 : decode X9_readsBeats.2.1 36 = .ok (.getfield 122, 3) := by decide +kernel
theorem dd_X9_readsBeats_39 : decode X9_readsBeats.2.1 39 = .ok (.istore_n 3, 1) := by decide +kernel
theorem dd_X9_readsBeats_40 : decode X9_readsBeats.2.1 40 = .ok (.iload_n 3, 1) := by decide +kernel
theorem dd_X9_readsBeats_41 : decode X9_readsBeats.2.1 41 = .ok (.aload_n 0, 1) := by decide +kernel
theorem dd_X9_readsBeats_42 : decode X9_readsBeats.2.1 42 = .ok (.getfield 119, 3) := by decide +kernel
theorem dd_X9_readsBeats_45 : decode X9_readsBeats.2.1 45 = .ok (.if_icmp .ge 62, 3) := by decide +kernel
theorem dd_X9_readsBeats_48 : decode X9_readsBeats.2.1 48 = .ok (.iload_n 1, 1) := by decide +kernel
theorem dd_X9_readsBeats_49 : decode X9_readsBeats.2.1 49 = .ok (.ifCond .eq 58, 3) := by decide +kernel
theorem dd_X9_readsBeats_52 : decode X9_readsBeats.2.1 52 = .ok (.aload_n 0, 1) := by decide +kernel
theorem dd_X9_readsBeats_53 : decode X9_readsBeats.2.1 53 = .ok (.getfield 20, 3) := by decide +kernel
theorem dd_X9_readsBeats_56 : decode X9_readsBeats.2.1 56 = .ok (.iload_n 3, 1) := by decide +kernel
theorem dd_X9_readsBeats_57 : decode X9_readsBeats.2.1 57 = .ok (.iaload, 1) := by decide +kernel
theorem dd_X9_readsBeats_58 : decode X9_readsBeats.2.1 58 = .ok (.bipush 100, 2) := by decide +kernel
theorem dd_X9_readsBeats_60 : decode X9_readsBeats.2.1 60 = .ok (.if_icmp .eq 14, 3) := by decide +kernel
theorem dd_X9_readsBeats_63 : decode X9_readsBeats.2.1 63 = .ok (.aload_n 0, 1) := by decide +kernel
theorem dd_X9_readsBeats_64 : decode X9_readsBeats.2.1 64 = .ok (.getfield 20, 3) := by decide +kernel
theorem dd_X9_readsBeats_67 : decode X9_readsBeats.2.1 67 = .ok (.iload_n 3, 1) := by decide +kernel
theorem dd_X9_readsBeats_68 : decode X9_readsBeats.2.1 68 = .ok (.iaload, 1) := by decide +kernel
theorem dd_X9_readsBeats_69 : decode X9_readsBeats.2.1 69 = .ok (.bipush 102, 2) := by decide +kernel
theorem dd_X9_readsBeats_71 : decode X9_readsBeats.2.1 71 = .ok (.if_icmp .ne 7, 3) := by decide +kernel
theorem dd_X9_readsBeats_74 : decode X9_readsBeats.2.1 74 = .ok (.iconst 1, 1) := by decide +kernel
theorem dd_X9_readsBeats_75 : decode X9_readsBeats.2.1 75 = .ok (.goto 4, 3) := by decide +kernel
theorem dd_X9_readsBeats_78 : decode X9_readsBeats.2.1 78 = .ok (.iconst 0, 1) := by decide +kernel
theorem dd_X9_readsBeats_79 : decode X9_readsBeats.2.1 79 = .ok (.istore_n 1, 1) := by decide +kernel
theorem dd_X9_readsBeats_80 : decode X9_readsBeats.2.1 80 = .ok (.iconst 2, 1) := by decide +kernel
theorem dd_X9_readsBeats_81 : decode X9_readsBeats.2.1 81 = .ok (.iload_n 2, 1) := by decide +kernel
theorem dd_X9_readsBeats_82 : decode X9_readsBeats.2.1 82 = .ok (.imul, 1) := by decide +kernel
theorem dd_X9_readsBeats_83 : decode X9_readsBeats.2.1 83 = .ok (.aload_n 0, 1) := by decide +kernel
theorem dd_X9_readsBeats_84 : decode X9_readsBeats.2.1 84 = .ok (.getfield 20, 3) := by decide +kernel
theorem dd_X9_readsBeats_87 : decode X9_readsBeats.2.1 87 = .ok (.iload_n 3, 1) := by decide +kernel
theorem dd_X9_readsBeats_88 : decode X9_readsBeats.2.1 88 = .ok (.iaload, 1) := by decide +kernel
theorem dd_X9_readsBeats_89 : decode X9_readsBeats.2.1 89 = .ok (.bipush 102, 2) := by decide +kernel
theorem dd_X9_readsBeats_91 : decode X9_readsBeats.2.1 91 = .ok (.if_icmp .ne 7, 3) := by decide +kernel
theorem dd_X9_readsBeats_94 : decode X9_readsBeats.2.1 94 = .ok (.iconst 1, 1) := by decide +kernel
theorem dd_X9_readsBeats_95 : decode X9_readsBeats.2.1 95 = .ok (.goto 4, 3) := by decide +kernel
theorem dd_X9_readsBeats_98 : decode X9_readsBeats.2.1 98 = .ok (.iconst 0, 1) := by decide +kernel
theorem dd_X9_readsBeats_99 : decode X9_readsBeats.2.1 99 = .ok (.iadd, 1) := by decide +kernel
theorem dd_X9_readsBeats_100 : decode X9_readsBeats.2.1 100 = .ok (.istore_n 2, 1) := by decide +kernel
theorem dd_X9_readsBeats_101 : decode X9_readsBeats.2.1 101 = .ok (.iinc 3 1, 3) := by decide +kernel
theorem dd_X9_readsBeats_104 : decode X9_readsBeats.2.1 104 = .ok (.goto (-64), 3) := by decide +kernel
theorem dd_X9_readsBeats_107 : decode X9_readsBeats.2.1 107 = .ok (.iload_n 1, 1) := by decide +kernel
theorem dd_X9_readsBeats_108 : decode X9_readsBeats.2.1 108 = .ok (.ifCond .eq 14, 3) := by decide +kernel
theorem dd_X9_readsBeats_111 : decode X9_readsBeats.2.1 111 = .ok (.aload_n 0, 1) := by decide +kernel
theorem dd_X9_readsBeats_112 : decode X9_readsBeats.2.1 112 = .ok (.getfield 38, 3) := by decide +kernel
theorem dd_X9_readsBeats_115 : decode X9_readsBeats.2.1 115 = .ok (.iconst 0, 1) := by decide +kernel
theorem dd_X9_readsBeats_116 : decode X9_readsBeats.2.1 116 = .ok (.iload_n 2, 1) := by decide +kernel
theorem dd_X9_readsBeats_117 : decode X9_readsBeats.2.1 117 = .ok (.iastore, 1) := by decide +kernel
theorem dd_X9_readsBeats_118 : decode X9_readsBeats.2.1 118 = .ok (.aload_n 0, 1) := by decide +kernel
theorem dd_X9_readsBeats_119 : decode X9_readsBeats.2.1 119 = .ok (.invokevirtual 132, 3) := by decide +kernel
theorem dd_X9_readsBeats_122 : decode X9_readsBeats.2.1 122 = .ok (.iload_n 1, 1) := by decide +kernel
theorem dd_X9_readsBeats_123 : decode X9_readsBeats.2.1 123 = .ok (.ireturn, 1) := by decide +kernel
theorem dd_X9_wordHere_0 : decode X9_wordHere.2.1 0 = .ok (.aload_n 0, 1) := by decide +kernel
theorem dd_X9_wordHere_1 : decode X9_wordHere.2.1 1 = .ok (.aload_n 0, 1) := by decide +kernel
theorem dd_X9_wordHere_2 : decode X9_wordHere.2.1 2 = .ok (.getfield 41, 3) := by decide +kernel
theorem dd_X9_wordHere_5 : decode X9_wordHere.2.1 5 = .ok (.invokevirtual 138, 3) := by decide +kernel
theorem dd_X9_wordHere_8 : decode X9_wordHere.2.1 8 = .ok (.ifCond .eq 7, 3) := by decide +kernel
theorem dd_X9_wordHere_11 : decode X9_wordHere.2.1 11 = .ok (.iconst 0, 1) := by decide +kernel
theorem dd_X9_wordHere_12 : decode X9_wordHere.2.1 12 = .ok (.goto 79, 3) := by decide +kernel
theorem dd_X9_wordHere_15 : decode X9_wordHere.2.1 15 = .ok (.aload_n 0, 1) := by decide +kernel
theorem dd_X9_wordHere_16 : decode X9_wordHere.2.1 16 = .ok (.aload_n 0, 1) := by decide +kernel
theorem dd_X9_wordHere_17 : decode X9_wordHere.2.1 17 = .ok (.getfield 44, 3) := by decide +kernel
theorem dd_X9_wordHere_20 : decode X9_wordHere.2.1 20 = .ok (.invokevirtual 138, 3) := by decide +kernel
theorem dd_X9_wordHere_23 : decode X9_wordHere.2.1 23 = .ok (.ifCond .eq 7, 3) := by decide +kernel
theorem dd_X9_wordHere_26 : decode X9_wordHere.2.1 26 = .ok (.iconst 1, 1) := by decide +kernel
theorem dd_X9_wordHere_27 : decode X9_wordHere.2.1 27 = .ok (.goto 64, 3) := by decide +kernel
theorem dd_X9_wordHere_30 : decode X9_wordHere.2.1 30 = .ok (.aload_n 0, 1) := by decide +kernel
theorem dd_X9_wordHere_31 : decode X9_wordHere.2.1 31 = .ok (.aload_n 0, 1) := by decide +kernel
theorem dd_X9_wordHere_32 : decode X9_wordHere.2.1 32 = .ok (.getfield 47, 3) := by decide +kernel
theorem dd_X9_wordHere_35 : decode X9_wordHere.2.1 35 = .ok (.invokevirtual 138, 3) := by decide +kernel
theorem dd_X9_wordHere_38 : decode X9_wordHere.2.1 38 = .ok (.ifCond .eq 7, 3) := by decide +kernel
theorem dd_X9_wordHere_41 : decode X9_wordHere.2.1 41 = .ok (.iconst 2, 1) := by decide +kernel
theorem dd_X9_wordHere_42 : decode X9_wordHere.2.1 42 = .ok (.goto 49, 3) := by decide +kernel
theorem dd_X9_wordHere_45 : decode X9_wordHere.2.1 45 = .ok (.aload_n 0, 1) := by decide +kernel
theorem dd_X9_wordHere_46 : decode X9_wordHere.2.1 46 = .ok (.aload_n 0, 1) := by decide +kernel
theorem dd_X9_wordHere_47 : decode X9_wordHere.2.1 47 = .ok (.getfield 50, 3) := by decide +kernel
theorem dd_X9_wordHere_50 : decode X9_wordHere.2.1 50 = .ok (.invokevirtual 138, 3) := by decide +kernel
theorem dd_X9_wordHere_53 : decode X9_wordHere.2.1 53 = .ok (.ifCond .eq 7, 3) := by decide +kernel
theorem dd_X9_wordHere_56 : decode X9_wordHere.2.1 56 = .ok (.iconst 3, 1) := by decide +kernel
theorem dd_X9_wordHere_57 : decode X9_wordHere.2.1 57 = .ok (.goto 34, 3) := by decide +kernel
theorem dd_X9_wordHere_60 : decode X9_wordHere.2.1 60 = .ok (.aload_n 0, 1) := by decide +kernel
theorem dd_X9_wordHere_61 : decode X9_wordHere.2.1 61 = .ok (.aload_n 0, 1) := by decide +kernel
theorem dd_X9_wordHere_62 : decode X9_wordHere.2.1 62 = .ok (.getfield 53, 3) := by decide +kernel
theorem dd_X9_wordHere_65 : decode X9_wordHere.2.1 65 = .ok (.invokevirtual 138, 3) := by decide +kernel
theorem dd_X9_wordHere_68 : decode X9_wordHere.2.1 68 = .ok (.ifCond .eq 7, 3) := by decide +kernel
theorem dd_X9_wordHere_71 : decode X9_wordHere.2.1 71 = .ok (.iconst 4, 1) := by decide +kernel
theorem dd_X9_wordHere_72 : decode X9_wordHere.2.1 72 = .ok (.goto 19, 3) := by decide +kernel
theorem dd_X9_wordHere_75 : decode X9_wordHere.2.1 75 = .ok (.aload_n 0, 1) := by decide +kernel
theorem dd_X9_wordHere_76 : decode X9_wordHere.2.1 76 = .ok (.aload_n 0, 1) := by decide +kernel
theorem dd_X9_wordHere_77 : decode X9_wordHere.2.1 77 = .ok (.getfield 56, 3) := by decide +kernel
theorem dd_X9_wordHere_80 : decode X9_wordHere.2.1 80 = .ok (.invokevirtual 138, 3) := by decide +kernel
theorem dd_X9_wordHere_83 : decode X9_wordHere.2.1 83 = .ok (.ifCond .eq 7, 3) := by decide +kernel
theorem dd_X9_wordHere_86 : decode X9_wordHere.2.1 86 = .ok (.iconst 5, 1) := by decide +kernel
theorem dd_X9_wordHere_87 : decode X9_wordHere.2.1 87 = .ok (.goto 4, 3) := by decide +kernel
theorem dd_X9_wordHere_90 : decode X9_wordHere.2.1 90 = .ok (.iconst (-1), 1) := by decide +kernel
theorem dd_X9_wordHere_91 : decode X9_wordHere.2.1 91 = .ok (.ireturn, 1) := by decide +kernel
theorem dd_X9_readsRest_0 : decode X9_readsRest.2.1 0 = .ok (.iload_n 1, 1) := by decide +kernel
theorem dd_X9_readsRest_1 : decode X9_readsRest.2.1 1 = .ok (.tableswitch 78 0 4 #[35, 44, 55, 64, 69], 35) := by decide +kernel
theorem dd_X9_readsRest_36 : decode X9_readsRest.2.1 36 = .ok (.aload_n 0, 1) := by decide +kernel
theorem dd_X9_readsRest_37 : decode X9_readsRest.2.1 37 = .ok (.iconst 0, 1) := by decide +kernel
theorem dd_X9_readsRest_38 : decode X9_readsRest.2.1 38 = .ok (.iconst 3, 1) := by decide +kernel
theorem dd_X9_readsRest_39 : decode X9_readsRest.2.1 39 = .ok (.bipush 8, 2) := by decide +kernel
theorem dd_X9_readsRest_41 : decode X9_readsRest.2.1 41 = .ok (.invokevirtual 142, 3) := by decide +kernel
theorem dd_X9_readsRest_44 : decode X9_readsRest.2.1 44 = .ok (.ireturn, 1) := by decide +kernel
theorem dd_X9_readsRest_45 : decode X9_readsRest.2.1 45 = .ok (.aload_n 0, 1) := by decide +kernel
theorem dd_X9_readsRest_46 : decode X9_readsRest.2.1 46 = .ok (.iconst 0, 1) := by decide +kernel
theorem dd_X9_readsRest_47 : decode X9_readsRest.2.1 47 = .ok (.iconst 2, 1) := by decide +kernel
theorem dd_X9_readsRest_48 : decode X9_readsRest.2.1 48 = .ok (.aload_n 0, 1) := by decide +kernel
theorem dd_X9_readsRest_49 : decode X9_readsRest.2.1 49 = .ok (.getfield 135, 3) := by decide +kernel
theorem dd_X9_readsRest_52 : decode X9_readsRest.2.1 52 = .ok (.invokevirtual 142, 3) := by decide +kernel
theorem dd_X9_readsRest_55 : decode X9_readsRest.2.1 55 = .ok (.ireturn, 1) := by decide +kernel
theorem dd_X9_readsRest_56 : decode X9_readsRest.2.1 56 = .ok (.aload_n 0, 1) := by decide +kernel
theorem dd_X9_readsRest_57 : decode X9_readsRest.2.1 57 = .ok (.iconst 0, 1) := by decide +kernel
theorem dd_X9_readsRest_58 : decode X9_readsRest.2.1 58 = .ok (.iconst 1, 1) := by decide +kernel
theorem dd_X9_readsRest_59 : decode X9_readsRest.2.1 59 = .ok (.bipush 99, 2) := by decide +kernel
theorem dd_X9_readsRest_61 : decode X9_readsRest.2.1 61 = .ok (.invokevirtual 142, 3) := by decide +kernel
theorem dd_X9_readsRest_64 : decode X9_readsRest.2.1 64 = .ok (.ireturn, 1) := by decide +kernel
theorem dd_X9_readsRest_65 : decode X9_readsRest.2.1 65 = .ok (.aload_n 0, 1) := by decide +kernel
theorem dd_X9_readsRest_66 : decode X9_readsRest.2.1 66 = .ok (.invokevirtual 146, 3) := by decide +kernel
theorem dd_X9_readsRest_69 : decode X9_readsRest.2.1 69 = .ok (.ireturn, 1) := by decide +kernel
theorem dd_X9_readsRest_70 : decode X9_readsRest.2.1 70 = .ok (.aload_n 0, 1) := by decide +kernel
theorem dd_X9_readsRest_71 : decode X9_readsRest.2.1 71 = .ok (.iconst 0, 1) := by decide +kernel
theorem dd_X9_readsRest_72 : decode X9_readsRest.2.1 72 = .ok (.iconst 0, 1) := by decide +kernel
theorem dd_X9_readsRest_73 : decode X9_readsRest.2.1 73 = .ok (.bipush 99, 2) := by decide +kernel
theorem dd_X9_readsRest_75 : decode X9_readsRest.2.1 75 = .ok (.invokevirtual 142, 3) := by decide +kernel
theorem dd_X9_readsRest_78 : decode X9_readsRest.2.1 78 = .ok (.ireturn, 1) := by decide +kernel
theorem dd_X9_readsRest_79 : decode X9_readsRest.2.1 79 = .ok (.aload_n 0, 1) := by decide +kernel
theorem dd_X9_readsRest_80 : decode X9_readsRest.2.1 80 = .ok (.iconst 0, 1) := by decide +kernel
theorem dd_X9_readsRest_81 : decode X9_readsRest.2.1 81 = .ok (.iconst 0, 1) := by decide +kernel
theorem dd_X9_readsRest_82 : decode X9_readsRest.2.1 82 = .ok (.aload_n 0, 1) := by decide +kernel
theorem dd_X9_readsRest_83 : decode X9_readsRest.2.1 83 = .ok (.getfield 150, 3) := by decide +kernel
theorem dd_X9_readsRest_86 : decode X9_readsRest.2.1 86 = .ok (.iconst 1, 1) := by decide +kernel
theorem dd_X9_readsRest_87 : decode X9_readsRest.2.1 87 = .ok (.isub, 1) := by decide +kernel
theorem dd_X9_readsRest_88 : decode X9_readsRest.2.1 88 = .ok (.invokevirtual 142, 3) := by decide +kernel
theorem dd_X9_readsRest_91 : decode X9_readsRest.2.1 91 = .ok (.ifCond .eq 22, 3) := by decide +kernel
theorem dd_X9_readsRest_94 : decode X9_readsRest.2.1 94 = .ok (.aload_n 0, 1) := by decide +kernel
theorem dd_X9_readsRest_95 : decode X9_readsRest.2.1 95 = .ok (.iconst 1, 1) := by decide +kernel
theorem dd_X9_readsRest_96 : decode X9_readsRest.2.1 96 = .ok (.iconst 0, 1) := by decide +kernel
theorem dd_X9_readsRest_97 : decode X9_readsRest.2.1 97 = .ok (.aload_n 0, 1) := by decide +kernel
theorem dd_X9_readsRest_98 : decode X9_readsRest.2.1 98 = .ok (.getfield 153, 3) := by decide +kernel
theorem dd_X9_readsRest_101 : decode X9_readsRest.2.1 101 = .ok (.iconst 1, 1) := by decide +kernel
theorem dd_X9_readsRest_102 : decode X9_readsRest.2.1 102 = .ok (.isub, 1) := by decide +kernel
theorem dd_X9_readsRest_103 : decode X9_readsRest.2.1 103 = .ok (.invokevirtual 142, 3) := by decide +kernel
theorem dd_X9_readsRest_106 : decode X9_readsRest.2.1 106 = .ok (.ifCond .eq 7, 3) := by decide +kernel
theorem dd_X9_readsRest_109 : decode X9_readsRest.2.1 109 = .ok (.iconst 1, 1) := by decide +kernel
theorem dd_X9_readsRest_110 : decode X9_readsRest.2.1 110 = .ok (.goto 4, 3) := by decide +kernel
theorem dd_X9_readsRest_113 : decode X9_readsRest.2.1 113 = .ok (.iconst 0, 1) := by decide +kernel
theorem dd_X9_readsRest_114 : decode X9_readsRest.2.1 114 = .ok (.ireturn, 1) := by decide +kernel
theorem dd_X9_does_0 : decode X9_does.2.1 0 = .ok (.iload_n 1, 1) := by decide +kernel
theorem dd_X9_does_1 : decode X9_does.2.1 1 = .ok (.tableswitch 132 0 4 #[35, 48, 61, 74, 102], 35) := by decide +kernel
theorem dd_X9_does_36 : decode X9_does.2.1 36 = .ok (.aload_n 0, 1) := by decide +kernel
theorem dd_X9_does_37 : decode X9_does.2.1 37 = .ok (.aload_n 0, 1) := by decide +kernel
theorem dd_X9_does_38 : decode X9_does.2.1 38 = .ok (.getfield 38, 3) := by decide +kernel
theorem dd_X9_does_41 : decode X9_does.2.1 41 = .ok (.iconst 0, 1) := by decide +kernel
theorem dd_X9_does_42 : decode X9_does.2.1 42 = .ok (.iaload, 1) := by decide +kernel
theorem dd_X9_does_43 : decode X9_does.2.1 43 = .ok (.invokevirtual 78, 3) := by decide +kernel
theorem dd_X9_does_46 : decode X9_does.2.1 46 = .ok (.goto 107, 3) := by decide +kernel
theorem dd_X9_does_49 : decode X9_does.2.1 49 = .ok (.aload_n 0, 1) := by decide +kernel
theorem dd_X9_does_50 : decode X9_does.2.1 50 = .ok (.aload_n 0, 1) := by decide +kernel
theorem dd_X9_does_51 : decode X9_does.2.1 51 = .ok (.getfield 38, 3) := by decide +kernel
theorem dd_X9_does_54 : decode X9_does.2.1 54 = .ok (.iconst 0, 1) := by decide +kernel
theorem dd_X9_does_55 : decode X9_does.2.1 55 = .ok (.iaload, 1) := by decide +kernel
theorem dd_X9_does_56 : decode X9_does.2.1 56 = .ok (.putfield 90, 3) := by decide +kernel
theorem dd_X9_does_59 : decode X9_does.2.1 59 = .ok (.goto 94, 3) := by decide +kernel
theorem dd_X9_does_62 : decode X9_does.2.1 62 = .ok (.aload_n 0, 1) := by decide +kernel
theorem dd_X9_does_63 : decode X9_does.2.1 63 = .ok (.aload_n 0, 1) := by decide +kernel
theorem dd_X9_does_64 : decode X9_does.2.1 64 = .ok (.getfield 38, 3) := by decide +kernel
theorem dd_X9_does_67 : decode X9_does.2.1 67 = .ok (.iconst 0, 1) := by decide +kernel
theorem dd_X9_does_68 : decode X9_does.2.1 68 = .ok (.iaload, 1) := by decide +kernel
theorem dd_X9_does_69 : decode X9_does.2.1 69 = .ok (.putfield 93, 3) := by decide +kernel
theorem dd_X9_does_72 : decode X9_does.2.1 72 = .ok (.goto 81, 3) := by decide +kernel
theorem dd_X9_does_75 : decode X9_does.2.1 75 = .ok (.aload_n 0, 1) := by decide +kernel
theorem dd_X9_does_76 : decode X9_does.2.1 76 = .ok (.getfield 13, 3) := by decide +kernel
theorem dd_X9_does_79 : decode X9_does.2.1 79 = .ok (.aload_n 0, 1) := by decide +kernel
theorem dd_X9_does_80 : decode X9_does.2.1 80 = .ok (.getfield 96, 3) := by decide +kernel
theorem dd_X9_does_83 : decode X9_does.2.1 83 = .ok (.aload_n 0, 1) := by decide +kernel
theorem dd_X9_does_84 : decode X9_does.2.1 84 = .ok (.getfield 38, 3) := by decide +kernel
theorem dd_X9_does_87 : decode X9_does.2.1 87 = .ok (.iconst 0, 1) := by decide +kernel
theorem dd_X9_does_88 : decode X9_does.2.1 88 = .ok (.iaload, 1) := by decide +kernel
theorem dd_X9_does_89 : decode X9_does.2.1 89 = .ok (.iastore, 1) := by decide +kernel
theorem dd_X9_does_90 : decode X9_does.2.1 90 = .ok (.aload_n 0, 1) := by decide +kernel
theorem dd_X9_does_91 : decode X9_does.2.1 91 = .ok (.dup, 1) := by decide +kernel
theorem dd_X9_does_92 : decode X9_does.2.1 92 = .ok (.getfield 96, 3) := by decide +kernel
theorem dd_X9_does_95 : decode X9_does.2.1 95 = .ok (.iconst 1, 1) := by decide +kernel
theorem dd_X9_does_96 : decode X9_does.2.1 96 = .ok (.iadd, 1) := by decide +kernel
theorem dd_X9_does_97 : decode X9_does.2.1 97 = .ok (.putfield 96, 3) := by decide +kernel
theorem dd_X9_does_100 : decode X9_does.2.1 100 = .ok (.goto 53, 3) := by decide +kernel
theorem dd_X9_does_103 : decode X9_does.2.1 103 = .ok (.aload_n 0, 1) := by decide +kernel
theorem dd_X9_does_104 : decode X9_does.2.1 104 = .ok (.getfield 7, 3) := by decide +kernel
theorem dd_X9_does_107 : decode X9_does.2.1 107 = .ok (.iconst 0, 1) := by decide +kernel
theorem dd_X9_does_108 : decode X9_does.2.1 108 = .ok (.aload_n 0, 1) := by decide +kernel
theorem dd_X9_does_109 : decode X9_does.2.1 109 = .ok (.getfield 99, 3) := by decide +kernel
theorem dd_X9_does_112 : decode X9_does.2.1 112 = .ok (.iadd, 1) := by decide +kernel
theorem dd_X9_does_113 : decode X9_does.2.1 113 = .ok (.aload_n 0, 1) := by decide +kernel
theorem dd_X9_does_114 : decode X9_does.2.1 114 = .ok (.getfield 38, 3) := by decide +kernel
theorem dd_X9_does_117 : decode X9_does.2.1 117 = .ok (.iconst 0, 1) := by decide +kernel
theorem dd_X9_does_118 : decode X9_does.2.1 118 = .ok (.iaload, 1) := by decide +kernel
theorem dd_X9_does_119 : decode X9_does.2.1 119 = .ok (.iastore, 1) := by decide +kernel
theorem dd_X9_does_120 : decode X9_does.2.1 120 = .ok (.aload_n 0, 1) := by decide +kernel
theorem dd_X9_does_121 : decode X9_does.2.1 121 = .ok (.dup, 1) := by decide +kernel
theorem dd_X9_does_122 : decode X9_does.2.1 122 = .ok (.getfield 99, 3) := by decide +kernel
theorem dd_X9_does_125 : decode X9_does.2.1 125 = .ok (.iconst 1, 1) := by decide +kernel
theorem dd_X9_does_126 : decode X9_does.2.1 126 = .ok (.iadd, 1) := by decide +kernel
theorem dd_X9_does_127 : decode X9_does.2.1 127 = .ok (.putfield 99, 3) := by decide +kernel
theorem dd_X9_does_130 : decode X9_does.2.1 130 = .ok (.goto 23, 3) := by decide +kernel
theorem dd_X9_does_133 : decode X9_does.2.1 133 = .ok (.aload_n 0, 1) := by decide +kernel
theorem dd_X9_does_134 : decode X9_does.2.1 134 = .ok (.getfield 7, 3) := by decide +kernel
theorem dd_X9_does_137 : decode X9_does.2.1 137 = .ok (.bipush 6, 2) := by decide +kernel
theorem dd_X9_does_139 : decode X9_does.2.1 139 = .ok (.aload_n 0, 1) := by decide +kernel
theorem dd_X9_does_140 : decode X9_does.2.1 140 = .ok (.getfield 38, 3) := by decide +kernel
theorem dd_X9_does_143 : decode X9_does.2.1 143 = .ok (.iconst 0, 1) := by decide +kernel
theorem dd_X9_does_144 : decode X9_does.2.1 144 = .ok (.iaload, 1) := by decide +kernel
theorem dd_X9_does_145 : decode X9_does.2.1 145 = .ok (.iadd, 1) := by decide +kernel
theorem dd_X9_does_146 : decode X9_does.2.1 146 = .ok (.aload_n 0, 1) := by decide +kernel
theorem dd_X9_does_147 : decode X9_does.2.1 147 = .ok (.getfield 38, 3) := by decide +kernel
theorem dd_X9_does_150 : decode X9_does.2.1 150 = .ok (.iconst 1, 1) := by decide +kernel
theorem dd_X9_does_151 : decode X9_does.2.1 151 = .ok (.iaload, 1) := by decide +kernel
theorem dd_X9_does_152 : decode X9_does.2.1 152 = .ok (.iastore, 1) := by decide +kernel
theorem dd_X9_does_153 : decode X9_does.2.1 153 = .ok (.return_, 1) := by decide +kernel
theorem dd_X9_readsClause_0 : decode X9_readsClause.2.1 0 = .ok (.aload_n 0, 1) := by decide +kernel
theorem dd_X9_readsClause_1 : decode X9_readsClause.2.1 1 = .ok (.invokevirtual 156, 3) := by decide +kernel
theorem dd_X9_readsClause_4 : decode X9_readsClause.2.1 4 = .ok (.istore_n 1, 1) := by decide +kernel
theorem dd_X9_readsClause_5 : decode X9_readsClause.2.1 5 = .ok (.iload_n 1, 1) := by decide +kernel
theorem dd_X9_readsClause_6 : decode X9_readsClause.2.1 6 = .ok (.iconst (-1), 1) := by decide +kernel
theorem dd_X9_readsClause_7 : decode X9_readsClause.2.1 7 = .ok (.if_icmp .eq 31, 3) := by decide +kernel
theorem dd_X9_readsClause_10 : decode X9_readsClause.2.1 10 = .ok (.iload_n 1, 1) := by decide +kernel
theorem dd_X9_readsClause_11 : decode X9_readsClause.2.1 11 = .ok (.iconst 3, 1) := by decide +kernel
theorem dd_X9_readsClause_12 : decode X9_readsClause.2.1 12 = .ok (.if_icmp .ne 12, 3) := by decide +kernel
theorem dd_X9_readsClause_15 : decode X9_readsClause.2.1 15 = .ok (.aload_n 0, 1) := by decide +kernel
theorem dd_X9_readsClause_16 : decode X9_readsClause.2.1 16 = .ok (.getfield 153, 3) := by decide +kernel
theorem dd_X9_readsClause_19 : decode X9_readsClause.2.1 19 = .ok (.bipush 8, 2) := by decide +kernel
theorem dd_X9_readsClause_21 : decode X9_readsClause.2.1 21 = .ok (.if_icmp .eq 17, 3) := by decide +kernel
theorem dd_X9_readsClause_24 : decode X9_readsClause.2.1 24 = .ok (.iload_n 1, 1) := by decide +kernel
theorem dd_X9_readsClause_25 : decode X9_readsClause.2.1 25 = .ok (.iconst 4, 1) := by decide +kernel
theorem dd_X9_readsClause_26 : decode X9_readsClause.2.1 26 = .ok (.if_icmp .ne 14, 3) := by decide +kernel
theorem dd_X9_readsClause_29 : decode X9_readsClause.2.1 29 = .ok (.aload_n 0, 1) := by decide +kernel
theorem dd_X9_readsClause_30 : decode X9_readsClause.2.1 30 = .ok (.getfield 150, 3) := by decide +kernel
theorem dd_X9_readsClause_33 : decode X9_readsClause.2.1 33 = .ok (.bipush 6, 2) := by decide +kernel
theorem dd_X9_readsClause_35 : decode X9_readsClause.2.1 35 = .ok (.if_icmp .ne 5, 3) := by decide +kernel
theorem dd_X9_readsClause_38 : decode X9_readsClause.2.1 38 = .ok (.iconst 0, 1) := by decide +kernel
theorem dd_X9_readsClause_39 : decode X9_readsClause.2.1 39 = .ok (.ireturn, 1) := by decide +kernel
theorem dd_X9_readsClause_40 : decode X9_readsClause.2.1 40 = .ok (.aload_n 0, 1) := by decide +kernel
theorem dd_X9_readsClause_41 : decode X9_readsClause.2.1 41 = .ok (.invokevirtual 132, 3) := by decide +kernel
theorem dd_X9_readsClause_44 : decode X9_readsClause.2.1 44 = .ok (.aload_n 0, 1) := by decide +kernel
theorem dd_X9_readsClause_45 : decode X9_readsClause.2.1 45 = .ok (.iload_n 1, 1) := by decide +kernel
theorem dd_X9_readsClause_46 : decode X9_readsClause.2.1 46 = .ok (.invokevirtual 160, 3) := by decide +kernel
theorem dd_X9_readsClause_49 : decode X9_readsClause.2.1 49 = .ok (.ifCond .ne 5, 3) := by decide +kernel
theorem dd_X9_readsClause_52 : decode X9_readsClause.2.1 52 = .ok (.iconst 0, 1) := by decide +kernel
theorem dd_X9_readsClause_53 : decode X9_readsClause.2.1 53 = .ok (.ireturn, 1) := by decide +kernel
theorem dd_X9_readsClause_54 : decode X9_readsClause.2.1 54 = .ok (.aload_n 0, 1) := by decide +kernel
theorem dd_X9_readsClause_55 : decode X9_readsClause.2.1 55 = .ok (.iload_n 1, 1) := by decide +kernel
theorem dd_X9_readsClause_56 : decode X9_readsClause.2.1 56 = .ok (.ifCond .ne 12, 3) := by decide +kernel
theorem dd_X9_readsClause_59 : decode X9_readsClause.2.1 59 = .ok (.aload_n 0, 1) := by decide +kernel
theorem dd_X9_readsClause_60 : decode X9_readsClause.2.1 60 = .ok (.getfield 38, 3) := by decide +kernel
theorem dd_X9_readsClause_63 : decode X9_readsClause.2.1 63 = .ok (.iconst 0, 1) := by decide +kernel
theorem dd_X9_readsClause_64 : decode X9_readsClause.2.1 64 = .ok (.iaload, 1) := by decide +kernel
theorem dd_X9_readsClause_65 : decode X9_readsClause.2.1 65 = .ok (.goto 7, 3) := by decide +kernel
theorem dd_X9_readsClause_68 : decode X9_readsClause.2.1 68 = .ok (.aload_n 0, 1) := by decide +kernel
theorem dd_X9_readsClause_69 : decode X9_readsClause.2.1 69 = .ok (.getfield 135, 3) := by decide +kernel
theorem dd_X9_readsClause_72 : decode X9_readsClause.2.1 72 = .ok (.putfield 135, 3) := by decide +kernel
theorem dd_X9_readsClause_75 : decode X9_readsClause.2.1 75 = .ok (.aload_n 0, 1) := by decide +kernel
theorem dd_X9_readsClause_76 : decode X9_readsClause.2.1 76 = .ok (.iload_n 1, 1) := by decide +kernel
theorem dd_X9_readsClause_77 : decode X9_readsClause.2.1 77 = .ok (.ifCond .ne 7, 3) := by decide +kernel
theorem dd_X9_readsClause_80 : decode X9_readsClause.2.1 80 = .ok (.iconst 0, 1) := by decide +kernel
theorem dd_X9_readsClause_81 : decode X9_readsClause.2.1 81 = .ok (.goto 21, 3) := by decide +kernel
theorem dd_X9_readsClause_84 : decode X9_readsClause.2.1 84 = .ok (.iload_n 1, 1) := by decide +kernel
theorem dd_X9_readsClause_85 : decode X9_readsClause.2.1 85 = .ok (.iconst 3, 1) := by decide +kernel
theorem dd_X9_readsClause_86 : decode X9_readsClause.2.1 86 = .ok (.if_icmp .ne 12, 3) := by decide +kernel
theorem dd_X9_readsClause_89 : decode X9_readsClause.2.1 89 = .ok (.aload_n 0, 1) := by decide +kernel
theorem dd_X9_readsClause_90 : decode X9_readsClause.2.1 90 = .ok (.getfield 153, 3) := by decide +kernel
theorem dd_X9_readsClause_93 : decode X9_readsClause.2.1 93 = .ok (.iconst 1, 1) := by decide +kernel
theorem dd_X9_readsClause_94 : decode X9_readsClause.2.1 94 = .ok (.iadd, 1) := by decide +kernel
theorem dd_X9_readsClause_95 : decode X9_readsClause.2.1 95 = .ok (.goto 7, 3) := by decide +kernel
theorem dd_X9_readsClause_98 : decode X9_readsClause.2.1 98 = .ok (.aload_n 0, 1) := by decide +kernel
theorem dd_X9_readsClause_99 : decode X9_readsClause.2.1 99 = .ok (.getfield 153, 3) := by decide +kernel
theorem dd_X9_readsClause_102 : decode X9_readsClause.2.1 102 = .ok (.putfield 153, 3) := by decide +kernel
theorem dd_X9_readsClause_105 : decode X9_readsClause.2.1 105 = .ok (.aload_n 0, 1) := by decide +kernel
theorem dd_X9_readsClause_106 : decode X9_readsClause.2.1 106 = .ok (.iload_n 1, 1) := by decide +kernel
theorem dd_X9_readsClause_107 : decode X9_readsClause.2.1 107 = .ok (.ifCond .ne 7, 3) := by decide +kernel
theorem dd_X9_readsClause_110 : decode X9_readsClause.2.1 110 = .ok (.iconst 0, 1) := by decide +kernel
theorem dd_X9_readsClause_111 : decode X9_readsClause.2.1 111 = .ok (.goto 21, 3) := by decide +kernel
theorem dd_X9_readsClause_114 : decode X9_readsClause.2.1 114 = .ok (.iload_n 1, 1) := by decide +kernel
theorem dd_X9_readsClause_115 : decode X9_readsClause.2.1 115 = .ok (.iconst 4, 1) := by decide +kernel
theorem dd_X9_readsClause_116 : decode X9_readsClause.2.1 116 = .ok (.if_icmp .ne 12, 3) := by decide +kernel
theorem dd_X9_readsClause_119 : decode X9_readsClause.2.1 119 = .ok (.aload_n 0, 1) := by decide +kernel
theorem dd_X9_readsClause_120 : decode X9_readsClause.2.1 120 = .ok (.getfield 150, 3) := by decide +kernel
theorem dd_X9_readsClause_123 : decode X9_readsClause.2.1 123 = .ok (.iconst 1, 1) := by decide +kernel
theorem dd_X9_readsClause_124 : decode X9_readsClause.2.1 124 = .ok (.iadd, 1) := by decide +kernel
theorem dd_X9_readsClause_125 : decode X9_readsClause.2.1 125 = .ok (.goto 7, 3) := by decide +kernel
theorem dd_X9_readsClause_128 : decode X9_readsClause.2.1 128 = .ok (.aload_n 0, 1) := by decide +kernel
theorem dd_X9_readsClause_129 : decode X9_readsClause.2.1 129 = .ok (.getfield 150, 3) := by decide +kernel
theorem dd_X9_readsClause_132 : decode X9_readsClause.2.1 132 = .ok (.putfield 150, 3) := by decide +kernel
theorem dd_X9_readsClause_135 : decode X9_readsClause.2.1 135 = .ok (.aload_n 0, 1) := by decide +kernel
theorem dd_X9_readsClause_136 : decode X9_readsClause.2.1 136 = .ok (.getfield 163, 3) := by decide +kernel
theorem dd_X9_readsClause_139 : decode X9_readsClause.2.1 139 = .ok (.ifCond .eq 8, 3) := by decide +kernel
theorem dd_X9_readsClause_142 : decode X9_readsClause.2.1 142 = .ok (.aload_n 0, 1) := by decide +kernel
theorem dd_X9_readsClause_143 : decode X9_readsClause.2.1 143 = .ok (.iload_n 1, 1) := by decide +kernel
theorem dd_X9_readsClause_144 : decode X9_readsClause.2.1 144 = .ok (.invokevirtual 167, 3) := by decide +kernel
theorem dd_X9_readsClause_147 : decode X9_readsClause.2.1 147 = .ok (.iconst 1, 1) := by decide +kernel
theorem dd_X9_readsClause_148 : decode X9_readsClause.2.1 148 = .ok (.ireturn, 1) := by decide +kernel
theorem dd_X9_reads_0 : decode X9_reads.2.1 0 = .ok (.aload_n 0, 1) := by decide +kernel
theorem dd_X9_reads_1 : decode X9_reads.2.1 1 = .ok (.iload_n 1, 1) := by decide +kernel
theorem dd_X9_reads_2 : decode X9_reads.2.1 2 = .ok (.putfield 163, 3) := by decide +kernel
theorem dd_X9_reads_5 : decode X9_reads.2.1 5 = .ok (.aload_n 0, 1) := by decide +kernel
theorem dd_X9_reads_6 : decode X9_reads.2.1 6 = .ok (.iconst 0, 1) := by decide +kernel
theorem dd_X9_reads_7 : decode X9_reads.2.1 7 = .ok (.putfield 119, 3) := by decide +kernel
theorem dd_X9_reads_10 : decode X9_reads.2.1 10 = .ok (.aload_n 0, 1) := by decide +kernel
theorem dd_X9_reads_11 : decode X9_reads.2.1 11 = .ok (.iconst 1, 1) := by decide +kernel
theorem dd_X9_reads_12 : decode X9_reads.2.1 12 = .ok (.putfield 170, 3) := by decide +kernel
theorem dd_X9_reads_15 : decode X9_reads.2.1 15 = .ok (.aload_n 0, 1) := by decide +kernel
theorem dd_X9_reads_16 : decode X9_reads.2.1 16 = .ok (.aload_n 0, 1) := by decide +kernel
theorem dd_X9_reads_17 : decode X9_reads.2.1 17 = .ok (.getfield 86, 3) := by decide +kernel
theorem dd_X9_reads_20 : decode X9_reads.2.1 20 = .ok (.putfield 135, 3) := by decide +kernel
theorem dd_X9_reads_23 : decode X9_reads.2.1 23 = .ok (.aload_n 0, 1) := by decide +kernel
theorem dd_X9_reads_24 : decode X9_reads.2.1 24 = .ok (.aload_n 0, 1) := by decide +kernel
theorem dd_X9_reads_25 : decode X9_reads.2.1 25 = .ok (.getfield 96, 3) := by decide +kernel
theorem dd_X9_reads_28 : decode X9_reads.2.1 28 = .ok (.putfield 153, 3) := by decide +kernel
theorem dd_X9_reads_31 : decode X9_reads.2.1 31 = .ok (.aload_n 0, 1) := by decide +kernel
theorem dd_X9_reads_32 : decode X9_reads.2.1 32 = .ok (.aload_n 0, 1) := by decide +kernel
theorem dd_X9_reads_33 : decode X9_reads.2.1 33 = .ok (.getfield 99, 3) := by decide +kernel
theorem dd_X9_reads_36 : decode X9_reads.2.1 36 = .ok (.putfield 150, 3) := by decide +kernel
theorem dd_X9_reads_39 : decode X9_reads.2.1 39 = .ok (.aload_n 0, 1) := by decide +kernel
theorem dd_X9_reads_40 : decode X9_reads.2.1 40 = .ok (.invokevirtual 132, 3) := by decide +kernel
theorem dd_X9_reads_43 : decode X9_reads.2.1 43 = .ok (.aload_n 0, 1) := by decide +kernel
theorem dd_X9_reads_44 : decode X9_reads.2.1 44 = .ok (.invokevirtual 173, 3) := by decide +kernel
theorem dd_X9_reads_47 : decode X9_reads.2.1 47 = .ok (.istore_n 2, 1) := by decide +kernel
theorem dd_X9_reads_48 : decode X9_reads.2.1 48 = .ok (.iload_n 2, 1) := by decide +kernel
theorem dd_X9_reads_49 : decode X9_reads.2.1 49 = .ok (.ifCond .eq 69, 3) := by decide +kernel
theorem dd_X9_reads_52 : decode X9_reads.2.1 52 = .ok (.aload_n 0, 1) := by decide +kernel
theorem dd_X9_reads_53 : decode X9_reads.2.1 53 = .ok (.getfield 122, 3) := by decide +kernel
theorem dd_X9_reads_56 : decode X9_reads.2.1 56 = .ok (.aload_n 0, 1) := by decide +kernel
theorem dd_X9_reads_57 : decode X9_reads.2.1 57 = .ok (.getfield 108, 3) := by decide +kernel
theorem dd_X9_reads_60 : decode X9_reads.2.1 60 = .ok (.if_icmp .ge 58, 3) := by decide +kernel
theorem dd_X9_reads_63 : decode X9_reads.2.1 63 = .ok (.aload_n 0, 1) := by decide +kernel
theorem dd_X9_reads_64 : decode X9_reads.2.1 64 = .ok (.getfield 170, 3) := by decide +kernel
theorem dd_X9_reads_67 : decode X9_reads.2.1 67 = .ok (.bipush 24, 2) := by decide +kernel
theorem dd_X9_reads_69 : decode X9_reads.2.1 69 = .ok (.if_icmp .ge 21, 3) := by decide +kernel
theorem dd_X9_reads_72 : decode X9_reads.2.1 72 = .ok (.aload_n 0, 1) := by decide +kernel
theorem dd_X9_reads_73 : decode X9_reads.2.1 73 = .ok (.getfield 20, 3) := by decide +kernel
theorem dd_X9_reads_76 : decode X9_reads.2.1 76 = .ok (.aload_n 0, 1) := by decide +kernel
theorem dd_X9_reads_77 : decode X9_reads.2.1 77 = .ok (.getfield 122, 3) := by decide +kernel
theorem dd_X9_reads_80 : decode X9_reads.2.1 80 = .ok (.iaload, 1) := by decide +kernel
theorem dd_X9_reads_81 : decode X9_reads.2.1 81 = .ok (.bipush 59, 2) := by decide +kernel
theorem dd_X9_reads_83 : decode X9_reads.2.1 83 = .ok (.if_icmp .ne 7, 3) := by decide +kernel
theorem dd_X9_reads_86 : decode X9_reads.2.1 86 = .ok (.iconst 1, 1) := by decide +kernel
theorem dd_X9_reads_87 : decode X9_reads.2.1 87 = .ok (.goto 4, 3) := by decide +kernel
theorem dd_X9_reads_90 : decode X9_reads.2.1 90 = .ok (.iconst 0, 1) := by decide +kernel
theorem dd_X9_reads_91 : decode X9_reads.2.1 91 = .ok (.istore_n 2, 1) := by decide +kernel
theorem dd_X9_reads_92 : decode X9_reads.2.1 92 = .ok (.iload_n 2, 1) := by decide +kernel
theorem dd_X9_reads_93 : decode X9_reads.2.1 93 = .ok (.ifCond .eq (-45), 3) := by decide +kernel
theorem dd_X9_reads_96 : decode X9_reads.2.1 96 = .ok (.aload_n 0, 1) := by decide +kernel
theorem dd_X9_reads_97 : decode X9_reads.2.1 97 = .ok (.invokevirtual 132, 3) := by decide +kernel
theorem dd_X9_reads_100 : decode X9_reads.2.1 100 = .ok (.aload_n 0, 1) := by decide +kernel
theorem dd_X9_reads_101 : decode X9_reads.2.1 101 = .ok (.invokevirtual 173, 3) := by decide +kernel
theorem dd_X9_reads_104 : decode X9_reads.2.1 104 = .ok (.istore_n 2, 1) := by decide +kernel
theorem dd_X9_reads_105 : decode X9_reads.2.1 105 = .ok (.aload_n 0, 1) := by decide +kernel
theorem dd_X9_reads_106 : decode X9_reads.2.1 106 = .ok (.dup, 1) := by decide +kernel
theorem dd_X9_reads_107 : decode X9_reads.2.1 107 = .ok (.getfield 170, 3) := by decide +kernel
theorem dd_X9_reads_110 : decode X9_reads.2.1 110 = .ok (.iconst 1, 1) := by decide +kernel
theorem dd_X9_reads_111 : decode X9_reads.2.1 111 = .ok (.iadd, 1) := by decide +kernel
theorem dd_X9_reads_112 : decode X9_reads.2.1 112 = .ok (.putfield 170, 3) := by decide +kernel
theorem dd_X9_reads_115 : decode X9_reads.2.1 115 = .ok (.goto (-67), 3) := by decide +kernel
theorem dd_X9_reads_118 : decode X9_reads.2.1 118 = .ok (.iload_n 2, 1) := by decide +kernel
theorem dd_X9_reads_119 : decode X9_reads.2.1 119 = .ok (.ireturn, 1) := by decide +kernel
theorem dd_X9_fault_0 : decode X9_fault.2.1 0 = .ok (.aload_n 0, 1) := by decide +kernel
theorem dd_X9_fault_1 : decode X9_fault.2.1 1 = .ok (.iconst 0, 1) := by decide +kernel
theorem dd_X9_fault_2 : decode X9_fault.2.1 2 = .ok (.invokevirtual 176, 3) := by decide +kernel
theorem dd_X9_fault_5 : decode X9_fault.2.1 5 = .ok (.ifCond .eq 7, 3) := by decide +kernel
theorem dd_X9_fault_8 : decode X9_fault.2.1 8 = .ok (.iconst (-1), 1) := by decide +kernel
theorem dd_X9_fault_9 : decode X9_fault.2.1 9 = .ok (.goto 7, 3) := by decide +kernel
theorem dd_X9_fault_12 : decode X9_fault.2.1 12 = .ok (.aload_n 0, 1) := by decide +kernel
theorem dd_X9_fault_13 : decode X9_fault.2.1 13 = .ok (.getfield 122, 3) := by decide +kernel
theorem dd_X9_fault_16 : decode X9_fault.2.1 16 = .ok (.ireturn, 1) := by decide +kernel
theorem dd_X9_office_0 : decode X9_office.2.1 0 = .ok (.aload_n 0, 1) := by decide +kernel
theorem dd_X9_office_1 : decode X9_office.2.1 1 = .ok (.iconst 0, 1) := by decide +kernel
theorem dd_X9_office_2 : decode X9_office.2.1 2 = .ok (.invokevirtual 176, 3) := by decide +kernel
theorem dd_X9_office_5 : decode X9_office.2.1 5 = .ok (.ifCond .ne 6, 3) := by decide +kernel
theorem dd_X9_office_8 : decode X9_office.2.1 8 = .ok (.bipush (-4), 2) := by decide +kernel
theorem dd_X9_office_10 : decode X9_office.2.1 10 = .ok (.ireturn, 1) := by decide +kernel
theorem dd_X9_office_11 : decode X9_office.2.1 11 = .ok (.aload_n 0, 1) := by decide +kernel
theorem dd_X9_office_12 : decode X9_office.2.1 12 = .ok (.sipush 132, 3) := by decide +kernel
theorem dd_X9_office_15 : decode X9_office.2.1 15 = .ok (.iconst 0, 1) := by decide +kernel
theorem dd_X9_office_16 : decode X9_office.2.1 16 = .ok (.invokevirtual 82, 3) := by decide +kernel
theorem dd_X9_office_19 : decode X9_office.2.1 19 = .ok (.aload_n 0, 1) := by decide +kernel
theorem dd_X9_office_20 : decode X9_office.2.1 20 = .ok (.iconst 1, 1) := by decide +kernel
theorem dd_X9_office_21 : decode X9_office.2.1 21 = .ok (.invokevirtual 176, 3) := by decide +kernel
theorem dd_X9_office_24 : decode X9_office.2.1 24 = .ok (.pop, 1) := by decide +kernel
theorem dd_X9_office_25 : decode X9_office.2.1 25 = .ok (.aload_n 0, 1) := by decide +kernel
theorem dd_X9_office_26 : decode X9_office.2.1 26 = .ok (.iconst 0, 1) := by decide +kernel
theorem dd_X9_office_27 : decode X9_office.2.1 27 = .ok (.sipush 132, 3) := by decide +kernel
theorem dd_X9_office_30 : decode X9_office.2.1 30 = .ok (.invokevirtual 82, 3) := by decide +kernel
theorem dd_X9_office_33 : decode X9_office.2.1 33 = .ok (.aload_n 0, 1) := by decide +kernel
theorem dd_X9_office_34 : decode X9_office.2.1 34 = .ok (.iconst 0, 1) := by decide +kernel
theorem dd_X9_office_35 : decode X9_office.2.1 35 = .ok (.putfield 108, 3) := by decide +kernel
theorem dd_X9_office_38 : decode X9_office.2.1 38 = .ok (.aload_n 0, 1) := by decide +kernel
theorem dd_X9_office_39 : decode X9_office.2.1 39 = .ok (.iconst 0, 1) := by decide +kernel
theorem dd_X9_office_40 : decode X9_office.2.1 40 = .ok (.putfield 180, 3) := by decide +kernel
theorem dd_X9_office_43 : decode X9_office.2.1 43 = .ok (.aload_n 0, 1) := by decide +kernel
theorem dd_X9_office_44 : decode X9_office.2.1 44 = .ok (.getfield 16, 3) := by decide +kernel
theorem dd_X9_office_47 : decode X9_office.2.1 47 = .ok (.iconst 0, 1) := by decide +kernel
theorem dd_X9_office_48 : decode X9_office.2.1 48 = .ok (.iconst 0, 1) := by decide +kernel
theorem dd_X9_office_49 : decode X9_office.2.1 49 = .ok (.bastore, 1) := by decide +kernel
theorem dd_X9_office_50 : decode X9_office.2.1 50 = .ok (.aload_n 0, 1) := by decide +kernel
theorem dd_X9_office_51 : decode X9_office.2.1 51 = .ok (.getfield 16, 3) := by decide +kernel
theorem dd_X9_office_54 : decode X9_office.2.1 54 = .ok (.iconst 1, 1) := by decide +kernel
theorem dd_X9_office_55 : decode X9_office.2.1 55 = .ok (.iconst 0, 1) := by decide +kernel
theorem dd_X9_office_56 : decode X9_office.2.1 56 = .ok (.bastore, 1) := by decide +kernel
theorem dd_X9_office_57 : decode X9_office.2.1 57 = .ok (.aload_n 0, 1) := by decide +kernel
theorem dd_X9_office_58 : decode X9_office.2.1 58 = .ok (.iconst 0, 1) := by decide +kernel
theorem dd_X9_office_59 : decode X9_office.2.1 59 = .ok (.putfield 183, 3) := by decide +kernel
theorem dd_X9_office_62 : decode X9_office.2.1 62 = .ok (.iconst 0, 1) := by decide +kernel
theorem dd_X9_office_63 : decode X9_office.2.1 63 = .ok (.istore_n 1, 1) := by decide +kernel
theorem dd_X9_office_64 : decode X9_office.2.1 64 = .ok (.iload_n 1, 1) := by decide +kernel
theorem dd_X9_office_65 : decode X9_office.2.1 65 = .ok (.iconst 3, 1) := by decide +kernel
theorem dd_X9_office_66 : decode X9_office.2.1 66 = .ok (.if_icmp .ge 16, 3) := by decide +kernel
theorem dd_X9_office_69 : decode X9_office.2.1 69 = .ok (.aload_n 0, 1) := by decide +kernel
theorem dd_X9_office_70 : decode X9_office.2.1 70 = .ok (.getfield 32, 3) := by decide +kernel
theorem dd_X9_office_73 : decode X9_office.2.1 73 = .ok (.iload_n 1, 1) := by decide +kernel
theorem dd_X9_office_74 : decode X9_office.2.1 74 = .ok (.iconst (-1), 1) := by decide +kernel
theorem dd_X9_office_75 : decode X9_office.2.1 75 = .ok (.iastore, 1) := by decide +kernel
theorem dd_X9_office_76 : decode X9_office.2.1 76 = .ok (.iinc 1 1, 3) := by decide +kernel
theorem dd_X9_office_79 : decode X9_office.2.1 79 = .ok (.goto (-15), 3) := by decide +kernel
theorem dd_X9_office_82 : decode X9_office.2.1 82 = .ok (.aload_n 0, 1) := by decide +kernel
theorem dd_X9_office_83 : decode X9_office.2.1 83 = .ok (.getfield 170, 3) := by decide +kernel
theorem dd_X9_office_86 : decode X9_office.2.1 86 = .ok (.ireturn, 1) := by decide +kernel
theorem dd_X9_isRhythm_0 : decode X9_isRhythm.2.1 0 = .ok (.iload_n 1, 1) := by decide +kernel
theorem dd_X9_isRhythm_1 : decode X9_isRhythm.2.1 1 = .ok (.i2l, 1) := by decide +kernel
theorem dd_X9_isRhythm_2 : decode X9_isRhythm.2.1 2 = .ok (.lconst 0, 1) := by decide +kernel
theorem dd_X9_isRhythm_3 : decode X9_isRhythm.2.1 3 = .ok (.aload_n 0, 1) := by decide +kernel
theorem dd_X9_isRhythm_4 : decode X9_isRhythm.2.1 4 = .ok (.getfield 96, 3) := by decide +kernel
theorem dd_X9_isRhythm_7 : decode X9_isRhythm.2.1 7 = .ok (.iconst 1, 1) := by decide +kernel
theorem dd_X9_isRhythm_8 : decode X9_isRhythm.2.1 8 = .ok (.isub, 1) := by decide +kernel
theorem dd_X9_isRhythm_9 : decode X9_isRhythm.2.1 9 = .ok (.i2l, 1) := by decide +kernel
theorem dd_X9_isRhythm_10 : decode X9_isRhythm.2.1 10 = .ok (.invokestatic 104, 3) := by decide +kernel
theorem dd_X9_isRhythm_13 : decode X9_isRhythm.2.1 13 = .ok (.ireturn, 1) := by decide +kernel
theorem dd_X9_isLight_0 : decode X9_isLight.2.1 0 = .ok (.iload_n 1, 1) := by decide +kernel
theorem dd_X9_isLight_1 : decode X9_isLight.2.1 1 = .ok (.i2l, 1) := by decide +kernel
theorem dd_X9_isLight_2 : decode X9_isLight.2.1 2 = .ok (.lconst 0, 1) := by decide +kernel
theorem dd_X9_isLight_3 : decode X9_isLight.2.1 3 = .ok (.aload_n 0, 1) := by decide +kernel
theorem dd_X9_isLight_4 : decode X9_isLight.2.1 4 = .ok (.getfield 99, 3) := by decide +kernel
theorem dd_X9_isLight_7 : decode X9_isLight.2.1 7 = .ok (.iconst 1, 1) := by decide +kernel
theorem dd_X9_isLight_8 : decode X9_isLight.2.1 8 = .ok (.isub, 1) := by decide +kernel
theorem dd_X9_isLight_9 : decode X9_isLight.2.1 9 = .ok (.i2l, 1) := by decide +kernel
theorem dd_X9_isLight_10 : decode X9_isLight.2.1 10 = .ok (.invokestatic 104, 3) := by decide +kernel
theorem dd_X9_isLight_13 : decode X9_isLight.2.1 13 = .ok (.ireturn, 1) := by decide +kernel
theorem dd_X9_beatOf_0 : decode X9_beatOf.2.1 0 = .ok (.aload_n 0, 1) := by decide +kernel
theorem dd_X9_beatOf_1 : decode X9_beatOf.2.1 1 = .ok (.getfield 13, 3) := by decide +kernel
theorem dd_X9_beatOf_4 : decode X9_beatOf.2.1 4 = .ok (.iload_n 1, 1) := by decide +kernel
theorem dd_X9_beatOf_5 : decode X9_beatOf.2.1 5 = .ok (.iaload, 1) := by decide +kernel
theorem dd_X9_beatOf_6 : decode X9_beatOf.2.1 6 = .ok (.aload_n 0, 1) := by decide +kernel
theorem dd_X9_beatOf_7 : decode X9_beatOf.2.1 7 = .ok (.getfield 86, 3) := by decide +kernel
theorem dd_X9_beatOf_10 : decode X9_beatOf.2.1 10 = .ok (.iconst 1, 1) := by decide +kernel
theorem dd_X9_beatOf_11 : decode X9_beatOf.2.1 11 = .ok (.isub, 1) := by decide +kernel
theorem dd_X9_beatOf_12 : decode X9_beatOf.2.1 12 = .ok (.iload_n 2, 1) := by decide +kernel
theorem dd_X9_beatOf_13 : decode X9_beatOf.2.1 13 = .ok (.aload_n 0, 1) := by decide +kernel
theorem dd_X9_beatOf_14 : decode X9_beatOf.2.1 14 = .ok (.getfield 86, 3) := by decide +kernel
theorem dd_X9_beatOf_17 : decode X9_beatOf.2.1 17 = .ok (.irem, 1) := by decide +kernel
theorem dd_X9_beatOf_18 : decode X9_beatOf.2.1 18 = .ok (.isub, 1) := by decide +kernel
theorem dd_X9_beatOf_19 : decode X9_beatOf.2.1 19 = .ok (.ishr, 1) := by decide +kernel
theorem dd_X9_beatOf_20 : decode X9_beatOf.2.1 20 = .ok (.iconst 1, 1) := by decide +kernel
theorem dd_X9_beatOf_21 : decode X9_beatOf.2.1 21 = .ok (.iand, 1) := by decide +kernel
theorem dd_X9_beatOf_22 : decode X9_beatOf.2.1 22 = .ok (.ireturn, 1) := by decide +kernel
theorem dd_X9_rowOf_0 : decode X9_rowOf.2.1 0 = .ok (.iconst 0, 1) := by decide +kernel
theorem dd_X9_rowOf_1 : decode X9_rowOf.2.1 1 = .ok (.istore 4, 2) := by decide +kernel
theorem dd_X9_rowOf_3 : decode X9_rowOf.2.1 3 = .ok (.iconst 0, 1) := by decide +kernel
theorem dd_X9_rowOf_4 : decode X9_rowOf.2.1 4 = .ok (.istore 5, 2) := by decide +kernel
theorem dd_X9_rowOf_6 : decode X9_rowOf.2.1 6 = .ok (.iload 5, 2) := by decide +kernel
theorem dd_X9_rowOf_8 : decode X9_rowOf.2.1 8 = .ok (.iload_n 3, 1) := by decide +kernel
theorem dd_X9_rowOf_9 : decode X9_rowOf.2.1 9 = .ok (.if_icmp .ge 25, 3) := by decide +kernel
theorem dd_X9_rowOf_12 : decode X9_rowOf.2.1 12 = .ok (.iconst 2, 1) := by decide +kernel
theorem dd_X9_rowOf_13 : decode X9_rowOf.2.1 13 = .ok (.iload 4, 2) := by decide +kernel
theorem dd_X9_rowOf_15 : decode X9_rowOf.2.1 15 = .ok (.imul, 1) := by decide +kernel
theorem dd_X9_rowOf_16 : decode X9_rowOf.2.1 16 = .ok (.aload_n 0, 1) := by decide +kernel
theorem dd_X9_rowOf_17 : decode X9_rowOf.2.1 17 = .ok (.iload_n 1, 1) := by decide +kernel
theorem dd_X9_rowOf_18 : decode X9_rowOf.2.1 18 = .ok (.iload_n 2, 1) := by decide +kernel
theorem dd_X9_rowOf_19 : decode X9_rowOf.2.1 19 = .ok (.iload 5, 2) := by decide +kernel
theorem dd_X9_rowOf_21 : decode X9_rowOf.2.1 21 = .ok (.iadd, 1) := by decide +kernel
theorem dd_X9_rowOf_22 : decode X9_rowOf.2.1 22 = .ok (.invokevirtual 186, 3) := by decide +kernel
theorem dd_X9_rowOf_25 : decode X9_rowOf.2.1 25 = .ok (.iadd, 1) := by decide +kernel
theorem dd_X9_rowOf_26 : decode X9_rowOf.2.1 26 = .ok (.istore 4, 2) := by decide +kernel
theorem dd_X9_rowOf_28 : decode X9_rowOf.2.1 28 = .ok (.iinc 5 1, 3) := by decide +kernel
theorem dd_X9_rowOf_31 : decode X9_rowOf.2.1 31 = .ok (.goto (-25), 3) := by decide +kernel
theorem dd_X9_rowOf_34 : decode X9_rowOf.2.1 34 = .ok (.iload 4, 2) := by decide +kernel
theorem dd_X9_rowOf_36 : decode X9_rowOf.2.1 36 = .ok (.ireturn, 1) := by decide +kernel
theorem dd_X9_flashes_0 : decode X9_flashes.2.1 0 = .ok (.aload_n 0, 1) := by decide +kernel
theorem dd_X9_flashes_1 : decode X9_flashes.2.1 1 = .ok (.getfield 13, 3) := by decide +kernel
theorem dd_X9_flashes_4 : decode X9_flashes.2.1 4 = .ok (.iload_n 1, 1) := by decide +kernel
theorem dd_X9_flashes_5 : decode X9_flashes.2.1 5 = .ok (.iaload, 1) := by decide +kernel
theorem dd_X9_flashes_6 : decode X9_flashes.2.1 6 = .ok (.invokestatic 190, 3) := by decide +kernel
theorem dd_X9_flashes_9 : decode X9_flashes.2.1 9 = .ok (.ireturn, 1) := by decide +kernel
theorem dd_X9_leastTurn_0 : decode X9_leastTurn.2.1 0 = .ok (.iconst 0, 1) := by decide +kernel
theorem dd_X9_leastTurn_1 : decode X9_leastTurn.2.1 1 = .ok (.istore_n 2, 1) := by decide +kernel
theorem dd_X9_leastTurn_2 : decode X9_leastTurn.2.1 2 = .ok (.iconst 1, 1) := by decide +kernel
theorem dd_X9_leastTurn_3 : decode X9_leastTurn.2.1 3 = .ok (.istore_n 3, 1) := by decide +kernel
theorem dd_X9_leastTurn_4 : decode X9_leastTurn.2.1 4 = .ok (.iload_n 3, 1) := by decide +kernel
theorem dd_X9_leastTurn_5 : decode X9_leastTurn.2.1 5 = .ok (.aload_n 0, 1) := by decide +kernel
theorem dd_X9_leastTurn_6 : decode X9_leastTurn.2.1 6 = .ok (.getfield 86, 3) := by decide +kernel
theorem dd_X9_leastTurn_9 : decode X9_leastTurn.2.1 9 = .ok (.if_icmp .ge 38, 3) := by decide +kernel
theorem dd_X9_leastTurn_12 : decode X9_leastTurn.2.1 12 = .ok (.aload_n 0, 1) := by decide +kernel
theorem dd_X9_leastTurn_13 : decode X9_leastTurn.2.1 13 = .ok (.iload_n 1, 1) := by decide +kernel
theorem dd_X9_leastTurn_14 : decode X9_leastTurn.2.1 14 = .ok (.iload_n 3, 1) := by decide +kernel
theorem dd_X9_leastTurn_15 : decode X9_leastTurn.2.1 15 = .ok (.aload_n 0, 1) := by decide +kernel
theorem dd_X9_leastTurn_16 : decode X9_leastTurn.2.1 16 = .ok (.getfield 86, 3) := by decide +kernel
theorem dd_X9_leastTurn_19 : decode X9_leastTurn.2.1 19 = .ok (.invokevirtual 194, 3) := by decide +kernel
theorem dd_X9_leastTurn_22 : decode X9_leastTurn.2.1 22 = .ok (.aload_n 0, 1) := by decide +kernel
theorem dd_X9_leastTurn_23 : decode X9_leastTurn.2.1 23 = .ok (.iload_n 1, 1) := by decide +kernel
theorem dd_X9_leastTurn_24 : decode X9_leastTurn.2.1 24 = .ok (.iload_n 2, 1) := by decide +kernel
theorem dd_X9_leastTurn_25 : decode X9_leastTurn.2.1 25 = .ok (.aload_n 0, 1) := by decide +kernel
theorem dd_X9_leastTurn_26 : decode X9_leastTurn.2.1 26 = .ok (.getfield 86, 3) := by decide +kernel
theorem dd_X9_leastTurn_29 : decode X9_leastTurn.2.1 29 = .ok (.invokevirtual 194, 3) := by decide +kernel
theorem dd_X9_leastTurn_32 : decode X9_leastTurn.2.1 32 = .ok (.if_icmp .ge 7, 3) := by decide +kernel
theorem dd_X9_leastTurn_35 : decode X9_leastTurn.2.1 35 = .ok (.iload_n 3, 1) := by decide +kernel
theorem dd_X9_leastTurn_36 : decode X9_leastTurn.2.1 36 = .ok (.goto 4, 3) := by decide +kernel
theorem dd_X9_leastTurn_39 : decode X9_leastTurn.2.1 39 = .ok (.iload_n 2, 1) := by decide +kernel
theorem dd_X9_leastTurn_40 : decode X9_leastTurn.2.1 40 = .ok (.istore_n 2, 1) := by decide +kernel
theorem dd_X9_leastTurn_41 : decode X9_leastTurn.2.1 41 = .ok (.iinc 3 1, 3) := by decide +kernel
theorem dd_X9_leastTurn_44 : decode X9_leastTurn.2.1 44 = .ok (.goto (-40), 3) := by decide +kernel
theorem dd_X9_leastTurn_47 : decode X9_leastTurn.2.1 47 = .ok (.iload_n 2, 1) := by decide +kernel
theorem dd_X9_leastTurn_48 : decode X9_leastTurn.2.1 48 = .ok (.ireturn, 1) := by decide +kernel
theorem dd_X9_repeats_0 : decode X9_repeats.2.1 0 = .ok (.iconst 1, 1) := by decide +kernel
theorem dd_X9_repeats_1 : decode X9_repeats.2.1 1 = .ok (.istore_n 2, 1) := by decide +kernel
theorem dd_X9_repeats_2 : decode X9_repeats.2.1 2 = .ok (.aload_n 0, 1) := by decide +kernel
theorem dd_X9_repeats_3 : decode X9_repeats.2.1 3 = .ok (.iload_n 1, 1) := by decide +kernel
theorem dd_X9_repeats_4 : decode X9_repeats.2.1 4 = .ok (.iload_n 2, 1) := by decide +kernel
theorem dd_X9_repeats_5 : decode X9_repeats.2.1 5 = .ok (.aload_n 0, 1) := by decide +kernel
theorem dd_X9_repeats_6 : decode X9_repeats.2.1 6 = .ok (.getfield 86, 3) := by decide +kernel
theorem dd_X9_repeats_9 : decode X9_repeats.2.1 9 = .ok (.invokevirtual 194, 3) := by decide +kernel
theorem dd_X9_repeats_12 : decode X9_repeats.2.1 12 = .ok (.aload_n 0, 1) := by decide +kernel
theorem dd_X9_repeats_13 : decode X9_repeats.2.1 13 = .ok (.getfield 13, 3) := by decide +kernel
theorem dd_X9_repeats_16 : decode X9_repeats.2.1 16 = .ok (.iload_n 1, 1) := by decide +kernel
theorem dd_X9_repeats_17 : decode X9_repeats.2.1 17 = .ok (.iaload, 1) := by decide +kernel
theorem dd_X9_repeats_18 : decode X9_repeats.2.1 18 = .ok (.if_icmp .eq 9, 3) := by decide +kernel
theorem dd_X9_repeats_21 : decode X9_repeats.2.1 21 = .ok (.iinc 2 1, 3) := by decide +kernel
theorem dd_X9_repeats_24 : decode X9_repeats.2.1 24 = .ok (.goto (-22), 3) := by decide +kernel
theorem dd_X9_repeats_27 : decode X9_repeats.2.1 27 = .ok (.iload_n 2, 1) := by decide +kernel
theorem dd_X9_repeats_28 : decode X9_repeats.2.1 28 = .ok (.ireturn, 1) := by decide +kernel
theorem dd_X9_rhythm_0 : decode X9_rhythm.2.1 0 = .ok (.aload_n 0, 1) := by decide +kernel
theorem dd_X9_rhythm_1 : decode X9_rhythm.2.1 1 = .ok (.iload_n 1, 1) := by decide +kernel
theorem dd_X9_rhythm_2 : decode X9_rhythm.2.1 2 = .ok (.invokevirtual 198, 3) := by decide +kernel
theorem dd_X9_rhythm_5 : decode X9_rhythm.2.1 5 = .ok (.ifCond .ne 6, 3) := by decide +kernel
theorem dd_X9_rhythm_8 : decode X9_rhythm.2.1 8 = .ok (.bipush (-2), 2) := by decide +kernel
theorem dd_X9_rhythm_10 : decode X9_rhythm.2.1 10 = .ok (.ireturn, 1) := by decide +kernel
theorem dd_X9_rhythm_11 : decode X9_rhythm.2.1 11 = .ok (.iload_n 2, 1) := by decide +kernel
theorem dd_X9_rhythm_12 : decode X9_rhythm.2.1 12 = .ok (.tableswitch 76 0 4 #[36, 43, 58, 64, 70], 36) := by decide +kernel
theorem dd_X9_rhythm_48 : decode X9_rhythm.2.1 48 = .ok (.aload_n 0, 1) := by decide +kernel
theorem dd_X9_rhythm_49 : decode X9_rhythm.2.1 49 = .ok (.getfield 13, 3) := by decide +kernel
theorem dd_X9_rhythm_52 : decode X9_rhythm.2.1 52 = .ok (.iload_n 1, 1) := by decide +kernel
theorem dd_X9_rhythm_53 : decode X9_rhythm.2.1 53 = .ok (.iaload, 1) := by decide +kernel
theorem dd_X9_rhythm_54 : decode X9_rhythm.2.1 54 = .ok (.ireturn, 1) := by decide +kernel
theorem dd_X9_rhythm_55 : decode X9_rhythm.2.1 55 = .ok (.aload_n 0, 1) := by decide +kernel
theorem dd_X9_rhythm_56 : decode X9_rhythm.2.1 56 = .ok (.iload_n 1, 1) := by decide +kernel
theorem dd_X9_rhythm_57 : decode X9_rhythm.2.1 57 = .ok (.aload_n 0, 1) := by decide +kernel
theorem dd_X9_rhythm_58 : decode X9_rhythm.2.1 58 = .ok (.iload_n 1, 1) := by decide +kernel
theorem dd_X9_rhythm_59 : decode X9_rhythm.2.1 59 = .ok (.invokevirtual 201, 3) := by decide +kernel
theorem dd_X9_rhythm_62 : decode X9_rhythm.2.1 62 = .ok (.aload_n 0, 1) := by decide +kernel
theorem dd_X9_rhythm_63 : decode X9_rhythm.2.1 63 = .ok (.getfield 86, 3) := by decide +kernel
theorem dd_X9_rhythm_66 : decode X9_rhythm.2.1 66 = .ok (.invokevirtual 194, 3) := by decide +kernel
theorem dd_X9_rhythm_69 : decode X9_rhythm.2.1 69 = .ok (.ireturn, 1) := by decide +kernel
theorem dd_X9_rhythm_70 : decode X9_rhythm.2.1 70 = .ok (.aload_n 0, 1) := by decide +kernel
theorem dd_X9_rhythm_71 : decode X9_rhythm.2.1 71 = .ok (.iload_n 1, 1) := by decide +kernel
theorem dd_X9_rhythm_72 : decode X9_rhythm.2.1 72 = .ok (.invokevirtual 204, 3) := by decide +kernel
theorem dd_X9_rhythm_75 : decode X9_rhythm.2.1 75 = .ok (.ireturn, 1) := by decide +kernel
theorem dd_X9_rhythm_76 : decode X9_rhythm.2.1 76 = .ok (.aload_n 0, 1) := by decide +kernel
theorem dd_X9_rhythm_77 : decode X9_rhythm.2.1 77 = .ok (.iload_n 1, 1) := by decide +kernel
theorem dd_X9_rhythm_78 : decode X9_rhythm.2.1 78 = .ok (.invokevirtual 207, 3) := by decide +kernel
theorem dd_X9_rhythm_81 : decode X9_rhythm.2.1 81 = .ok (.ireturn, 1) := by decide +kernel
theorem dd_X9_rhythm_82 : decode X9_rhythm.2.1 82 = .ok (.aload_n 0, 1) := by decide +kernel
theorem dd_X9_rhythm_83 : decode X9_rhythm.2.1 83 = .ok (.iload_n 1, 1) := by decide +kernel
theorem dd_X9_rhythm_84 : decode X9_rhythm.2.1 84 = .ok (.invokevirtual 201, 3) := by decide +kernel
theorem dd_X9_rhythm_87 : decode X9_rhythm.2.1 87 = .ok (.ireturn, 1) := by decide +kernel
theorem dd_X9_rhythm_88 : decode X9_rhythm.2.1 88 = .ok (.bipush (-3), 2) := by decide +kernel
theorem dd_X9_rhythm_90 : decode X9_rhythm.2.1 90 = .ok (.ireturn, 1) := by decide +kernel
theorem dd_X9_isDimmed_0 : decode X9_isDimmed.2.1 0 = .ok (.iload_n 0, 1) := by decide +kernel
theorem dd_X9_isDimmed_1 : decode X9_isDimmed.2.1 1 = .ok (.iload_n 1, 1) := by decide +kernel
theorem dd_X9_isDimmed_2 : decode X9_isDimmed.2.1 2 = .ok (.iconst (-1), 1) := by decide +kernel
theorem dd_X9_isDimmed_3 : decode X9_isDimmed.2.1 3 = .ok (.ixor, 1) := by decide +kernel
theorem dd_X9_isDimmed_4 : decode X9_isDimmed.2.1 4 = .ok (.iand, 1) := by decide +kernel
theorem dd_X9_isDimmed_5 : decode X9_isDimmed.2.1 5 = .ok (.istore_n 2, 1) := by decide +kernel
theorem dd_X9_isDimmed_6 : decode X9_isDimmed.2.1 6 = .ok (.iload_n 1, 1) := by decide +kernel
theorem dd_X9_isDimmed_7 : decode X9_isDimmed.2.1 7 = .ok (.iload_n 0, 1) := by decide +kernel
theorem dd_X9_isDimmed_8 : decode X9_isDimmed.2.1 8 = .ok (.iconst (-1), 1) := by decide +kernel
theorem dd_X9_isDimmed_9 : decode X9_isDimmed.2.1 9 = .ok (.ixor, 1) := by decide +kernel
theorem dd_X9_isDimmed_10 : decode X9_isDimmed.2.1 10 = .ok (.iand, 1) := by decide +kernel
theorem dd_X9_isDimmed_11 : decode X9_isDimmed.2.1 11 = .ok (.ifCond .ne 15, 3) := by decide +kernel
theorem dd_X9_isDimmed_14 : decode X9_isDimmed.2.1 14 = .ok (.iload_n 2, 1) := by decide +kernel
theorem dd_X9_isDimmed_15 : decode X9_isDimmed.2.1 15 = .ok (.iload_n 2, 1) := by decide +kernel
theorem dd_X9_isDimmed_16 : decode X9_isDimmed.2.1 16 = .ok (.iconst 1, 1) := by decide +kernel
theorem dd_X9_isDimmed_17 : decode X9_isDimmed.2.1 17 = .ok (.isub, 1) := by decide +kernel
theorem dd_X9_isDimmed_18 : decode X9_isDimmed.2.1 18 = .ok (.iand, 1) := by decide +kernel
theorem dd_X9_isDimmed_19 : decode X9_isDimmed.2.1 19 = .ok (.ifCond .ne 7, 3) := by decide +kernel
theorem dd_X9_isDimmed_22 : decode X9_isDimmed.2.1 22 = .ok (.iconst 1, 1) := by decide +kernel
theorem dd_X9_isDimmed_23 : decode X9_isDimmed.2.1 23 = .ok (.goto 4, 3) := by decide +kernel
theorem dd_X9_isDimmed_26 : decode X9_isDimmed.2.1 26 = .ok (.iconst 0, 1) := by decide +kernel
theorem dd_X9_isDimmed_27 : decode X9_isDimmed.2.1 27 = .ok (.ireturn, 1) := by decide +kernel
theorem dd_X9_areLike_0 : decode X9_areLike.2.1 0 = .ok (.iconst 0, 1) := by decide +kernel
theorem dd_X9_areLike_1 : decode X9_areLike.2.1 1 = .ok (.istore 5, 2) := by decide +kernel
theorem dd_X9_areLike_3 : decode X9_areLike.2.1 3 = .ok (.iconst 0, 1) := by decide +kernel
theorem dd_X9_areLike_4 : decode X9_areLike.2.1 4 = .ok (.istore 6, 2) := by decide +kernel
theorem dd_X9_areLike_6 : decode X9_areLike.2.1 6 = .ok (.iload 6, 2) := by decide +kernel
theorem dd_X9_areLike_8 : decode X9_areLike.2.1 8 = .ok (.aload_n 0, 1) := by decide +kernel
theorem dd_X9_areLike_9 : decode X9_areLike.2.1 9 = .ok (.getfield 86, 3) := by decide +kernel
theorem dd_X9_areLike_12 : decode X9_areLike.2.1 12 = .ok (.aload_n 0, 1) := by decide +kernel
theorem dd_X9_areLike_13 : decode X9_areLike.2.1 13 = .ok (.getfield 86, 3) := by decide +kernel
theorem dd_X9_areLike_16 : decode X9_areLike.2.1 16 = .ok (.imul, 1) := by decide +kernel
theorem dd_X9_areLike_17 : decode X9_areLike.2.1 17 = .ok (.if_icmp .ge 83, 3) := by decide +kernel
theorem dd_X9_areLike_20 : decode X9_areLike.2.1 20 = .ok (.aload_n 0, 1) := by decide +kernel
theorem dd_X9_areLike_21 : decode X9_areLike.2.1 21 = .ok (.iload_n 1, 1) := by decide +kernel
theorem dd_X9_areLike_22 : decode X9_areLike.2.1 22 = .ok (.iload 6, 2) := by decide +kernel
theorem dd_X9_areLike_24 : decode X9_areLike.2.1 24 = .ok (.aload_n 0, 1) := by decide +kernel
theorem dd_X9_areLike_25 : decode X9_areLike.2.1 25 = .ok (.getfield 86, 3) := by decide +kernel
theorem dd_X9_areLike_28 : decode X9_areLike.2.1 28 = .ok (.idiv, 1) := by decide +kernel
theorem dd_X9_areLike_29 : decode X9_areLike.2.1 29 = .ok (.iload_n 3, 1) := by decide +kernel
theorem dd_X9_areLike_30 : decode X9_areLike.2.1 30 = .ok (.invokevirtual 194, 3) := by decide +kernel
theorem dd_X9_areLike_33 : decode X9_areLike.2.1 33 = .ok (.istore 7, 2) := by decide +kernel
theorem dd_X9_areLike_35 : decode X9_areLike.2.1 35 = .ok (.aload_n 0, 1) := by decide +kernel
theorem dd_X9_areLike_36 : decode X9_areLike.2.1 36 = .ok (.iload_n 2, 1) := by decide +kernel
theorem dd_X9_areLike_37 : decode X9_areLike.2.1 37 = .ok (.iload 6, 2) := by decide +kernel
theorem dd_X9_areLike_39 : decode X9_areLike.2.1 39 = .ok (.aload_n 0, 1) := by decide +kernel
theorem dd_X9_areLike_40 : decode X9_areLike.2.1 40 = .ok (.getfield 86, 3) := by decide +kernel
theorem dd_X9_areLike_43 : decode X9_areLike.2.1 43 = .ok (.irem, 1) := by decide +kernel
theorem dd_X9_areLike_44 : decode X9_areLike.2.1 44 = .ok (.iload_n 3, 1) := by decide +kernel
theorem dd_X9_areLike_45 : decode X9_areLike.2.1 45 = .ok (.invokevirtual 194, 3) := by decide +kernel
theorem dd_X9_areLike_48 : decode X9_areLike.2.1 48 = .ok (.istore 8, 2) := by decide +kernel
theorem dd_X9_areLike_50 : decode X9_areLike.2.1 50 = .ok (.iload 5, 2) := by decide +kernel
theorem dd_X9_areLike_52 : decode X9_areLike.2.1 52 = .ok (.ifCond .ne 35, 3) := by decide +kernel
theorem dd_X9_areLike_55 : decode X9_areLike.2.1 55 = .ok (.iload 7, 2) := by decide +kernel
theorem dd_X9_areLike_57 : decode X9_areLike.2.1 57 = .ok (.iload 8, 2) := by decide +kernel
theorem dd_X9_areLike_59 : decode X9_areLike.2.1 59 = .ok (.if_icmp .eq 28, 3) := by decide +kernel
theorem dd_X9_areLike_62 : decode X9_areLike.2.1 62 = .ok (.iload 4, 2) := by decide +kernel
theorem dd_X9_areLike_64 : decode X9_areLike.2.1 64 = .ok (.ifCond .eq 27, 3) := by decide +kernel
theorem dd_X9_areLike_67 : decode X9_areLike.2.1 67 = .ok (.iload 7, 2) := by decide +kernel
theorem dd_X9_areLike_69 : decode X9_areLike.2.1 69 = .ok (.iload 8, 2) := by decide +kernel
theorem dd_X9_areLike_71 : decode X9_areLike.2.1 71 = .ok (.invokestatic 210, 3) := by decide +kernel
theorem dd_X9_areLike_74 : decode X9_areLike.2.1 74 = .ok (.ifCond .ne 13, 3) := by decide +kernel
theorem dd_X9_areLike_77 : decode X9_areLike.2.1 77 = .ok (.iload 8, 2) := by decide +kernel
theorem dd_X9_areLike_79 : decode X9_areLike.2.1 79 = .ok (.iload 7, 2) := by decide +kernel
theorem dd_X9_areLike_81 : decode X9_areLike.2.1 81 = .ok (.invokestatic 210, 3) := by decide +kernel
theorem dd_X9_areLike_84 : decode X9_areLike.2.1 84 = .ok (.ifCond .eq 7, 3) := by decide +kernel
theorem dd_X9_areLike_87 : decode X9_areLike.2.1 87 = .ok (.iconst 1, 1) := by decide +kernel
theorem dd_X9_areLike_88 : decode X9_areLike.2.1 88 = .ok (.goto 4, 3) := by decide +kernel
theorem dd_X9_areLike_91 : decode X9_areLike.2.1 91 = .ok (.iconst 0, 1) := by decide +kernel
theorem dd_X9_areLike_92 : decode X9_areLike.2.1 92 = .ok (.istore 5, 2) := by decide +kernel
theorem dd_X9_areLike_94 : decode X9_areLike.2.1 94 = .ok (.iinc 6 1, 3) := by decide +kernel
theorem dd_X9_areLike_97 : decode X9_areLike.2.1 97 = .ok (.goto (-91), 3) := by decide +kernel
theorem dd_X9_areLike_100 : decode X9_areLike.2.1 100 = .ok (.iload 5, 2) := by decide +kernel
theorem dd_X9_areLike_102 : decode X9_areLike.2.1 102 = .ok (.ireturn, 1) := by decide +kernel
theorem dd_X9_like_0 : decode X9_like.2.1 0 = .ok (.aload_n 0, 1) := by decide +kernel
theorem dd_X9_like_1 : decode X9_like.2.1 1 = .ok (.iload_n 1, 1) := by decide +kernel
theorem dd_X9_like_2 : decode X9_like.2.1 2 = .ok (.invokevirtual 198, 3) := by decide +kernel
theorem dd_X9_like_5 : decode X9_like.2.1 5 = .ok (.ifCond .eq 11, 3) := by decide +kernel
theorem dd_X9_like_8 : decode X9_like.2.1 8 = .ok (.aload_n 0, 1) := by decide +kernel
theorem dd_X9_like_9 : decode X9_like.2.1 9 = .ok (.iload_n 2, 1) := by decide +kernel
theorem dd_X9_like_10 : decode X9_like.2.1 10 = .ok (.invokevirtual 198, 3) := by decide +kernel
theorem dd_X9_like_13 : decode X9_like.2.1 13 = .ok (.ifCond .ne 6, 3) := by decide +kernel
theorem dd_X9_like_16 : decode X9_like.2.1 16 = .ok (.bipush (-2), 2) := by decide +kernel
theorem dd_X9_like_18 : decode X9_like.2.1 18 = .ok (.ireturn, 1) := by decide +kernel
theorem dd_X9_like_19 : decode X9_like.2.1 19 = .ok (.iload_n 3, 1) := by decide +kernel
theorem dd_X9_like_20 : decode X9_like.2.1 20 = .ok (.i2l, 1) := by decide +kernel
theorem dd_X9_like_21 : decode X9_like.2.1 21 = .ok (.lconst 0, 1) := by decide +kernel
theorem dd_X9_like_22 : decode X9_like.2.1 22 = .ok (.lconst 1, 1) := by decide +kernel
theorem dd_X9_like_23 : decode X9_like.2.1 23 = .ok (.invokestatic 104, 3) := by decide +kernel
theorem dd_X9_like_26 : decode X9_like.2.1 26 = .ok (.ifCond .ne 8, 3) := by decide +kernel
theorem dd_X9_like_29 : decode X9_like.2.1 29 = .ok (.bipush (-3), 2) := by decide +kernel
theorem dd_X9_like_31 : decode X9_like.2.1 31 = .ok (.goto 31, 3) := by decide +kernel
theorem dd_X9_like_34 : decode X9_like.2.1 34 = .ok (.aload_n 0, 1) := by decide +kernel
theorem dd_X9_like_35 : decode X9_like.2.1 35 = .ok (.iload_n 1, 1) := by decide +kernel
theorem dd_X9_like_36 : decode X9_like.2.1 36 = .ok (.iload_n 2, 1) := by decide +kernel
theorem dd_X9_like_37 : decode X9_like.2.1 37 = .ok (.aload_n 0, 1) := by decide +kernel
theorem dd_X9_like_38 : decode X9_like.2.1 38 = .ok (.getfield 90, 3) := by decide +kernel
theorem dd_X9_like_41 : decode X9_like.2.1 41 = .ok (.iload_n 3, 1) := by decide +kernel
theorem dd_X9_like_42 : decode X9_like.2.1 42 = .ok (.iconst 1, 1) := by decide +kernel
theorem dd_X9_like_43 : decode X9_like.2.1 43 = .ok (.if_icmp .ne 7, 3) := by decide +kernel
theorem dd_X9_like_46 : decode X9_like.2.1 46 = .ok (.iconst 1, 1) := by decide +kernel
theorem dd_X9_like_47 : decode X9_like.2.1 47 = .ok (.goto 4, 3) := by decide +kernel
theorem dd_X9_like_50 : decode X9_like.2.1 50 = .ok (.iconst 0, 1) := by decide +kernel
theorem dd_X9_like_51 : decode X9_like.2.1 51 = .ok (.invokevirtual 214, 3) := by decide +kernel
theorem dd_X9_like_54 : decode X9_like.2.1 54 = .ok (.ifCond .eq 7, 3) := by decide +kernel
theorem dd_X9_like_57 : decode X9_like.2.1 57 = .ok (.iconst 1, 1) := by decide +kernel
theorem dd_X9_like_58 : decode X9_like.2.1 58 = .ok (.goto 4, 3) := by decide +kernel
theorem dd_X9_like_61 : decode X9_like.2.1 61 = .ok (.iconst 0, 1) := by decide +kernel
theorem dd_X9_like_62 : decode X9_like.2.1 62 = .ok (.ireturn, 1) := by decide +kernel
theorem dd_X9_areNeighbours_0 : decode X9_areNeighbours.2.1 0 = .ok (.iload_n 1, 1) := by decide +kernel
theorem dd_X9_areNeighbours_1 : decode X9_areNeighbours.2.1 1 = .ok (.iload_n 2, 1) := by decide +kernel
theorem dd_X9_areNeighbours_2 : decode X9_areNeighbours.2.1 2 = .ok (.if_icmp .eq 42, 3) := by decide +kernel
theorem dd_X9_areNeighbours_5 : decode X9_areNeighbours.2.1 5 = .ok (.aload_n 0, 1) := by decide +kernel
theorem dd_X9_areNeighbours_6 : decode X9_areNeighbours.2.1 6 = .ok (.getfield 7, 3) := by decide +kernel
theorem dd_X9_areNeighbours_9 : decode X9_areNeighbours.2.1 9 = .ok (.iconst 0, 1) := by decide +kernel
theorem dd_X9_areNeighbours_10 : decode X9_areNeighbours.2.1 10 = .ok (.iload_n 1, 1) := by decide +kernel
theorem dd_X9_areNeighbours_11 : decode X9_areNeighbours.2.1 11 = .ok (.iadd, 1) := by decide +kernel
theorem dd_X9_areNeighbours_12 : decode X9_areNeighbours.2.1 12 = .ok (.iaload, 1) := by decide +kernel
theorem dd_X9_areNeighbours_13 : decode X9_areNeighbours.2.1 13 = .ok (.aload_n 0, 1) := by decide +kernel
theorem dd_X9_areNeighbours_14 : decode X9_areNeighbours.2.1 14 = .ok (.getfield 7, 3) := by decide +kernel
theorem dd_X9_areNeighbours_17 : decode X9_areNeighbours.2.1 17 = .ok (.iconst 0, 1) := by decide +kernel
theorem dd_X9_areNeighbours_18 : decode X9_areNeighbours.2.1 18 = .ok (.iload_n 2, 1) := by decide +kernel
theorem dd_X9_areNeighbours_19 : decode X9_areNeighbours.2.1 19 = .ok (.iadd, 1) := by decide +kernel
theorem dd_X9_areNeighbours_20 : decode X9_areNeighbours.2.1 20 = .ok (.iaload, 1) := by decide +kernel
theorem dd_X9_areNeighbours_21 : decode X9_areNeighbours.2.1 21 = .ok (.isub, 1) := by decide +kernel
theorem dd_X9_areNeighbours_22 : decode X9_areNeighbours.2.1 22 = .ok (.i2l, 1) := by decide +kernel
theorem dd_X9_areNeighbours_23 : decode X9_areNeighbours.2.1 23 = .ok (.aload_n 0, 1) := by decide +kernel
theorem dd_X9_areNeighbours_24 : decode X9_areNeighbours.2.1 24 = .ok (.getfield 93, 3) := by decide +kernel
theorem dd_X9_areNeighbours_27 : decode X9_areNeighbours.2.1 27 = .ok (.ineg, 1) := by decide +kernel
theorem dd_X9_areNeighbours_28 : decode X9_areNeighbours.2.1 28 = .ok (.i2l, 1) := by decide +kernel
theorem dd_X9_areNeighbours_29 : decode X9_areNeighbours.2.1 29 = .ok (.aload_n 0, 1) := by decide +kernel
theorem dd_X9_areNeighbours_30 : decode X9_areNeighbours.2.1 30 = .ok (.getfield 93, 3) := by decide +kernel
theorem dd_X9_areNeighbours_33 : decode X9_areNeighbours.2.1 33 = .ok (.i2l, 1) := by decide +kernel
theorem dd_X9_areNeighbours_34 : decode X9_areNeighbours.2.1 34 = .ok (.invokestatic 104, 3) := by decide +kernel
theorem dd_X9_areNeighbours_37 : decode X9_areNeighbours.2.1 37 = .ok (.ifCond .eq 7, 3) := by decide +kernel
theorem dd_X9_areNeighbours_40 : decode X9_areNeighbours.2.1 40 = .ok (.iconst 1, 1) := by decide +kernel
theorem dd_X9_areNeighbours_41 : decode X9_areNeighbours.2.1 41 = .ok (.goto 4, 3) := by decide +kernel
theorem dd_X9_areNeighbours_44 : decode X9_areNeighbours.2.1 44 = .ok (.iconst 0, 1) := by decide +kernel
theorem dd_X9_areNeighbours_45 : decode X9_areNeighbours.2.1 45 = .ok (.ireturn, 1) := by decide +kernel
theorem dd_X9_doClash_0 : decode X9_doClash.2.1 0 = .ok (.aload_n 0, 1) := by decide +kernel
theorem dd_X9_doClash_1 : decode X9_doClash.2.1 1 = .ok (.iload_n 1, 1) := by decide +kernel
theorem dd_X9_doClash_2 : decode X9_doClash.2.1 2 = .ok (.iload_n 2, 1) := by decide +kernel
theorem dd_X9_doClash_3 : decode X9_doClash.2.1 3 = .ok (.invokevirtual 218, 3) := by decide +kernel
theorem dd_X9_doClash_6 : decode X9_doClash.2.1 6 = .ok (.ifCond .eq 63, 3) := by decide +kernel
theorem dd_X9_doClash_9 : decode X9_doClash.2.1 9 = .ok (.aload_n 0, 1) := by decide +kernel
theorem dd_X9_doClash_10 : decode X9_doClash.2.1 10 = .ok (.getfield 7, 3) := by decide +kernel
theorem dd_X9_doClash_13 : decode X9_doClash.2.1 13 = .ok (.bipush 6, 2) := by decide +kernel
theorem dd_X9_doClash_15 : decode X9_doClash.2.1 15 = .ok (.iload_n 1, 1) := by decide +kernel
theorem dd_X9_doClash_16 : decode X9_doClash.2.1 16 = .ok (.iadd, 1) := by decide +kernel
theorem dd_X9_doClash_17 : decode X9_doClash.2.1 17 = .ok (.iaload, 1) := by decide +kernel
theorem dd_X9_doClash_18 : decode X9_doClash.2.1 18 = .ok (.iconst (-1), 1) := by decide +kernel
theorem dd_X9_doClash_19 : decode X9_doClash.2.1 19 = .ok (.if_icmp .eq 50, 3) := by decide +kernel
theorem dd_X9_doClash_22 : decode X9_doClash.2.1 22 = .ok (.aload_n 0, 1) := by decide +kernel
theorem dd_X9_doClash_23 : decode X9_doClash.2.1 23 = .ok (.getfield 7, 3) := by decide +kernel
theorem dd_X9_doClash_26 : decode X9_doClash.2.1 26 = .ok (.bipush 6, 2) := by decide +kernel
theorem dd_X9_doClash_28 : decode X9_doClash.2.1 28 = .ok (.iload_n 2, 1) := by decide +kernel
theorem dd_X9_doClash_29 : decode X9_doClash.2.1 29 = .ok (.iadd, 1) := by decide +kernel
theorem dd_X9_doClash_30 : decode X9_doClash.2.1 30 = .ok (.iaload, 1) := by decide +kernel
theorem dd_X9_doClash_31 : decode X9_doClash.2.1 31 = .ok (.iconst (-1), 1) := by decide +kernel
theorem dd_X9_doClash_32 : decode X9_doClash.2.1 32 = .ok (.if_icmp .eq 37, 3) := by decide +kernel
theorem dd_X9_doClash_35 : decode X9_doClash.2.1 35 = .ok (.aload_n 0, 1) := by decide +kernel
theorem dd_X9_doClash_36 : decode X9_doClash.2.1 36 = .ok (.aload_n 0, 1) := by decide +kernel
theorem dd_X9_doClash_37 : decode X9_doClash.2.1 37 = .ok (.getfield 7, 3) := by decide +kernel
theorem dd_X9_doClash_40 : decode X9_doClash.2.1 40 = .ok (.bipush 6, 2) := by decide +kernel
theorem dd_X9_doClash_42 : decode X9_doClash.2.1 42 = .ok (.iload_n 1, 1) := by decide +kernel
theorem dd_X9_doClash_43 : decode X9_doClash.2.1 43 = .ok (.iadd, 1) := by decide +kernel
theorem dd_X9_doClash_44 : decode X9_doClash.2.1 44 = .ok (.iaload, 1) := by decide +kernel
theorem dd_X9_doClash_45 : decode X9_doClash.2.1 45 = .ok (.aload_n 0, 1) := by decide +kernel
theorem dd_X9_doClash_46 : decode X9_doClash.2.1 46 = .ok (.getfield 7, 3) := by decide +kernel
theorem dd_X9_doClash_49 : decode X9_doClash.2.1 49 = .ok (.bipush 6, 2) := by decide +kernel
theorem dd_X9_doClash_51 : decode X9_doClash.2.1 51 = .ok (.iload_n 2, 1) := by decide +kernel
theorem dd_X9_doClash_52 : decode X9_doClash.2.1 52 = .ok (.iadd, 1) := by decide +kernel
theorem dd_X9_doClash_53 : decode X9_doClash.2.1 53 = .ok (.iaload, 1) := by decide +kernel
theorem dd_X9_doClash_54 : decode X9_doClash.2.1 54 = .ok (.aload_n 0, 1) := by decide +kernel
theorem dd_X9_doClash_55 : decode X9_doClash.2.1 55 = .ok (.getfield 90, 3) := by decide +kernel
theorem dd_X9_doClash_58 : decode X9_doClash.2.1 58 = .ok (.iconst 0, 1) := by decide +kernel
theorem dd_X9_doClash_59 : decode X9_doClash.2.1 59 = .ok (.invokevirtual 214, 3) := by decide +kernel
theorem dd_X9_doClash_62 : decode X9_doClash.2.1 62 = .ok (.ifCond .eq 7, 3) := by decide +kernel
theorem dd_X9_doClash_65 : decode X9_doClash.2.1 65 = .ok (.iconst 1, 1) := by decide +kernel
theorem dd_X9_doClash_66 : decode X9_doClash.2.1 66 = .ok (.goto 4, 3) := by decide +kernel
theorem dd_X9_doClash_69 : decode X9_doClash.2.1 69 = .ok (.iconst 0, 1) := by decide +kernel
theorem dd_X9_doClash_70 : decode X9_doClash.2.1 70 = .ok (.ireturn, 1) := by decide +kernel
theorem dd_X9_thoseOf_0 : decode X9_thoseOf.2.1 0 = .ok (.iconst 0, 1) := by decide +kernel
theorem dd_X9_thoseOf_1 : decode X9_thoseOf.2.1 1 = .ok (.istore_n 3, 1) := by decide +kernel
theorem dd_X9_thoseOf_2 : decode X9_thoseOf.2.1 2 = .ok (.iconst 0, 1) := by decide +kernel
theorem dd_X9_thoseOf_3 : decode X9_thoseOf.2.1 3 = .ok (.istore 4, 2) := by decide +kernel
theorem dd_X9_thoseOf_5 : decode X9_thoseOf.2.1 5 = .ok (.iload 4, 2) := by decide +kernel
theorem dd_X9_thoseOf_7 : decode X9_thoseOf.2.1 7 = .ok (.aload_n 0, 1) := by decide +kernel
theorem dd_X9_thoseOf_8 : decode X9_thoseOf.2.1 8 = .ok (.getfield 99, 3) := by decide +kernel
theorem dd_X9_thoseOf_11 : decode X9_thoseOf.2.1 11 = .ok (.if_icmp .ge 47, 3) := by decide +kernel
theorem dd_X9_thoseOf_14 : decode X9_thoseOf.2.1 14 = .ok (.iload_n 3, 1) := by decide +kernel
theorem dd_X9_thoseOf_15 : decode X9_thoseOf.2.1 15 = .ok (.iload_n 2, 1) := by decide +kernel
theorem dd_X9_thoseOf_16 : decode X9_thoseOf.2.1 16 = .ok (.ifCond .eq 16, 3) := by decide +kernel
theorem dd_X9_thoseOf_19 : decode X9_thoseOf.2.1 19 = .ok (.aload_n 0, 1) := by decide +kernel
theorem dd_X9_thoseOf_20 : decode X9_thoseOf.2.1 20 = .ok (.iload_n 1, 1) := by decide +kernel
theorem dd_X9_thoseOf_21 : decode X9_thoseOf.2.1 21 = .ok (.iload 4, 2) := by decide +kernel
theorem dd_X9_thoseOf_23 : decode X9_thoseOf.2.1 23 = .ok (.invokevirtual 221, 3) := by decide +kernel
theorem dd_X9_thoseOf_26 : decode X9_thoseOf.2.1 26 = .ok (.ifCond .eq 23, 3) := by decide +kernel
theorem dd_X9_thoseOf_29 : decode X9_thoseOf.2.1 29 = .ok (.goto 13, 3) := by decide +kernel
theorem dd_X9_thoseOf_32 : decode X9_thoseOf.2.1 32 = .ok (.aload_n 0, 1) := by decide +kernel
theorem dd_X9_thoseOf_33 : decode X9_thoseOf.2.1 33 = .ok (.iload_n 1, 1) := by decide +kernel
theorem dd_X9_thoseOf_34 : decode X9_thoseOf.2.1 34 = .ok (.iload 4, 2) := by decide +kernel
theorem dd_X9_thoseOf_36 : decode X9_thoseOf.2.1 36 = .ok (.invokevirtual 218, 3) := by decide +kernel
theorem dd_X9_thoseOf_39 : decode X9_thoseOf.2.1 39 = .ok (.ifCond .eq 10, 3) := by decide +kernel
theorem dd_X9_thoseOf_42 : decode X9_thoseOf.2.1 42 = .ok (.iconst 1, 1) := by decide +kernel
theorem dd_X9_thoseOf_43 : decode X9_thoseOf.2.1 43 = .ok (.iload 4, 2) := by decide +kernel
theorem dd_X9_thoseOf_45 : decode X9_thoseOf.2.1 45 = .ok (.ishl, 1) := by decide +kernel
theorem dd_X9_thoseOf_46 : decode X9_thoseOf.2.1 46 = .ok (.goto 4, 3) := by decide +kernel
theorem dd_X9_thoseOf_49 : decode X9_thoseOf.2.1 49 = .ok (.iconst 0, 1) := by decide +kernel
theorem dd_X9_thoseOf_50 : decode X9_thoseOf.2.1 50 = .ok (.ior, 1) := by decide +kernel
theorem dd_X9_thoseOf_51 : decode X9_thoseOf.2.1 51 = .ok (.istore_n 3, 1) := by decide +kernel
theorem dd_X9_thoseOf_52 : decode X9_thoseOf.2.1 52 = .ok (.iinc 4 1, 3) := by decide +kernel
theorem dd_X9_thoseOf_55 : decode X9_thoseOf.2.1 55 = .ok (.goto (-50), 3) := by decide +kernel
theorem dd_X9_thoseOf_58 : decode X9_thoseOf.2.1 58 = .ok (.iload_n 3, 1) := by decide +kernel
theorem dd_X9_thoseOf_59 : decode X9_thoseOf.2.1 59 = .ok (.ireturn, 1) := by decide +kernel
theorem dd_X9_light_0 : decode X9_light.2.1 0 = .ok (.aload_n 0, 1) := by decide +kernel
theorem dd_X9_light_1 : decode X9_light.2.1 1 = .ok (.iload_n 1, 1) := by decide +kernel
theorem dd_X9_light_2 : decode X9_light.2.1 2 = .ok (.invokevirtual 224, 3) := by decide +kernel
theorem dd_X9_light_5 : decode X9_light.2.1 5 = .ok (.ifCond .ne 6, 3) := by decide +kernel
theorem dd_X9_light_8 : decode X9_light.2.1 8 = .ok (.bipush (-2), 2) := by decide +kernel
theorem dd_X9_light_10 : decode X9_light.2.1 10 = .ok (.ireturn, 1) := by decide +kernel
theorem dd_X9_light_11 : decode X9_light.2.1 11 = .ok (.iload_n 2, 1) := by decide +kernel
theorem dd_X9_light_12 : decode X9_light.2.1 12 = .ok (.tableswitch 65 0 3 #[32, 41, 51, 58], 32) := by decide +kernel
theorem dd_X9_light_44 : decode X9_light.2.1 44 = .ok (.aload_n 0, 1) := by decide +kernel
theorem dd_X9_light_45 : decode X9_light.2.1 45 = .ok (.getfield 7, 3) := by decide +kernel
theorem dd_X9_light_48 : decode X9_light.2.1 48 = .ok (.iconst 0, 1) := by decide +kernel
theorem dd_X9_light_49 : decode X9_light.2.1 49 = .ok (.iload_n 1, 1) := by decide +kernel
theorem dd_X9_light_50 : decode X9_light.2.1 50 = .ok (.iadd, 1) := by decide +kernel
theorem dd_X9_light_51 : decode X9_light.2.1 51 = .ok (.iaload, 1) := by decide +kernel
theorem dd_X9_light_52 : decode X9_light.2.1 52 = .ok (.ireturn, 1) := by decide +kernel
theorem dd_X9_light_53 : decode X9_light.2.1 53 = .ok (.aload_n 0, 1) := by decide +kernel
theorem dd_X9_light_54 : decode X9_light.2.1 54 = .ok (.getfield 7, 3) := by decide +kernel
theorem dd_X9_light_57 : decode X9_light.2.1 57 = .ok (.bipush 6, 2) := by decide +kernel
theorem dd_X9_light_59 : decode X9_light.2.1 59 = .ok (.iload_n 1, 1) := by decide +kernel
theorem dd_X9_light_60 : decode X9_light.2.1 60 = .ok (.iadd, 1) := by decide +kernel
theorem dd_X9_light_61 : decode X9_light.2.1 61 = .ok (.iaload, 1) := by decide +kernel
theorem dd_X9_light_62 : decode X9_light.2.1 62 = .ok (.ireturn, 1) := by decide +kernel
theorem dd_X9_light_63 : decode X9_light.2.1 63 = .ok (.aload_n 0, 1) := by decide +kernel
theorem dd_X9_light_64 : decode X9_light.2.1 64 = .ok (.iload_n 1, 1) := by decide +kernel
theorem dd_X9_light_65 : decode X9_light.2.1 65 = .ok (.iconst 0, 1) := by decide +kernel
theorem dd_X9_light_66 : decode X9_light.2.1 66 = .ok (.invokevirtual 227, 3) := by decide +kernel
theorem dd_X9_light_69 : decode X9_light.2.1 69 = .ok (.ireturn, 1) := by decide +kernel
theorem dd_X9_light_70 : decode X9_light.2.1 70 = .ok (.aload_n 0, 1) := by decide +kernel
theorem dd_X9_light_71 : decode X9_light.2.1 71 = .ok (.iload_n 1, 1) := by decide +kernel
theorem dd_X9_light_72 : decode X9_light.2.1 72 = .ok (.iconst 1, 1) := by decide +kernel
theorem dd_X9_light_73 : decode X9_light.2.1 73 = .ok (.invokevirtual 227, 3) := by decide +kernel
theorem dd_X9_light_76 : decode X9_light.2.1 76 = .ok (.ireturn, 1) := by decide +kernel
theorem dd_X9_light_77 : decode X9_light.2.1 77 = .ok (.bipush (-3), 2) := by decide +kernel
theorem dd_X9_light_79 : decode X9_light.2.1 79 = .ok (.ireturn, 1) := by decide +kernel
theorem dd_X9_become_0 : decode X9_become.2.1 0 = .ok (.iconst 0, 1) := by decide +kernel
theorem dd_X9_become_1 : decode X9_become.2.1 1 = .ok (.istore_n 3, 1) := by decide +kernel
theorem dd_X9_become_2 : decode X9_become.2.1 2 = .ok (.iload_n 3, 1) := by decide +kernel
theorem dd_X9_become_3 : decode X9_become.2.1 3 = .ok (.bipush 84, 2) := by decide +kernel
theorem dd_X9_become_5 : decode X9_become.2.1 5 = .ok (.if_icmp .ge 36, 3) := by decide +kernel
theorem dd_X9_become_8 : decode X9_become.2.1 8 = .ok (.aload_n 0, 1) := by decide +kernel
theorem dd_X9_become_9 : decode X9_become.2.1 9 = .ok (.getfield 180, 3) := by decide +kernel
theorem dd_X9_become_12 : decode X9_become.2.1 12 = .ok (.bipush 8, 2) := by decide +kernel
theorem dd_X9_become_14 : decode X9_become.2.1 14 = .ok (.if_icmp .ne 27, 3) := by decide +kernel
theorem dd_X9_become_17 : decode X9_become.2.1 17 = .ok (.aload_n 0, 1) := by decide +kernel
theorem dd_X9_become_18 : decode X9_become.2.1 18 = .ok (.getfield 7, 3) := by decide +kernel
theorem dd_X9_become_21 : decode X9_become.2.1 21 = .ok (.bipush 12, 2) := by decide +kernel
theorem dd_X9_become_23 : decode X9_become.2.1 23 = .ok (.iload_n 3, 1) := by decide +kernel
theorem dd_X9_become_24 : decode X9_become.2.1 24 = .ok (.iadd, 1) := by decide +kernel
theorem dd_X9_become_25 : decode X9_become.2.1 25 = .ok (.aload_n 0, 1) := by decide +kernel
theorem dd_X9_become_26 : decode X9_become.2.1 26 = .ok (.getfield 7, 3) := by decide +kernel
theorem dd_X9_become_29 : decode X9_become.2.1 29 = .ok (.bipush 24, 2) := by decide +kernel
theorem dd_X9_become_31 : decode X9_become.2.1 31 = .ok (.iload_n 3, 1) := by decide +kernel
theorem dd_X9_become_32 : decode X9_become.2.1 32 = .ok (.iadd, 1) := by decide +kernel
theorem dd_X9_become_33 : decode X9_become.2.1 33 = .ok (.iaload, 1) := by decide +kernel
theorem dd_X9_become_34 : decode X9_become.2.1 34 = .ok (.iastore, 1) := by decide +kernel
theorem dd_X9_become_35 : decode X9_become.2.1 35 = .ok (.iinc 3 1, 3) := by decide +kernel
theorem dd_X9_become_38 : decode X9_become.2.1 38 = .ok (.goto (-36), 3) := by decide +kernel
theorem dd_X9_become_41 : decode X9_become.2.1 41 = .ok (.aload_n 0, 1) := by decide +kernel
theorem dd_X9_become_42 : decode X9_become.2.1 42 = .ok (.dup, 1) := by decide +kernel
theorem dd_X9_become_43 : decode X9_become.2.1 43 = .ok (.getfield 180, 3) := by decide +kernel
theorem dd_X9_become_46 : decode X9_become.2.1 46 = .ok (.aload_n 0, 1) := by decide +kernel
theorem dd_X9_become_47 : decode X9_become.2.1 47 = .ok (.getfield 180, 3) := by decide +kernel
theorem dd_X9_become_50 : decode X9_become.2.1 50 = .ok (.bipush 8, 2) := by decide +kernel
theorem dd_X9_become_52 : decode X9_become.2.1 52 = .ok (.if_icmp .ne 7, 3) := by decide +kernel
theorem dd_X9_become_55 : decode X9_become.2.1 55 = .ok (.iconst 1, 1) := by decide +kernel
theorem dd_X9_become_56 : decode X9_become.2.1 56 = .ok (.goto 4, 3) := by decide +kernel
theorem dd_X9_become_59 : decode X9_become.2.1 59 = .ok (.iconst 0, 1) := by decide +kernel
theorem dd_X9_become_60 : decode X9_become.2.1 60 = .ok (.isub, 1) := by decide +kernel
theorem dd_X9_become_61 : decode X9_become.2.1 61 = .ok (.putfield 180, 3) := by decide +kernel
theorem dd_X9_become_64 : decode X9_become.2.1 64 = .ok (.aload_n 0, 1) := by decide +kernel
theorem dd_X9_become_65 : decode X9_become.2.1 65 = .ok (.iconst 0, 1) := by decide +kernel
theorem dd_X9_become_66 : decode X9_become.2.1 66 = .ok (.bipush 12, 2) := by decide +kernel
theorem dd_X9_become_68 : decode X9_become.2.1 68 = .ok (.bipush 12, 2) := by decide +kernel
theorem dd_X9_become_70 : decode X9_become.2.1 70 = .ok (.aload_n 0, 1) := by decide +kernel
theorem dd_X9_become_71 : decode X9_become.2.1 71 = .ok (.getfield 180, 3) := by decide +kernel
theorem dd_X9_become_74 : decode X9_become.2.1 74 = .ok (.imul, 1) := by decide +kernel
theorem dd_X9_become_75 : decode X9_become.2.1 75 = .ok (.iadd, 1) := by decide +kernel
theorem dd_X9_become_76 : decode X9_become.2.1 76 = .ok (.invokevirtual 82, 3) := by decide +kernel
theorem dd_X9_become_79 : decode X9_become.2.1 79 = .ok (.aload_n 0, 1) := by decide +kernel
theorem dd_X9_become_80 : decode X9_become.2.1 80 = .ok (.dup, 1) := by decide +kernel
theorem dd_X9_become_81 : decode X9_become.2.1 81 = .ok (.getfield 180, 3) := by decide +kernel
theorem dd_X9_become_84 : decode X9_become.2.1 84 = .ok (.iconst 1, 1) := by decide +kernel
theorem dd_X9_become_85 : decode X9_become.2.1 85 = .ok (.iadd, 1) := by decide +kernel
theorem dd_X9_become_86 : decode X9_become.2.1 86 = .ok (.putfield 180, 3) := by decide +kernel
theorem dd_X9_become_89 : decode X9_become.2.1 89 = .ok (.aload_n 0, 1) := by decide +kernel
theorem dd_X9_become_90 : decode X9_become.2.1 90 = .ok (.getfield 7, 3) := by decide +kernel
theorem dd_X9_become_93 : decode X9_become.2.1 93 = .ok (.iload_n 1, 1) := by decide +kernel
theorem dd_X9_become_94 : decode X9_become.2.1 94 = .ok (.iload_n 2, 1) := by decide +kernel
theorem dd_X9_become_95 : decode X9_become.2.1 95 = .ok (.iastore, 1) := by decide +kernel
theorem dd_X9_become_96 : decode X9_become.2.1 96 = .ok (.aload_n 0, 1) := by decide +kernel
theorem dd_X9_become_97 : decode X9_become.2.1 97 = .ok (.iconst 0, 1) := by decide +kernel
theorem dd_X9_become_98 : decode X9_become.2.1 98 = .ok (.putfield 183, 3) := by decide +kernel
theorem dd_X9_become_101 : decode X9_become.2.1 101 = .ok (.return_, 1) := by decide +kernel
theorem dd_X9_lit_0 : decode X9_lit.2.1 0 = .ok (.aload_n 0, 1) := by decide +kernel
theorem dd_X9_lit_1 : decode X9_lit.2.1 1 = .ok (.iload_n 1, 1) := by decide +kernel
theorem dd_X9_lit_2 : decode X9_lit.2.1 2 = .ok (.invokevirtual 224, 3) := by decide +kernel
theorem dd_X9_lit_5 : decode X9_lit.2.1 5 = .ok (.ifCond .eq 11, 3) := by decide +kernel
theorem dd_X9_lit_8 : decode X9_lit.2.1 8 = .ok (.aload_n 0, 1) := by decide +kernel
theorem dd_X9_lit_9 : decode X9_lit.2.1 9 = .ok (.iload_n 2, 1) := by decide +kernel
theorem dd_X9_lit_10 : decode X9_lit.2.1 10 = .ok (.invokevirtual 198, 3) := by decide +kernel
theorem dd_X9_lit_13 : decode X9_lit.2.1 13 = .ok (.ifCond .ne 6, 3) := by decide +kernel
theorem dd_X9_lit_16 : decode X9_lit.2.1 16 = .ok (.bipush (-2), 2) := by decide +kernel
theorem dd_X9_lit_18 : decode X9_lit.2.1 18 = .ok (.ireturn, 1) := by decide +kernel
theorem dd_X9_lit_19 : decode X9_lit.2.1 19 = .ok (.aload_n 0, 1) := by decide +kernel
theorem dd_X9_lit_20 : decode X9_lit.2.1 20 = .ok (.getfield 7, 3) := by decide +kernel
theorem dd_X9_lit_23 : decode X9_lit.2.1 23 = .ok (.bipush 6, 2) := by decide +kernel
theorem dd_X9_lit_25 : decode X9_lit.2.1 25 = .ok (.iload_n 1, 1) := by decide +kernel
theorem dd_X9_lit_26 : decode X9_lit.2.1 26 = .ok (.iadd, 1) := by decide +kernel
theorem dd_X9_lit_27 : decode X9_lit.2.1 27 = .ok (.iaload, 1) := by decide +kernel
theorem dd_X9_lit_28 : decode X9_lit.2.1 28 = .ok (.istore_n 3, 1) := by decide +kernel
theorem dd_X9_lit_29 : decode X9_lit.2.1 29 = .ok (.iload_n 3, 1) := by decide +kernel
theorem dd_X9_lit_30 : decode X9_lit.2.1 30 = .ok (.iload_n 2, 1) := by decide +kernel
theorem dd_X9_lit_31 : decode X9_lit.2.1 31 = .ok (.if_icmp .ne 6, 3) := by decide +kernel
theorem dd_X9_lit_34 : decode X9_lit.2.1 34 = .ok (.bipush (-4), 2) := by decide +kernel
theorem dd_X9_lit_36 : decode X9_lit.2.1 36 = .ok (.ireturn, 1) := by decide +kernel
theorem dd_X9_lit_37 : decode X9_lit.2.1 37 = .ok (.aload_n 0, 1) := by decide +kernel
theorem dd_X9_lit_38 : decode X9_lit.2.1 38 = .ok (.bipush 6, 2) := by decide +kernel
theorem dd_X9_lit_40 : decode X9_lit.2.1 40 = .ok (.iload_n 1, 1) := by decide +kernel
theorem dd_X9_lit_41 : decode X9_lit.2.1 41 = .ok (.iadd, 1) := by decide +kernel
theorem dd_X9_lit_42 : decode X9_lit.2.1 42 = .ok (.iload_n 2, 1) := by decide +kernel
theorem dd_X9_lit_43 : decode X9_lit.2.1 43 = .ok (.invokevirtual 231, 3) := by decide +kernel
theorem dd_X9_lit_46 : decode X9_lit.2.1 46 = .ok (.iload_n 3, 1) := by decide +kernel
theorem dd_X9_lit_47 : decode X9_lit.2.1 47 = .ok (.ireturn, 1) := by decide +kernel
theorem dd_X9_dark_0 : decode X9_dark.2.1 0 = .ok (.aload_n 0, 1) := by decide +kernel
theorem dd_X9_dark_1 : decode X9_dark.2.1 1 = .ok (.iload_n 1, 1) := by decide +kernel
theorem dd_X9_dark_2 : decode X9_dark.2.1 2 = .ok (.invokevirtual 224, 3) := by decide +kernel
theorem dd_X9_dark_5 : decode X9_dark.2.1 5 = .ok (.ifCond .ne 6, 3) := by decide +kernel
theorem dd_X9_dark_8 : decode X9_dark.2.1 8 = .ok (.bipush (-2), 2) := by decide +kernel
theorem dd_X9_dark_10 : decode X9_dark.2.1 10 = .ok (.ireturn, 1) := by decide +kernel
theorem dd_X9_dark_11 : decode X9_dark.2.1 11 = .ok (.aload_n 0, 1) := by decide +kernel
theorem dd_X9_dark_12 : decode X9_dark.2.1 12 = .ok (.getfield 7, 3) := by decide +kernel
theorem dd_X9_dark_15 : decode X9_dark.2.1 15 = .ok (.bipush 6, 2) := by decide +kernel
theorem dd_X9_dark_17 : decode X9_dark.2.1 17 = .ok (.iload_n 1, 1) := by decide +kernel
theorem dd_X9_dark_18 : decode X9_dark.2.1 18 = .ok (.iadd, 1) := by decide +kernel
theorem dd_X9_dark_19 : decode X9_dark.2.1 19 = .ok (.iaload, 1) := by decide +kernel
theorem dd_X9_dark_20 : decode X9_dark.2.1 20 = .ok (.istore_n 2, 1) := by decide +kernel
theorem dd_X9_dark_21 : decode X9_dark.2.1 21 = .ok (.iload_n 2, 1) := by decide +kernel
theorem dd_X9_dark_22 : decode X9_dark.2.1 22 = .ok (.iconst (-1), 1) := by decide +kernel
theorem dd_X9_dark_23 : decode X9_dark.2.1 23 = .ok (.if_icmp .ne 6, 3) := by decide +kernel
theorem dd_X9_dark_26 : decode X9_dark.2.1 26 = .ok (.bipush (-4), 2) := by decide +kernel
theorem dd_X9_dark_28 : decode X9_dark.2.1 28 = .ok (.ireturn, 1) := by decide +kernel
theorem dd_X9_dark_29 : decode X9_dark.2.1 29 = .ok (.aload_n 0, 1) := by decide +kernel
theorem dd_X9_dark_30 : decode X9_dark.2.1 30 = .ok (.bipush 6, 2) := by decide +kernel
theorem dd_X9_dark_32 : decode X9_dark.2.1 32 = .ok (.iload_n 1, 1) := by decide +kernel
theorem dd_X9_dark_33 : decode X9_dark.2.1 33 = .ok (.iadd, 1) := by decide +kernel
theorem dd_X9_dark_34 : decode X9_dark.2.1 34 = .ok (.iconst (-1), 1) := by decide +kernel
theorem dd_X9_dark_35 : decode X9_dark.2.1 35 = .ok (.invokevirtual 231, 3) := by decide +kernel
theorem dd_X9_dark_38 : decode X9_dark.2.1 38 = .ok (.iload_n 2, 1) := by decide +kernel
theorem dd_X9_dark_39 : decode X9_dark.2.1 39 = .ok (.ireturn, 1) := by decide +kernel
theorem dd_X9_move_0 : decode X9_move.2.1 0 = .ok (.aload_n 0, 1) := by decide +kernel
theorem dd_X9_move_1 : decode X9_move.2.1 1 = .ok (.iload_n 1, 1) := by decide +kernel
theorem dd_X9_move_2 : decode X9_move.2.1 2 = .ok (.invokevirtual 224, 3) := by decide +kernel
theorem dd_X9_move_5 : decode X9_move.2.1 5 = .ok (.ifCond .ne 6, 3) := by decide +kernel
theorem dd_X9_move_8 : decode X9_move.2.1 8 = .ok (.bipush (-2), 2) := by decide +kernel
theorem dd_X9_move_10 : decode X9_move.2.1 10 = .ok (.ireturn, 1) := by decide +kernel
theorem dd_X9_move_11 : decode X9_move.2.1 11 = .ok (.iload_n 2, 1) := by decide +kernel
theorem dd_X9_move_12 : decode X9_move.2.1 12 = .ok (.i2l, 1) := by decide +kernel
theorem dd_X9_move_13 : decode X9_move.2.1 13 = .ok (.lconst 0, 1) := by decide +kernel
theorem dd_X9_move_14 : decode X9_move.2.1 14 = .ok (.ldc2_w 234, 3) := by decide +kernel
theorem dd_X9_move_17 : decode X9_move.2.1 17 = .ok (.invokestatic 104, 3) := by decide +kernel
theorem dd_X9_move_20 : decode X9_move.2.1 20 = .ok (.ifCond .ne 6, 3) := by decide +kernel
theorem dd_X9_move_23 : decode X9_move.2.1 23 = .ok (.bipush (-3), 2) := by decide +kernel
theorem dd_X9_move_25 : decode X9_move.2.1 25 = .ok (.ireturn, 1) := by decide +kernel
theorem dd_X9_move_26 : decode X9_move.2.1 26 = .ok (.aload_n 0, 1) := by decide +kernel
theorem dd_X9_move_27 : decode X9_move.2.1 27 = .ok (.getfield 7, 3) := by decide +kernel
theorem dd_X9_move_30 : decode X9_move.2.1 30 = .ok (.iconst 0, 1) := by decide +kernel
theorem dd_X9_move_31 : decode X9_move.2.1 31 = .ok (.iload_n 1, 1) := by decide +kernel
theorem dd_X9_move_32 : decode X9_move.2.1 32 = .ok (.iadd, 1) := by decide +kernel
theorem dd_X9_move_33 : decode X9_move.2.1 33 = .ok (.iaload, 1) := by decide +kernel
theorem dd_X9_move_34 : decode X9_move.2.1 34 = .ok (.istore_n 3, 1) := by decide +kernel
theorem dd_X9_move_35 : decode X9_move.2.1 35 = .ok (.iload_n 3, 1) := by decide +kernel
theorem dd_X9_move_36 : decode X9_move.2.1 36 = .ok (.iload_n 2, 1) := by decide +kernel
theorem dd_X9_move_37 : decode X9_move.2.1 37 = .ok (.if_icmp .ne 6, 3) := by decide +kernel
theorem dd_X9_move_40 : decode X9_move.2.1 40 = .ok (.bipush (-4), 2) := by decide +kernel
theorem dd_X9_move_42 : decode X9_move.2.1 42 = .ok (.ireturn, 1) := by decide +kernel
theorem dd_X9_move_43 : decode X9_move.2.1 43 = .ok (.aload_n 0, 1) := by decide +kernel
theorem dd_X9_move_44 : decode X9_move.2.1 44 = .ok (.iconst 0, 1) := by decide +kernel
theorem dd_X9_move_45 : decode X9_move.2.1 45 = .ok (.iload_n 1, 1) := by decide +kernel
theorem dd_X9_move_46 : decode X9_move.2.1 46 = .ok (.iadd, 1) := by decide +kernel
theorem dd_X9_move_47 : decode X9_move.2.1 47 = .ok (.iload_n 2, 1) := by decide +kernel
theorem dd_X9_move_48 : decode X9_move.2.1 48 = .ok (.invokevirtual 231, 3) := by decide +kernel
theorem dd_X9_move_51 : decode X9_move.2.1 51 = .ok (.iload_n 3, 1) := by decide +kernel
theorem dd_X9_move_52 : decode X9_move.2.1 52 = .ok (.ireturn, 1) := by decide +kernel
theorem dd_X9_undo_0 : decode X9_undo.2.1 0 = .ok (.aload_n 0, 1) := by decide +kernel
theorem dd_X9_undo_1 : decode X9_undo.2.1 1 = .ok (.getfield 180, 3) := by decide +kernel
theorem dd_X9_undo_4 : decode X9_undo.2.1 4 = .ok (.ifCond .ne 6, 3) := by decide +kernel
theorem dd_X9_undo_7 : decode X9_undo.2.1 7 = .ok (.bipush (-4), 2) := by decide +kernel
theorem dd_X9_undo_9 : decode X9_undo.2.1 9 = .ok (.ireturn, 1) := by decide +kernel
theorem dd_X9_undo_10 : decode X9_undo.2.1 10 = .ok (.aload_n 0, 1) := by decide +kernel
theorem dd_X9_undo_11 : decode X9_undo.2.1 11 = .ok (.dup, 1) := by decide +kernel
theorem dd_X9_undo_12 : decode X9_undo.2.1 12 = .ok (.getfield 180, 3) := by decide +kernel
theorem dd_X9_undo_15 : decode X9_undo.2.1 15 = .ok (.iconst 1, 1) := by decide +kernel
theorem dd_X9_undo_16 : decode X9_undo.2.1 16 = .ok (.isub, 1) := by decide +kernel
theorem dd_X9_undo_17 : decode X9_undo.2.1 17 = .ok (.putfield 180, 3) := by decide +kernel
theorem dd_X9_undo_20 : decode X9_undo.2.1 20 = .ok (.aload_n 0, 1) := by decide +kernel
theorem dd_X9_undo_21 : decode X9_undo.2.1 21 = .ok (.bipush 12, 2) := by decide +kernel
theorem dd_X9_undo_23 : decode X9_undo.2.1 23 = .ok (.bipush 12, 2) := by decide +kernel
theorem dd_X9_undo_25 : decode X9_undo.2.1 25 = .ok (.aload_n 0, 1) := by decide +kernel
theorem dd_X9_undo_26 : decode X9_undo.2.1 26 = .ok (.getfield 180, 3) := by decide +kernel
theorem dd_X9_undo_29 : decode X9_undo.2.1 29 = .ok (.imul, 1) := by decide +kernel
theorem dd_X9_undo_30 : decode X9_undo.2.1 30 = .ok (.iadd, 1) := by decide +kernel
theorem dd_X9_undo_31 : decode X9_undo.2.1 31 = .ok (.iconst 0, 1) := by decide +kernel
theorem dd_X9_undo_32 : decode X9_undo.2.1 32 = .ok (.invokevirtual 82, 3) := by decide +kernel
theorem dd_X9_undo_35 : decode X9_undo.2.1 35 = .ok (.aload_n 0, 1) := by decide +kernel
theorem dd_X9_undo_36 : decode X9_undo.2.1 36 = .ok (.iconst 0, 1) := by decide +kernel
theorem dd_X9_undo_37 : decode X9_undo.2.1 37 = .ok (.putfield 183, 3) := by decide +kernel
theorem dd_X9_undo_40 : decode X9_undo.2.1 40 = .ok (.aload_n 0, 1) := by decide +kernel
theorem dd_X9_undo_41 : decode X9_undo.2.1 41 = .ok (.getfield 180, 3) := by decide +kernel
theorem dd_X9_undo_44 : decode X9_undo.2.1 44 = .ok (.ireturn, 1) := by decide +kernel
theorem dd_X9_litOnes_0 : decode X9_litOnes.2.1 0 = .ok (.iconst 0, 1) := by decide +kernel
theorem dd_X9_litOnes_1 : decode X9_litOnes.2.1 1 = .ok (.istore_n 1, 1) := by decide +kernel
theorem dd_X9_litOnes_2 : decode X9_litOnes.2.1 2 = .ok (.iconst 0, 1) := by decide +kernel
theorem dd_X9_litOnes_3 : decode X9_litOnes.2.1 3 = .ok (.istore_n 2, 1) := by decide +kernel
theorem dd_X9_litOnes_4 : decode X9_litOnes.2.1 4 = .ok (.iload_n 2, 1) := by decide +kernel
theorem dd_X9_litOnes_5 : decode X9_litOnes.2.1 5 = .ok (.aload_n 0, 1) := by decide +kernel
theorem dd_X9_litOnes_6 : decode X9_litOnes.2.1 6 = .ok (.getfield 99, 3) := by decide +kernel
theorem dd_X9_litOnes_9 : decode X9_litOnes.2.1 9 = .ok (.if_icmp .ge 32, 3) := by decide +kernel
theorem dd_X9_litOnes_12 : decode X9_litOnes.2.1 12 = .ok (.iload_n 1, 1) := by decide +kernel
theorem dd_X9_litOnes_13 : decode X9_litOnes.2.1 13 = .ok (.aload_n 0, 1) := by decide +kernel
theorem dd_X9_litOnes_14 : decode X9_litOnes.2.1 14 = .ok (.getfield 7, 3) := by decide +kernel
theorem dd_X9_litOnes_17 : decode X9_litOnes.2.1 17 = .ok (.bipush 6, 2) := by decide +kernel
theorem dd_X9_litOnes_19 : decode X9_litOnes.2.1 19 = .ok (.iload_n 2, 1) := by decide +kernel
theorem dd_X9_litOnes_20 : decode X9_litOnes.2.1 20 = .ok (.iadd, 1) := by decide +kernel
theorem dd_X9_litOnes_21 : decode X9_litOnes.2.1 21 = .ok (.iaload, 1) := by decide +kernel
theorem dd_X9_litOnes_22 : decode X9_litOnes.2.1 22 = .ok (.iconst (-1), 1) := by decide +kernel
theorem dd_X9_litOnes_23 : decode X9_litOnes.2.1 23 = .ok (.if_icmp .ne 7, 3) := by decide +kernel
theorem dd_X9_litOnes_26 : decode X9_litOnes.2.1 26 = .ok (.iconst 0, 1) := by decide +kernel
theorem dd_X9_litOnes_27 : decode X9_litOnes.2.1 27 = .ok (.goto 6, 3) := by decide +kernel
theorem dd_X9_litOnes_30 : decode X9_litOnes.2.1 30 = .ok (.iconst 1, 1) := by decide +kernel
theorem dd_X9_litOnes_31 : decode X9_litOnes.2.1 31 = .ok (.iload_n 2, 1) := by decide +kernel
theorem dd_X9_litOnes_32 : decode X9_litOnes.2.1 32 = .ok (.ishl, 1) := by decide +kernel
theorem dd_X9_litOnes_33 : decode X9_litOnes.2.1 33 = .ok (.ior, 1) := by decide +kernel
theorem dd_X9_litOnes_34 : decode X9_litOnes.2.1 34 = .ok (.istore_n 1, 1) := by decide +kernel
theorem dd_X9_litOnes_35 : decode X9_litOnes.2.1 35 = .ok (.iinc 2 1, 3) := by decide +kernel
theorem dd_X9_litOnes_38 : decode X9_litOnes.2.1 38 = .ok (.goto (-34), 3) := by decide +kernel
theorem dd_X9_litOnes_41 : decode X9_litOnes.2.1 41 = .ok (.iload_n 1, 1) := by decide +kernel
theorem dd_X9_litOnes_42 : decode X9_litOnes.2.1 42 = .ok (.ireturn, 1) := by decide +kernel
theorem dd_X9_keep_0 : decode X9_keep.2.1 0 = .ok (.iload_n 1, 1) := by decide +kernel
theorem dd_X9_keep_1 : decode X9_keep.2.1 1 = .ok (.i2l, 1) := by decide +kernel
theorem dd_X9_keep_2 : decode X9_keep.2.1 2 = .ok (.lconst 0, 1) := by decide +kernel
theorem dd_X9_keep_3 : decode X9_keep.2.1 3 = .ok (.lconst 1, 1) := by decide +kernel
theorem dd_X9_keep_4 : decode X9_keep.2.1 4 = .ok (.invokestatic 104, 3) := by decide +kernel
theorem dd_X9_keep_7 : decode X9_keep.2.1 7 = .ok (.ifCond .ne 6, 3) := by decide +kernel
theorem dd_X9_keep_10 : decode X9_keep.2.1 10 = .ok (.bipush (-2), 2) := by decide +kernel
theorem dd_X9_keep_12 : decode X9_keep.2.1 12 = .ok (.ireturn, 1) := by decide +kernel
theorem dd_X9_keep_13 : decode X9_keep.2.1 13 = .ok (.aload_n 0, 1) := by decide +kernel
theorem dd_X9_keep_14 : decode X9_keep.2.1 14 = .ok (.iconst 0, 1) := by decide +kernel
theorem dd_X9_keep_15 : decode X9_keep.2.1 15 = .ok (.bipush 108, 2) := by decide +kernel
theorem dd_X9_keep_17 : decode X9_keep.2.1 17 = .ok (.bipush 12, 2) := by decide +kernel
theorem dd_X9_keep_19 : decode X9_keep.2.1 19 = .ok (.iload_n 1, 1) := by decide +kernel
theorem dd_X9_keep_20 : decode X9_keep.2.1 20 = .ok (.imul, 1) := by decide +kernel
theorem dd_X9_keep_21 : decode X9_keep.2.1 21 = .ok (.iadd, 1) := by decide +kernel
theorem dd_X9_keep_22 : decode X9_keep.2.1 22 = .ok (.invokevirtual 82, 3) := by decide +kernel
theorem dd_X9_keep_25 : decode X9_keep.2.1 25 = .ok (.aload_n 0, 1) := by decide +kernel
theorem dd_X9_keep_26 : decode X9_keep.2.1 26 = .ok (.getfield 16, 3) := by decide +kernel
theorem dd_X9_keep_29 : decode X9_keep.2.1 29 = .ok (.iload_n 1, 1) := by decide +kernel
theorem dd_X9_keep_30 : decode X9_keep.2.1 30 = .ok (.iconst 1, 1) := by decide +kernel
theorem dd_X9_keep_31 : decode X9_keep.2.1 31 = .ok (.bastore, 1) := by decide +kernel
theorem dd_X9_keep_32 : decode X9_keep.2.1 32 = .ok (.aload_n 0, 1) := by decide +kernel
theorem dd_X9_keep_33 : decode X9_keep.2.1 33 = .ok (.invokevirtual 236, 3) := by decide +kernel
theorem dd_X9_keep_36 : decode X9_keep.2.1 36 = .ok (.invokestatic 190, 3) := by decide +kernel
theorem dd_X9_keep_39 : decode X9_keep.2.1 39 = .ok (.ireturn, 1) := by decide +kernel
theorem dd_X9_back_0 : decode X9_back.2.1 0 = .ok (.iload_n 1, 1) := by decide +kernel
theorem dd_X9_back_1 : decode X9_back.2.1 1 = .ok (.i2l, 1) := by decide +kernel
theorem dd_X9_back_2 : decode X9_back.2.1 2 = .ok (.lconst 0, 1) := by decide +kernel
theorem dd_X9_back_3 : decode X9_back.2.1 3 = .ok (.lconst 1, 1) := by decide +kernel
theorem dd_X9_back_4 : decode X9_back.2.1 4 = .ok (.invokestatic 104, 3) := by decide +kernel
theorem dd_X9_back_7 : decode X9_back.2.1 7 = .ok (.ifCond .ne 6, 3) := by decide +kernel
theorem dd_X9_back_10 : decode X9_back.2.1 10 = .ok (.bipush (-2), 2) := by decide +kernel
theorem dd_X9_back_12 : decode X9_back.2.1 12 = .ok (.ireturn, 1) := by decide +kernel
theorem dd_X9_back_13 : decode X9_back.2.1 13 = .ok (.aload_n 0, 1) := by decide +kernel
theorem dd_X9_back_14 : decode X9_back.2.1 14 = .ok (.getfield 16, 3) := by decide +kernel
theorem dd_X9_back_17 : decode X9_back.2.1 17 = .ok (.iload_n 1, 1) := by decide +kernel
theorem dd_X9_back_18 : decode X9_back.2.1 18 = .ok (.baload, 1) := by decide +kernel
theorem dd_X9_back_19 : decode X9_back.2.1 19 = .ok (.ifCond .ne 6, 3) := by decide +kernel
theorem dd_X9_back_22 : decode X9_back.2.1 22 = .ok (.bipush (-4), 2) := by decide +kernel
theorem dd_X9_back_24 : decode X9_back.2.1 24 = .ok (.ireturn, 1) := by decide +kernel
theorem dd_X9_back_25 : decode X9_back.2.1 25 = .ok (.aload_n 0, 1) := by decide +kernel
theorem dd_X9_back_26 : decode X9_back.2.1 26 = .ok (.bipush 108, 2) := by decide +kernel
theorem dd_X9_back_28 : decode X9_back.2.1 28 = .ok (.bipush 12, 2) := by decide +kernel
theorem dd_X9_back_30 : decode X9_back.2.1 30 = .ok (.iload_n 1, 1) := by decide +kernel
theorem dd_X9_back_31 : decode X9_back.2.1 31 = .ok (.imul, 1) := by decide +kernel
theorem dd_X9_back_32 : decode X9_back.2.1 32 = .ok (.iadd, 1) := by decide +kernel
theorem dd_X9_back_33 : decode X9_back.2.1 33 = .ok (.iconst 0, 1) := by decide +kernel
theorem dd_X9_back_34 : decode X9_back.2.1 34 = .ok (.invokevirtual 82, 3) := by decide +kernel
theorem dd_X9_back_37 : decode X9_back.2.1 37 = .ok (.aload_n 0, 1) := by decide +kernel
theorem dd_X9_back_38 : decode X9_back.2.1 38 = .ok (.iconst 0, 1) := by decide +kernel
theorem dd_X9_back_39 : decode X9_back.2.1 39 = .ok (.putfield 180, 3) := by decide +kernel
theorem dd_X9_back_42 : decode X9_back.2.1 42 = .ok (.aload_n 0, 1) := by decide +kernel
theorem dd_X9_back_43 : decode X9_back.2.1 43 = .ok (.iconst 0, 1) := by decide +kernel
theorem dd_X9_back_44 : decode X9_back.2.1 44 = .ok (.putfield 183, 3) := by decide +kernel
theorem dd_X9_back_47 : decode X9_back.2.1 47 = .ok (.aload_n 0, 1) := by decide +kernel
theorem dd_X9_back_48 : decode X9_back.2.1 48 = .ok (.invokevirtual 236, 3) := by decide +kernel
theorem dd_X9_back_51 : decode X9_back.2.1 51 = .ok (.invokestatic 190, 3) := by decide +kernel
theorem dd_X9_back_54 : decode X9_back.2.1 54 = .ok (.ireturn, 1) := by decide +kernel
theorem dd_X9_layBars_0 : decode X9_layBars.2.1 0 = .ok (.iconst 0, 1) := by decide +kernel
theorem dd_X9_layBars_1 : decode X9_layBars.2.1 1 = .ok (.istore_n 2, 1) := by decide +kernel
theorem dd_X9_layBars_2 : decode X9_layBars.2.1 2 = .ok (.iload_n 2, 1) := by decide +kernel
theorem dd_X9_layBars_3 : decode X9_layBars.2.1 3 = .ok (.aload_n 0, 1) := by decide +kernel
theorem dd_X9_layBars_4 : decode X9_layBars.2.1 4 = .ok (.getfield 96, 3) := by decide +kernel
theorem dd_X9_layBars_7 : decode X9_layBars.2.1 7 = .ok (.if_icmp .ge 62, 3) := by decide +kernel
theorem dd_X9_layBars_10 : decode X9_layBars.2.1 10 = .ok (.aload_n 0, 1) := by decide +kernel
theorem dd_X9_layBars_11 : decode X9_layBars.2.1 11 = .ok (.getfield 59, 3) := by decide +kernel
theorem dd_X9_layBars_14 : decode X9_layBars.2.1 14 = .ok (.iload_n 2, 1) := by decide +kernel
theorem dd_X9_layBars_15 : decode X9_layBars.2.1 15 = .ok (.iconst 0, 1) := by decide +kernel
theorem dd_X9_layBars_16 : decode X9_layBars.2.1 16 = .ok (.iastore, 1) := by decide +kernel
theorem dd_X9_layBars_17 : decode X9_layBars.2.1 17 = .ok (.iconst 0, 1) := by decide +kernel
theorem dd_X9_layBars_18 : decode X9_layBars.2.1 18 = .ok (.istore_n 3, 1) := by decide +kernel
theorem dd_X9_layBars_19 : decode X9_layBars.2.1 19 = .ok (.iload_n 3, 1) := by decide +kernel
theorem dd_X9_layBars_20 : decode X9_layBars.2.1 20 = .ok (.aload_n 0, 1) := by decide +kernel
theorem dd_X9_layBars_21 : decode X9_layBars.2.1 21 = .ok (.getfield 96, 3) := by decide +kernel
theorem dd_X9_layBars_24 : decode X9_layBars.2.1 24 = .ok (.if_icmp .ge 39, 3) := by decide +kernel
theorem dd_X9_layBars_27 : decode X9_layBars.2.1 27 = .ok (.aload_n 0, 1) := by decide +kernel
theorem dd_X9_layBars_28 : decode X9_layBars.2.1 28 = .ok (.getfield 59, 3) := by decide +kernel
theorem dd_X9_layBars_31 : decode X9_layBars.2.1 31 = .ok (.iload_n 2, 1) := by decide +kernel
theorem dd_X9_layBars_32 : decode X9_layBars.2.1 32 = .ok (.dup2, 1) := by decide +kernel
theorem dd_X9_layBars_33 : decode X9_layBars.2.1 33 = .ok (.iaload, 1) := by decide +kernel
theorem dd_X9_layBars_34 : decode X9_layBars.2.1 34 = .ok (.aload_n 0, 1) := by decide +kernel
theorem dd_X9_layBars_35 : decode X9_layBars.2.1 35 = .ok (.iload_n 2, 1) := by decide +kernel
theorem dd_X9_layBars_36 : decode X9_layBars.2.1 36 = .ok (.iload_n 3, 1) := by decide +kernel
theorem dd_X9_layBars_37 : decode X9_layBars.2.1 37 = .ok (.aload_n 0, 1) := by decide +kernel
theorem dd_X9_layBars_38 : decode X9_layBars.2.1 38 = .ok (.getfield 90, 3) := by decide +kernel
theorem dd_X9_layBars_41 : decode X9_layBars.2.1 41 = .ok (.iload_n 1, 1) := by decide +kernel
theorem dd_X9_layBars_42 : decode X9_layBars.2.1 42 = .ok (.invokevirtual 214, 3) := by decide +kernel
theorem dd_X9_layBars_45 : decode X9_layBars.2.1 45 = .ok (.ifCond .eq 9, 3) := by decide +kernel
theorem dd_X9_layBars_48 : decode X9_layBars.2.1 48 = .ok (.iconst 1, 1) := by decide +kernel
theorem dd_X9_layBars_49 : decode X9_layBars.2.1 49 = .ok (.iload_n 3, 1) := by decide +kernel
theorem dd_X9_layBars_50 : decode X9_layBars.2.1 50 = .ok (.ishl, 1) := by decide +kernel
theorem dd_X9_layBars_51 : decode X9_layBars.2.1 51 = .ok (.goto 4, 3) := by decide +kernel
theorem dd_X9_layBars_54 : decode X9_layBars.2.1 54 = .ok (.iconst 0, 1) := by decide +kernel
theorem dd_X9_layBars_55 : decode X9_layBars.2.1 55 = .ok (.ior, 1) := by decide +kernel
theorem dd_X9_layBars_56 : decode X9_layBars.2.1 56 = .ok (.iastore, 1) := by decide +kernel
theorem dd_X9_layBars_57 : decode X9_layBars.2.1 57 = .ok (.iinc 3 1, 3) := by decide +kernel
theorem dd_X9_layBars_60 : decode X9_layBars.2.1 60 = .ok (.goto (-41), 3) := by decide +kernel
theorem dd_X9_layBars_63 : decode X9_layBars.2.1 63 = .ok (.iinc 2 1, 3) := by decide +kernel
theorem dd_X9_layBars_66 : decode X9_layBars.2.1 66 = .ok (.goto (-64), 3) := by decide +kernel
theorem dd_X9_layBars_69 : decode X9_layBars.2.1 69 = .ok (.return_, 1) := by decide +kernel
theorem dd_X9_isPlan_0 : decode X9_isPlan.2.1 0 = .ok (.iconst 0, 1) := by decide +kernel
theorem dd_X9_isPlan_1 : decode X9_isPlan.2.1 1 = .ok (.istore_n 1, 1) := by decide +kernel
theorem dd_X9_isPlan_2 : decode X9_isPlan.2.1 2 = .ok (.iload_n 1, 1) := by decide +kernel
theorem dd_X9_isPlan_3 : decode X9_isPlan.2.1 3 = .ok (.aload_n 0, 1) := by decide +kernel
theorem dd_X9_isPlan_4 : decode X9_isPlan.2.1 4 = .ok (.getfield 99, 3) := by decide +kernel
theorem dd_X9_isPlan_7 : decode X9_isPlan.2.1 7 = .ok (.if_icmp .ge 56, 3) := by decide +kernel
theorem dd_X9_isPlan_10 : decode X9_isPlan.2.1 10 = .ok (.iconst 0, 1) := by decide +kernel
theorem dd_X9_isPlan_11 : decode X9_isPlan.2.1 11 = .ok (.istore_n 2, 1) := by decide +kernel
theorem dd_X9_isPlan_12 : decode X9_isPlan.2.1 12 = .ok (.iload_n 2, 1) := by decide +kernel
theorem dd_X9_isPlan_13 : decode X9_isPlan.2.1 13 = .ok (.iload_n 1, 1) := by decide +kernel
theorem dd_X9_isPlan_14 : decode X9_isPlan.2.1 14 = .ok (.if_icmp .ge 43, 3) := by decide +kernel
theorem dd_X9_isPlan_17 : decode X9_isPlan.2.1 17 = .ok (.aload_n 0, 1) := by decide +kernel
theorem dd_X9_isPlan_18 : decode X9_isPlan.2.1 18 = .ok (.iload_n 1, 1) := by decide +kernel
theorem dd_X9_isPlan_19 : decode X9_isPlan.2.1 19 = .ok (.iload_n 2, 1) := by decide +kernel
theorem dd_X9_isPlan_20 : decode X9_isPlan.2.1 20 = .ok (.invokevirtual 218, 3) := by decide +kernel
theorem dd_X9_isPlan_23 : decode X9_isPlan.2.1 23 = .ok (.ifCond .eq 28, 3) := by decide +kernel
theorem dd_X9_isPlan_26 : decode X9_isPlan.2.1 26 = .ok (.aload_n 0, 1) := by decide +kernel
theorem dd_X9_isPlan_27 : decode X9_isPlan.2.1 27 = .ok (.getfield 59, 3) := by decide +kernel
theorem dd_X9_isPlan_30 : decode X9_isPlan.2.1 30 = .ok (.aload_n 0, 1) := by decide +kernel
theorem dd_X9_isPlan_31 : decode X9_isPlan.2.1 31 = .ok (.getfield 62, 3) := by decide +kernel
theorem dd_X9_isPlan_34 : decode X9_isPlan.2.1 34 = .ok (.iload_n 1, 1) := by decide +kernel
theorem dd_X9_isPlan_35 : decode X9_isPlan.2.1 35 = .ok (.iaload, 1) := by decide +kernel
theorem dd_X9_isPlan_36 : decode X9_isPlan.2.1 36 = .ok (.iaload, 1) := by decide +kernel
theorem dd_X9_isPlan_37 : decode X9_isPlan.2.1 37 = .ok (.aload_n 0, 1) := by decide +kernel
theorem dd_X9_isPlan_38 : decode X9_isPlan.2.1 38 = .ok (.getfield 62, 3) := by decide +kernel
theorem dd_X9_isPlan_41 : decode X9_isPlan.2.1 41 = .ok (.iload_n 2, 1) := by decide +kernel
theorem dd_X9_isPlan_42 : decode X9_isPlan.2.1 42 = .ok (.iaload, 1) := by decide +kernel
theorem dd_X9_isPlan_43 : decode X9_isPlan.2.1 43 = .ok (.invokestatic 239, 3) := by decide +kernel
theorem dd_X9_isPlan_46 : decode X9_isPlan.2.1 46 = .ok (.ifCond .eq 5, 3) := by decide +kernel
theorem dd_X9_isPlan_49 : decode X9_isPlan.2.1 49 = .ok (.iconst 0, 1) := by decide +kernel
theorem dd_X9_isPlan_50 : decode X9_isPlan.2.1 50 = .ok (.ireturn, 1) := by decide +kernel
theorem dd_X9_isPlan_51 : decode X9_isPlan.2.1 51 = .ok (.iinc 2 1, 3) := by decide +kernel
theorem dd_X9_isPlan_54 : decode X9_isPlan.2.1 54 = .ok (.goto (-42), 3) := by decide +kernel
theorem dd_X9_isPlan_57 : decode X9_isPlan.2.1 57 = .ok (.iinc 1 1, 3) := by decide +kernel
theorem dd_X9_isPlan_60 : decode X9_isPlan.2.1 60 = .ok (.goto (-58), 3) := by decide +kernel
theorem dd_X9_isPlan_63 : decode X9_isPlan.2.1 63 = .ok (.iconst 1, 1) := by decide +kernel
theorem dd_X9_isPlan_64 : decode X9_isPlan.2.1 64 = .ok (.ireturn, 1) := by decide +kernel
theorem dd_X9_layPlan_0 : decode X9_layPlan.2.1 0 = .ok (.aload_n 0, 1) := by decide +kernel
theorem dd_X9_layPlan_1 : decode X9_layPlan.2.1 1 = .ok (.iload_n 1, 1) := by decide +kernel
theorem dd_X9_layPlan_2 : decode X9_layPlan.2.1 2 = .ok (.invokevirtual 242, 3) := by decide +kernel
theorem dd_X9_layPlan_5 : decode X9_layPlan.2.1 5 = .ok (.iconst 1, 1) := by decide +kernel
theorem dd_X9_layPlan_6 : decode X9_layPlan.2.1 6 = .ok (.istore_n 2, 1) := by decide +kernel
theorem dd_X9_layPlan_7 : decode X9_layPlan.2.1 7 = .ok (.iconst 0, 1) := by decide +kernel
theorem dd_X9_layPlan_8 : decode X9_layPlan.2.1 8 = .ok (.istore_n 3, 1) := by decide +kernel
theorem dd_X9_layPlan_9 : decode X9_layPlan.2.1 9 = .ok (.iload_n 3, 1) := by decide +kernel
theorem dd_X9_layPlan_10 : decode X9_layPlan.2.1 10 = .ok (.aload_n 0, 1) := by decide +kernel
theorem dd_X9_layPlan_11 : decode X9_layPlan.2.1 11 = .ok (.getfield 99, 3) := by decide +kernel
theorem dd_X9_layPlan_14 : decode X9_layPlan.2.1 14 = .ok (.if_icmp .ge 16, 3) := by decide +kernel
theorem dd_X9_layPlan_17 : decode X9_layPlan.2.1 17 = .ok (.iload_n 2, 1) := by decide +kernel
theorem dd_X9_layPlan_18 : decode X9_layPlan.2.1 18 = .ok (.aload_n 0, 1) := by decide +kernel
theorem dd_X9_layPlan_19 : decode X9_layPlan.2.1 19 = .ok (.getfield 96, 3) := by decide +kernel
theorem dd_X9_layPlan_22 : decode X9_layPlan.2.1 22 = .ok (.imul, 1) := by decide +kernel
theorem dd_X9_layPlan_23 : decode X9_layPlan.2.1 23 = .ok (.istore_n 2, 1) := by decide +kernel
theorem dd_X9_layPlan_24 : decode X9_layPlan.2.1 24 = .ok (.iinc 3 1, 3) := by decide +kernel
theorem dd_X9_layPlan_27 : decode X9_layPlan.2.1 27 = .ok (.goto (-18), 3) := by decide +kernel
theorem dd_X9_layPlan_30 : decode X9_layPlan.2.1 30 = .ok (.iconst (-1), 1) := by decide +kernel
theorem dd_X9_layPlan_31 : decode X9_layPlan.2.1 31 = .ok (.istore_n 3, 1) := by decide +kernel
theorem dd_X9_layPlan_32 : decode X9_layPlan.2.1 32 = .ok (.iconst 0, 1) := by decide +kernel
theorem dd_X9_layPlan_33 : decode X9_layPlan.2.1 33 = .ok (.istore 4, 2) := by decide +kernel
theorem dd_X9_layPlan_35 : decode X9_layPlan.2.1 35 = .ok (.iload 4, 2) := by decide +kernel
theorem dd_X9_layPlan_37 : decode X9_layPlan.2.1 37 = .ok (.iload_n 2, 1) := by decide +kernel
theorem dd_X9_layPlan_38 : decode X9_layPlan.2.1 38 = .ok (.if_icmp .ge 132, 3) := by decide +kernel
theorem dd_X9_layPlan_41 : decode X9_layPlan.2.1 41 = .ok (.iload 4, 2) := by decide +kernel
theorem dd_X9_layPlan_43 : decode X9_layPlan.2.1 43 = .ok (.istore 5, 2) := by decide +kernel
theorem dd_X9_layPlan_45 : decode X9_layPlan.2.1 45 = .ok (.iconst 0, 1) := by decide +kernel
theorem dd_X9_layPlan_46 : decode X9_layPlan.2.1 46 = .ok (.istore 6, 2) := by decide +kernel
theorem dd_X9_layPlan_48 : decode X9_layPlan.2.1 48 = .ok (.aload_n 0, 1) := by decide +kernel
theorem dd_X9_layPlan_49 : decode X9_layPlan.2.1 49 = .ok (.getfield 99, 3) := by decide +kernel
theorem dd_X9_layPlan_52 : decode X9_layPlan.2.1 52 = .ok (.iconst 1, 1) := by decide +kernel
theorem dd_X9_layPlan_53 : decode X9_layPlan.2.1 53 = .ok (.isub, 1) := by decide +kernel
theorem dd_X9_layPlan_54 : decode X9_layPlan.2.1 54 = .ok (.istore 7, 2) := by decide +kernel
theorem dd_X9_layPlan_56 : decode X9_layPlan.2.1 56 = .ok (.iload 7, 2) := by decide +kernel
theorem dd_X9_layPlan_58 : decode X9_layPlan.2.1 58 = .ok (.ifCond .lt 46, 3) := by decide +kernel
theorem dd_X9_layPlan_61 : decode X9_layPlan.2.1 61 = .ok (.aload_n 0, 1) := by decide +kernel
theorem dd_X9_layPlan_62 : decode X9_layPlan.2.1 62 = .ok (.getfield 62, 3) := by decide +kernel
theorem dd_X9_layPlan_65 : decode X9_layPlan.2.1 65 = .ok (.iload 7, 2) := by decide +kernel
theorem dd_X9_layPlan_67 : decode X9_layPlan.2.1 67 = .ok (.iload 5, 2) := by decide +kernel
theorem dd_X9_layPlan_69 : decode X9_layPlan.2.1 69 = .ok (.aload_n 0, 1) := by decide +kernel
theorem dd_X9_layPlan_70 : decode X9_layPlan.2.1 70 = .ok (.getfield 96, 3) := by decide +kernel
theorem dd_X9_layPlan_73 : decode X9_layPlan.2.1 73 = .ok (.irem, 1) := by decide +kernel
theorem dd_X9_layPlan_74 : decode X9_layPlan.2.1 74 = .ok (.iastore, 1) := by decide +kernel
theorem dd_X9_layPlan_75 : decode X9_layPlan.2.1 75 = .ok (.iload 5, 2) := by decide +kernel
theorem dd_X9_layPlan_77 : decode X9_layPlan.2.1 77 = .ok (.aload_n 0, 1) := by decide +kernel
theorem dd_X9_layPlan_78 : decode X9_layPlan.2.1 78 = .ok (.getfield 96, 3) := by decide +kernel
theorem dd_X9_layPlan_81 : decode X9_layPlan.2.1 81 = .ok (.idiv, 1) := by decide +kernel
theorem dd_X9_layPlan_82 : decode X9_layPlan.2.1 82 = .ok (.istore 5, 2) := by decide +kernel
theorem dd_X9_layPlan_84 : decode X9_layPlan.2.1 84 = .ok (.iload 6, 2) := by decide +kernel
theorem dd_X9_layPlan_86 : decode X9_layPlan.2.1 86 = .ok (.iconst 1, 1) := by decide +kernel
theorem dd_X9_layPlan_87 : decode X9_layPlan.2.1 87 = .ok (.aload_n 0, 1) := by decide +kernel
theorem dd_X9_layPlan_88 : decode X9_layPlan.2.1 88 = .ok (.getfield 62, 3) := by decide +kernel
theorem dd_X9_layPlan_91 : decode X9_layPlan.2.1 91 = .ok (.iload 7, 2) := by decide +kernel
theorem dd_X9_layPlan_93 : decode X9_layPlan.2.1 93 = .ok (.iaload, 1) := by decide +kernel
theorem dd_X9_layPlan_94 : decode X9_layPlan.2.1 94 = .ok (.ishl, 1) := by decide +kernel
theorem dd_X9_layPlan_95 : decode X9_layPlan.2.1 95 = .ok (.ior, 1) := by decide +kernel
theorem dd_X9_layPlan_96 : decode X9_layPlan.2.1 96 = .ok (.istore 6, 2) := by decide +kernel
theorem dd_X9_layPlan_98 : decode X9_layPlan.2.1 98 = .ok (.iinc 7 (-1), 3) := by decide +kernel
theorem dd_X9_layPlan_101 : decode X9_layPlan.2.1 101 = .ok (.goto (-45), 3) := by decide +kernel
theorem dd_X9_layPlan_104 : decode X9_layPlan.2.1 104 = .ok (.iload 6, 2) := by decide +kernel
theorem dd_X9_layPlan_106 : decode X9_layPlan.2.1 106 = .ok (.invokestatic 190, 3) := by decide +kernel
theorem dd_X9_layPlan_109 : decode X9_layPlan.2.1 109 = .ok (.istore 7, 2) := by decide +kernel
theorem dd_X9_layPlan_111 : decode X9_layPlan.2.1 111 = .ok (.iload_n 3, 1) := by decide +kernel
theorem dd_X9_layPlan_112 : decode X9_layPlan.2.1 112 = .ok (.iconst (-1), 1) := by decide +kernel
theorem dd_X9_layPlan_113 : decode X9_layPlan.2.1 113 = .ok (.if_icmp .eq 9, 3) := by decide +kernel
theorem dd_X9_layPlan_116 : decode X9_layPlan.2.1 116 = .ok (.iload 7, 2) := by decide +kernel
theorem dd_X9_layPlan_118 : decode X9_layPlan.2.1 118 = .ok (.iload_n 3, 1) := by decide +kernel
theorem dd_X9_layPlan_119 : decode X9_layPlan.2.1 119 = .ok (.if_icmp .ge 45, 3) := by decide +kernel
theorem dd_X9_layPlan_122 : decode X9_layPlan.2.1 122 = .ok (.aload_n 0, 1) := by decide +kernel
theorem dd_X9_layPlan_123 : decode X9_layPlan.2.1 123 = .ok (.invokevirtual 246, 3) := by decide +kernel
theorem dd_X9_layPlan_126 : decode X9_layPlan.2.1 126 = .ok (.ifCond .eq 38, 3) := by decide +kernel
theorem dd_X9_layPlan_129 : decode X9_layPlan.2.1 129 = .ok (.iload 7, 2) := by decide +kernel
theorem dd_X9_layPlan_131 : decode X9_layPlan.2.1 131 = .ok (.istore_n 3, 1) := by decide +kernel
theorem dd_X9_layPlan_132 : decode X9_layPlan.2.1 132 = .ok (.iconst 0, 1) := by decide +kernel
theorem dd_X9_layPlan_133 : decode X9_layPlan.2.1 133 = .ok (.istore 8, 2) := by decide +kernel
theorem dd_X9_layPlan_135 : decode X9_layPlan.2.1 135 = .ok (.iload 8, 2) := by decide +kernel
theorem dd_X9_layPlan_137 : decode X9_layPlan.2.1 137 = .ok (.aload_n 0, 1) := by decide +kernel
theorem dd_X9_layPlan_138 : decode X9_layPlan.2.1 138 = .ok (.getfield 99, 3) := by decide +kernel
theorem dd_X9_layPlan_141 : decode X9_layPlan.2.1 141 = .ok (.if_icmp .ge 23, 3) := by decide +kernel
theorem dd_X9_layPlan_144 : decode X9_layPlan.2.1 144 = .ok (.aload_n 0, 1) := by decide +kernel
theorem dd_X9_layPlan_145 : decode X9_layPlan.2.1 145 = .ok (.getfield 65, 3) := by decide +kernel
theorem dd_X9_layPlan_148 : decode X9_layPlan.2.1 148 = .ok (.iload 8, 2) := by decide +kernel
theorem dd_X9_layPlan_150 : decode X9_layPlan.2.1 150 = .ok (.aload_n 0, 1) := by decide +kernel
theorem dd_X9_layPlan_151 : decode X9_layPlan.2.1 151 = .ok (.getfield 62, 3) := by decide +kernel
theorem dd_X9_layPlan_154 : decode X9_layPlan.2.1 154 = .ok (.iload 8, 2) := by decide +kernel
theorem dd_X9_layPlan_156 : decode X9_layPlan.2.1 156 = .ok (.iaload, 1) := by decide +kernel
theorem dd_X9_layPlan_157 : decode X9_layPlan.2.1 157 = .ok (.iastore, 1) := by decide +kernel
theorem dd_X9_layPlan_158 : decode X9_layPlan.2.1 158 = .ok (.iinc 8 1, 3) := by decide +kernel
theorem dd_X9_layPlan_161 : decode X9_layPlan.2.1 161 = .ok (.goto (-26), 3) := by decide +kernel
theorem dd_X9_layPlan_164 : decode X9_layPlan.2.1 164 = .ok (.iinc 4 1, 3) := by decide +kernel
theorem dd_X9_layPlan_167 : decode X9_layPlan.2.1 167 = .ok (.goto (-132), 3) := by decide +kernel
theorem dd_X9_layPlan_170 : decode X9_layPlan.2.1 170 = .ok (.iload_n 3, 1) := by decide +kernel
theorem dd_X9_layPlan_171 : decode X9_layPlan.2.1 171 = .ok (.ireturn, 1) := by decide +kernel
theorem dd_X9_plan_0 : decode X9_plan.2.1 0 = .ok (.iload_n 2, 1) := by decide +kernel
theorem dd_X9_plan_1 : decode X9_plan.2.1 1 = .ok (.iconst (-1), 1) := by decide +kernel
theorem dd_X9_plan_2 : decode X9_plan.2.1 2 = .ok (.if_icmp .eq 14, 3) := by decide +kernel
theorem dd_X9_plan_5 : decode X9_plan.2.1 5 = .ok (.aload_n 0, 1) := by decide +kernel
theorem dd_X9_plan_6 : decode X9_plan.2.1 6 = .ok (.iload_n 2, 1) := by decide +kernel
theorem dd_X9_plan_7 : decode X9_plan.2.1 7 = .ok (.invokevirtual 224, 3) := by decide +kernel
theorem dd_X9_plan_10 : decode X9_plan.2.1 10 = .ok (.ifCond .ne 6, 3) := by decide +kernel
theorem dd_X9_plan_13 : decode X9_plan.2.1 13 = .ok (.bipush (-2), 2) := by decide +kernel
theorem dd_X9_plan_15 : decode X9_plan.2.1 15 = .ok (.ireturn, 1) := by decide +kernel
theorem dd_X9_plan_16 : decode X9_plan.2.1 16 = .ok (.iload_n 1, 1) := by decide +kernel
theorem dd_X9_plan_17 : decode X9_plan.2.1 17 = .ok (.i2l, 1) := by decide +kernel
theorem dd_X9_plan_18 : decode X9_plan.2.1 18 = .ok (.lconst 0, 1) := by decide +kernel
theorem dd_X9_plan_19 : decode X9_plan.2.1 19 = .ok (.lconst 1, 1) := by decide +kernel
theorem dd_X9_plan_20 : decode X9_plan.2.1 20 = .ok (.invokestatic 104, 3) := by decide +kernel
theorem dd_X9_plan_23 : decode X9_plan.2.1 23 = .ok (.ifCond .ne 6, 3) := by decide +kernel
theorem dd_X9_plan_26 : decode X9_plan.2.1 26 = .ok (.bipush (-3), 2) := by decide +kernel
theorem dd_X9_plan_28 : decode X9_plan.2.1 28 = .ok (.ireturn, 1) := by decide +kernel
theorem dd_X9_plan_29 : decode X9_plan.2.1 29 = .ok (.aload_n 0, 1) := by decide +kernel
theorem dd_X9_plan_30 : decode X9_plan.2.1 30 = .ok (.iload_n 1, 1) := by decide +kernel
theorem dd_X9_plan_31 : decode X9_plan.2.1 31 = .ok (.iconst 1, 1) := by decide +kernel
theorem dd_X9_plan_32 : decode X9_plan.2.1 32 = .ok (.if_icmp .ne 7, 3) := by decide +kernel
theorem dd_X9_plan_35 : decode X9_plan.2.1 35 = .ok (.iconst 1, 1) := by decide +kernel
theorem dd_X9_plan_36 : decode X9_plan.2.1 36 = .ok (.goto 4, 3) := by decide +kernel
theorem dd_X9_plan_39 : decode X9_plan.2.1 39 = .ok (.iconst 0, 1) := by decide +kernel
theorem dd_X9_plan_40 : decode X9_plan.2.1 40 = .ok (.invokevirtual 249, 3) := by decide +kernel
theorem dd_X9_plan_43 : decode X9_plan.2.1 43 = .ok (.istore_n 3, 1) := by decide +kernel
theorem dd_X9_plan_44 : decode X9_plan.2.1 44 = .ok (.iload_n 2, 1) := by decide +kernel
theorem dd_X9_plan_45 : decode X9_plan.2.1 45 = .ok (.iconst (-1), 1) := by decide +kernel
theorem dd_X9_plan_46 : decode X9_plan.2.1 46 = .ok (.if_icmp .eq 8, 3) := by decide +kernel
theorem dd_X9_plan_49 : decode X9_plan.2.1 49 = .ok (.iload_n 3, 1) := by decide +kernel
theorem dd_X9_plan_50 : decode X9_plan.2.1 50 = .ok (.iconst (-1), 1) := by decide +kernel
theorem dd_X9_plan_51 : decode X9_plan.2.1 51 = .ok (.if_icmp .ne 7, 3) := by decide +kernel
theorem dd_X9_plan_54 : decode X9_plan.2.1 54 = .ok (.iload_n 3, 1) := by decide +kernel
theorem dd_X9_plan_55 : decode X9_plan.2.1 55 = .ok (.goto 9, 3) := by decide +kernel
theorem dd_X9_plan_58 : decode X9_plan.2.1 58 = .ok (.aload_n 0, 1) := by decide +kernel
theorem dd_X9_plan_59 : decode X9_plan.2.1 59 = .ok (.getfield 65, 3) := by decide +kernel
theorem dd_X9_plan_62 : decode X9_plan.2.1 62 = .ok (.iload_n 2, 1) := by decide +kernel
theorem dd_X9_plan_63 : decode X9_plan.2.1 63 = .ok (.iaload, 1) := by decide +kernel
theorem dd_X9_plan_64 : decode X9_plan.2.1 64 = .ok (.ireturn, 1) := by decide +kernel
