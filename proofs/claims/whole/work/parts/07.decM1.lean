/-! DECODE ROWS, by program. -/
theorem dd_X9_most_0 : decode X9_most.2.1 0 = .ok (.iload_n 1, 1) := by decide +kernel
theorem dd_X9_most_1 : decode X9_most.2.1 1 = .ok (.i2l, 1) := by decide +kernel
theorem dd_X9_most_2 : decode X9_most.2.1 2 = .ok (.lconst 0, 1) := by decide +kernel
theorem dd_X9_most_3 : decode X9_most.2.1 3 = .ok (.lconst 1, 1) := by decide +kernel
theorem dd_X9_most_4 : decode X9_most.2.1 4 = .ok (.invokestatic 104, 3) := by decide +kernel
theorem dd_X9_most_7 : decode X9_most.2.1 7 = .ok (.ifCond .ne 6, 3) := by decide +kernel
theorem dd_X9_most_10 : decode X9_most.2.1 10 = .ok (.bipush (-3), 2) := by decide +kernel
theorem dd_X9_most_12 : decode X9_most.2.1 12 = .ok (.ireturn, 1) := by decide +kernel
theorem dd_X9_most_13 : decode X9_most.2.1 13 = .ok (.aload_n 0, 1) := by decide +kernel
theorem dd_X9_most_14 : decode X9_most.2.1 14 = .ok (.iload_n 1, 1) := by decide +kernel
theorem dd_X9_most_15 : decode X9_most.2.1 15 = .ok (.iconst 1, 1) := by decide +kernel
theorem dd_X9_most_16 : decode X9_most.2.1 16 = .ok (.if_icmp .ne 7, 3) := by decide +kernel
theorem dd_X9_most_19 : decode X9_most.2.1 19 = .ok (.iconst 1, 1) := by decide +kernel
theorem dd_X9_most_20 : decode X9_most.2.1 20 = .ok (.goto 4, 3) := by decide +kernel
theorem dd_X9_most_23 : decode X9_most.2.1 23 = .ok (.iconst 0, 1) := by decide +kernel
theorem dd_X9_most_24 : decode X9_most.2.1 24 = .ok (.invokevirtual 242, 3) := by decide +kernel
theorem dd_X9_most_27 : decode X9_most.2.1 27 = .ok (.iconst 0, 1) := by decide +kernel
theorem dd_X9_most_28 : decode X9_most.2.1 28 = .ok (.istore_n 2, 1) := by decide +kernel
theorem dd_X9_most_29 : decode X9_most.2.1 29 = .ok (.iconst 1, 1) := by decide +kernel
theorem dd_X9_most_30 : decode X9_most.2.1 30 = .ok (.istore_n 3, 1) := by decide +kernel
theorem dd_X9_most_31 : decode X9_most.2.1 31 = .ok (.iload_n 3, 1) := by decide +kernel
theorem dd_X9_most_32 : decode X9_most.2.1 32 = .ok (.iconst 1, 1) := by decide +kernel
theorem dd_X9_most_33 : decode X9_most.2.1 33 = .ok (.aload_n 0, 1) := by decide +kernel
theorem dd_X9_most_34 : decode X9_most.2.1 34 = .ok (.getfield 96, 3) := by decide +kernel
theorem dd_X9_most_37 : decode X9_most.2.1 37 = .ok (.ishl, 1) := by decide +kernel
theorem dd_X9_most_38 : decode X9_most.2.1 38 = .ok (.if_icmp .ge 92, 3) := by decide +kernel
theorem dd_X9_most_41 : decode X9_most.2.1 41 = .ok (.iconst 1, 1) := by decide +kernel
theorem dd_X9_most_42 : decode X9_most.2.1 42 = .ok (.istore 4, 2) := by decide +kernel
theorem dd_X9_most_44 : decode X9_most.2.1 44 = .ok (.iconst 0, 1) := by decide +kernel
theorem dd_X9_most_45 : decode X9_most.2.1 45 = .ok (.istore 5, 2) := by decide +kernel
theorem dd_X9_most_47 : decode X9_most.2.1 47 = .ok (.iload 5, 2) := by decide +kernel
theorem dd_X9_most_49 : decode X9_most.2.1 49 = .ok (.aload_n 0, 1) := by decide +kernel
theorem dd_X9_most_50 : decode X9_most.2.1 50 = .ok (.getfield 96, 3) := by decide +kernel
theorem dd_X9_most_53 : decode X9_most.2.1 53 = .ok (.if_icmp .ge 49, 3) := by decide +kernel
theorem dd_X9_most_56 : decode X9_most.2.1 56 = .ok (.iload 4, 2) := by decide +kernel
theorem dd_X9_most_58 : decode X9_most.2.1 58 = .ok (.ifCond .eq 35, 3) := by decide +kernel
theorem dd_X9_most_61 : decode X9_most.2.1 61 = .ok (.iload_n 3, 1) := by decide +kernel
theorem dd_X9_most_62 : decode X9_most.2.1 62 = .ok (.iload 5, 2) := by decide +kernel
theorem dd_X9_most_64 : decode X9_most.2.1 64 = .ok (.invokestatic 239, 3) := by decide +kernel
theorem dd_X9_most_67 : decode X9_most.2.1 67 = .ok (.ifCond .eq 22, 3) := by decide +kernel
theorem dd_X9_most_70 : decode X9_most.2.1 70 = .ok (.aload_n 0, 1) := by decide +kernel
theorem dd_X9_most_71 : decode X9_most.2.1 71 = .ok (.getfield 59, 3) := by decide +kernel
theorem dd_X9_most_74 : decode X9_most.2.1 74 = .ok (.iload 5, 2) := by decide +kernel
theorem dd_X9_most_76 : decode X9_most.2.1 76 = .ok (.iaload, 1) := by decide +kernel
theorem dd_X9_most_77 : decode X9_most.2.1 77 = .ok (.iload_n 3, 1) := by decide +kernel
theorem dd_X9_most_78 : decode X9_most.2.1 78 = .ok (.iand, 1) := by decide +kernel
theorem dd_X9_most_79 : decode X9_most.2.1 79 = .ok (.iconst 1, 1) := by decide +kernel
theorem dd_X9_most_80 : decode X9_most.2.1 80 = .ok (.iload 5, 2) := by decide +kernel
theorem dd_X9_most_82 : decode X9_most.2.1 82 = .ok (.ishl, 1) := by decide +kernel
theorem dd_X9_most_83 : decode X9_most.2.1 83 = .ok (.iconst (-1), 1) := by decide +kernel
theorem dd_X9_most_84 : decode X9_most.2.1 84 = .ok (.ixor, 1) := by decide +kernel
theorem dd_X9_most_85 : decode X9_most.2.1 85 = .ok (.iand, 1) := by decide +kernel
theorem dd_X9_most_86 : decode X9_most.2.1 86 = .ok (.ifCond .ne 7, 3) := by decide +kernel
theorem dd_X9_most_89 : decode X9_most.2.1 89 = .ok (.iconst 1, 1) := by decide +kernel
theorem dd_X9_most_90 : decode X9_most.2.1 90 = .ok (.goto 4, 3) := by decide +kernel
theorem dd_X9_most_93 : decode X9_most.2.1 93 = .ok (.iconst 0, 1) := by decide +kernel
theorem dd_X9_most_94 : decode X9_most.2.1 94 = .ok (.istore 4, 2) := by decide +kernel
theorem dd_X9_most_96 : decode X9_most.2.1 96 = .ok (.iinc 5 1, 3) := by decide +kernel
theorem dd_X9_most_99 : decode X9_most.2.1 99 = .ok (.goto (-52), 3) := by decide +kernel
theorem dd_X9_most_102 : decode X9_most.2.1 102 = .ok (.iload 4, 2) := by decide +kernel
theorem dd_X9_most_104 : decode X9_most.2.1 104 = .ok (.ifCond .eq 18, 3) := by decide +kernel
theorem dd_X9_most_107 : decode X9_most.2.1 107 = .ok (.iload_n 3, 1) := by decide +kernel
theorem dd_X9_most_108 : decode X9_most.2.1 108 = .ok (.invokestatic 190, 3) := by decide +kernel
theorem dd_X9_most_111 : decode X9_most.2.1 111 = .ok (.iload_n 2, 1) := by decide +kernel
theorem dd_X9_most_112 : decode X9_most.2.1 112 = .ok (.invokestatic 190, 3) := by decide +kernel
theorem dd_X9_most_115 : decode X9_most.2.1 115 = .ok (.if_icmp .le 7, 3) := by decide +kernel
theorem dd_X9_most_118 : decode X9_most.2.1 118 = .ok (.iload_n 3, 1) := by decide +kernel
theorem dd_X9_most_119 : decode X9_most.2.1 119 = .ok (.goto 4, 3) := by decide +kernel
theorem dd_X9_most_122 : decode X9_most.2.1 122 = .ok (.iload_n 2, 1) := by decide +kernel
theorem dd_X9_most_123 : decode X9_most.2.1 123 = .ok (.istore_n 2, 1) := by decide +kernel
theorem dd_X9_most_124 : decode X9_most.2.1 124 = .ok (.iinc 3 1, 3) := by decide +kernel
theorem dd_X9_most_127 : decode X9_most.2.1 127 = .ok (.goto (-96), 3) := by decide +kernel
theorem dd_X9_most_130 : decode X9_most.2.1 130 = .ok (.iload_n 2, 1) := by decide +kernel
theorem dd_X9_most_131 : decode X9_most.2.1 131 = .ok (.ireturn, 1) := by decide +kernel
theorem dd_X9_apart_0 : decode X9_apart.2.1 0 = .ok (.aload_n 0, 1) := by decide +kernel
theorem dd_X9_apart_1 : decode X9_apart.2.1 1 = .ok (.iload_n 1, 1) := by decide +kernel
theorem dd_X9_apart_2 : decode X9_apart.2.1 2 = .ok (.invokevirtual 198, 3) := by decide +kernel
theorem dd_X9_apart_5 : decode X9_apart.2.1 5 = .ok (.ifCond .eq 11, 3) := by decide +kernel
theorem dd_X9_apart_8 : decode X9_apart.2.1 8 = .ok (.aload_n 0, 1) := by decide +kernel
theorem dd_X9_apart_9 : decode X9_apart.2.1 9 = .ok (.iload_n 2, 1) := by decide +kernel
theorem dd_X9_apart_10 : decode X9_apart.2.1 10 = .ok (.invokevirtual 198, 3) := by decide +kernel
theorem dd_X9_apart_13 : decode X9_apart.2.1 13 = .ok (.ifCond .ne 6, 3) := by decide +kernel
theorem dd_X9_apart_16 : decode X9_apart.2.1 16 = .ok (.bipush (-2), 2) := by decide +kernel
theorem dd_X9_apart_18 : decode X9_apart.2.1 18 = .ok (.ireturn, 1) := by decide +kernel
theorem dd_X9_apart_19 : decode X9_apart.2.1 19 = .ok (.iconst 1, 1) := by decide +kernel
theorem dd_X9_apart_20 : decode X9_apart.2.1 20 = .ok (.istore_n 3, 1) := by decide +kernel
theorem dd_X9_apart_21 : decode X9_apart.2.1 21 = .ok (.iload_n 3, 1) := by decide +kernel
theorem dd_X9_apart_22 : decode X9_apart.2.1 22 = .ok (.aload_n 0, 1) := by decide +kernel
theorem dd_X9_apart_23 : decode X9_apart.2.1 23 = .ok (.getfield 86, 3) := by decide +kernel
theorem dd_X9_apart_26 : decode X9_apart.2.1 26 = .ok (.if_icmp .gt 22, 3) := by decide +kernel
theorem dd_X9_apart_29 : decode X9_apart.2.1 29 = .ok (.aload_n 0, 1) := by decide +kernel
theorem dd_X9_apart_30 : decode X9_apart.2.1 30 = .ok (.iload_n 1, 1) := by decide +kernel
theorem dd_X9_apart_31 : decode X9_apart.2.1 31 = .ok (.iload_n 2, 1) := by decide +kernel
theorem dd_X9_apart_32 : decode X9_apart.2.1 32 = .ok (.iload_n 3, 1) := by decide +kernel
theorem dd_X9_apart_33 : decode X9_apart.2.1 33 = .ok (.iconst 0, 1) := by decide +kernel
theorem dd_X9_apart_34 : decode X9_apart.2.1 34 = .ok (.invokevirtual 214, 3) := by decide +kernel
theorem dd_X9_apart_37 : decode X9_apart.2.1 37 = .ok (.ifCond .ne 5, 3) := by decide +kernel
theorem dd_X9_apart_40 : decode X9_apart.2.1 40 = .ok (.iload_n 3, 1) := by decide +kernel
theorem dd_X9_apart_41 : decode X9_apart.2.1 41 = .ok (.ireturn, 1) := by decide +kernel
theorem dd_X9_apart_42 : decode X9_apart.2.1 42 = .ok (.iinc 3 1, 3) := by decide +kernel
theorem dd_X9_apart_45 : decode X9_apart.2.1 45 = .ok (.goto (-24), 3) := by decide +kernel
theorem dd_X9_apart_48 : decode X9_apart.2.1 48 = .ok (.iconst (-1), 1) := by decide +kernel
theorem dd_X9_apart_49 : decode X9_apart.2.1 49 = .ok (.ireturn, 1) := by decide +kernel
theorem dd_X9_firstSet_0 : decode X9_firstSet.2.1 0 = .ok (.lconst 0, 1) := by decide +kernel
theorem dd_X9_firstSet_1 : decode X9_firstSet.2.1 1 = .ok (.lstore_n 2, 1) := by decide +kernel
theorem dd_X9_firstSet_2 : decode X9_firstSet.2.1 2 = .ok (.iconst 0, 1) := by decide +kernel
theorem dd_X9_firstSet_3 : decode X9_firstSet.2.1 3 = .ok (.istore 4, 2) := by decide +kernel
theorem dd_X9_firstSet_5 : decode X9_firstSet.2.1 5 = .ok (.iload 4, 2) := by decide +kernel
theorem dd_X9_firstSet_7 : decode X9_firstSet.2.1 7 = .ok (.aload_n 0, 1) := by decide +kernel
theorem dd_X9_firstSet_8 : decode X9_firstSet.2.1 8 = .ok (.getfield 99, 3) := by decide +kernel
theorem dd_X9_firstSet_11 : decode X9_firstSet.2.1 11 = .ok (.if_icmp .ge 83, 3) := by decide +kernel
theorem dd_X9_firstSet_14 : decode X9_firstSet.2.1 14 = .ok (.aload_n 0, 1) := by decide +kernel
theorem dd_X9_firstSet_15 : decode X9_firstSet.2.1 15 = .ok (.getfield 7, 3) := by decide +kernel
theorem dd_X9_firstSet_18 : decode X9_firstSet.2.1 18 = .ok (.bipush 6, 2) := by decide +kernel
theorem dd_X9_firstSet_20 : decode X9_firstSet.2.1 20 = .ok (.iload 4, 2) := by decide +kernel
theorem dd_X9_firstSet_22 : decode X9_firstSet.2.1 22 = .ok (.iadd, 1) := by decide +kernel
theorem dd_X9_firstSet_23 : decode X9_firstSet.2.1 23 = .ok (.iaload, 1) := by decide +kernel
theorem dd_X9_firstSet_24 : decode X9_firstSet.2.1 24 = .ok (.iconst (-1), 1) := by decide +kernel
theorem dd_X9_firstSet_25 : decode X9_firstSet.2.1 25 = .ok (.if_icmp .eq 63, 3) := by decide +kernel
theorem dd_X9_firstSet_28 : decode X9_firstSet.2.1 28 = .ok (.aload_n 0, 1) := by decide +kernel
theorem dd_X9_firstSet_29 : decode X9_firstSet.2.1 29 = .ok (.getfield 7, 3) := by decide +kernel
theorem dd_X9_firstSet_32 : decode X9_firstSet.2.1 32 = .ok (.iconst 0, 1) := by decide +kernel
theorem dd_X9_firstSet_33 : decode X9_firstSet.2.1 33 = .ok (.iload 4, 2) := by decide +kernel
theorem dd_X9_firstSet_35 : decode X9_firstSet.2.1 35 = .ok (.iadd, 1) := by decide +kernel
theorem dd_X9_firstSet_36 : decode X9_firstSet.2.1 36 = .ok (.iaload, 1) := by decide +kernel
theorem dd_X9_firstSet_37 : decode X9_firstSet.2.1 37 = .ok (.iload_n 1, 1) := by decide +kernel
theorem dd_X9_firstSet_38 : decode X9_firstSet.2.1 38 = .ok (.isub, 1) := by decide +kernel
theorem dd_X9_firstSet_39 : decode X9_firstSet.2.1 39 = .ok (.i2l, 1) := by decide +kernel
theorem dd_X9_firstSet_40 : decode X9_firstSet.2.1 40 = .ok (.aload_n 0, 1) := by decide +kernel
theorem dd_X9_firstSet_41 : decode X9_firstSet.2.1 41 = .ok (.getfield 93, 3) := by decide +kernel
theorem dd_X9_firstSet_44 : decode X9_firstSet.2.1 44 = .ok (.ineg, 1) := by decide +kernel
theorem dd_X9_firstSet_45 : decode X9_firstSet.2.1 45 = .ok (.i2l, 1) := by decide +kernel
theorem dd_X9_firstSet_46 : decode X9_firstSet.2.1 46 = .ok (.aload_n 0, 1) := by decide +kernel
theorem dd_X9_firstSet_47 : decode X9_firstSet.2.1 47 = .ok (.getfield 93, 3) := by decide +kernel
theorem dd_X9_firstSet_50 : decode X9_firstSet.2.1 50 = .ok (.i2l, 1) := by decide +kernel
theorem dd_X9_firstSet_51 : decode X9_firstSet.2.1 51 = .ok (.invokestatic 104, 3) := by decide +kernel
theorem dd_X9_firstSet_54 : decode X9_firstSet.2.1 54 = .ok (.ifCond .eq 34, 3) := by decide +kernel
theorem dd_X9_firstSet_57 : decode X9_firstSet.2.1 57 = .ok (.iconst 0, 1) := by decide +kernel
theorem dd_X9_firstSet_58 : decode X9_firstSet.2.1 58 = .ok (.istore 5, 2) := by decide +kernel
theorem dd_X9_firstSet_60 : decode X9_firstSet.2.1 60 = .ok (.iload 5, 2) := by decide +kernel
theorem dd_X9_firstSet_62 : decode X9_firstSet.2.1 62 = .ok (.aload_n 0, 1) := by decide +kernel
theorem dd_X9_firstSet_63 : decode X9_firstSet.2.1 63 = .ok (.getfield 86, 3) := by decide +kernel
theorem dd_X9_firstSet_66 : decode X9_firstSet.2.1 66 = .ok (.if_icmp .ge 22, 3) := by decide +kernel
theorem dd_X9_firstSet_69 : decode X9_firstSet.2.1 69 = .ok (.lload_n 2, 1) := by decide +kernel
theorem dd_X9_firstSet_70 : decode X9_firstSet.2.1 70 = .ok (.lconst 1, 1) := by decide +kernel
theorem dd_X9_firstSet_71 : decode X9_firstSet.2.1 71 = .ok (.bipush 8, 2) := by decide +kernel
theorem dd_X9_firstSet_73 : decode X9_firstSet.2.1 73 = .ok (.iload 4, 2) := by decide +kernel
theorem dd_X9_firstSet_75 : decode X9_firstSet.2.1 75 = .ok (.imul, 1) := by decide +kernel
theorem dd_X9_firstSet_76 : decode X9_firstSet.2.1 76 = .ok (.iload 5, 2) := by decide +kernel
theorem dd_X9_firstSet_78 : decode X9_firstSet.2.1 78 = .ok (.iadd, 1) := by decide +kernel
theorem dd_X9_firstSet_79 : decode X9_firstSet.2.1 79 = .ok (.lshl, 1) := by decide +kernel
theorem dd_X9_firstSet_80 : decode X9_firstSet.2.1 80 = .ok (.lor, 1) := by decide +kernel
theorem dd_X9_firstSet_81 : decode X9_firstSet.2.1 81 = .ok (.lstore_n 2, 1) := by decide +kernel
theorem dd_X9_firstSet_82 : decode X9_firstSet.2.1 82 = .ok (.iinc 5 1, 3) := by decide +kernel
theorem dd_X9_firstSet_85 : decode X9_firstSet.2.1 85 = .ok (.goto (-25), 3) := by decide +kernel
theorem dd_X9_firstSet_88 : decode X9_firstSet.2.1 88 = .ok (.iinc 4 1, 3) := by decide +kernel
theorem dd_X9_firstSet_91 : decode X9_firstSet.2.1 91 = .ok (.goto (-86), 3) := by decide +kernel
theorem dd_X9_firstSet_94 : decode X9_firstSet.2.1 94 = .ok (.lload_n 2, 1) := by decide +kernel
theorem dd_X9_firstSet_95 : decode X9_firstSet.2.1 95 = .ok (.lreturn, 1) := by decide +kernel
theorem dd_X9_becomes_0 : decode X9_becomes.2.1 0 = .ok (.lconst 0, 1) := by decide +kernel
theorem dd_X9_becomes_1 : decode X9_becomes.2.1 1 = .ok (.lstore 4, 2) := by decide +kernel
theorem dd_X9_becomes_3 : decode X9_becomes.2.1 3 = .ok (.iconst 0, 1) := by decide +kernel
theorem dd_X9_becomes_4 : decode X9_becomes.2.1 4 = .ok (.istore 6, 2) := by decide +kernel
theorem dd_X9_becomes_6 : decode X9_becomes.2.1 6 = .ok (.iload 6, 2) := by decide +kernel
theorem dd_X9_becomes_8 : decode X9_becomes.2.1 8 = .ok (.bipush 48, 2) := by decide +kernel
theorem dd_X9_becomes_10 : decode X9_becomes.2.1 10 = .ok (.if_icmp .ge 76, 3) := by decide +kernel
theorem dd_X9_becomes_13 : decode X9_becomes.2.1 13 = .ok (.iload 6, 2) := by decide +kernel
theorem dd_X9_becomes_15 : decode X9_becomes.2.1 15 = .ok (.bipush 8, 2) := by decide +kernel
theorem dd_X9_becomes_17 : decode X9_becomes.2.1 17 = .ok (.idiv, 1) := by decide +kernel
theorem dd_X9_becomes_18 : decode X9_becomes.2.1 18 = .ok (.istore 7, 2) := by decide +kernel
theorem dd_X9_becomes_20 : decode X9_becomes.2.1 20 = .ok (.iload 6, 2) := by decide +kernel
theorem dd_X9_becomes_22 : decode X9_becomes.2.1 22 = .ok (.bipush 8, 2) := by decide +kernel
theorem dd_X9_becomes_24 : decode X9_becomes.2.1 24 = .ok (.irem, 1) := by decide +kernel
theorem dd_X9_becomes_25 : decode X9_becomes.2.1 25 = .ok (.istore 8, 2) := by decide +kernel
theorem dd_X9_becomes_27 : decode X9_becomes.2.1 27 = .ok (.lload_n 1, 1) := by decide +kernel
theorem dd_X9_becomes_28 : decode X9_becomes.2.1 28 = .ok (.iload 6, 2) := by decide +kernel
theorem dd_X9_becomes_30 : decode X9_becomes.2.1 30 = .ok (.lshr, 1) := by decide +kernel
theorem dd_X9_becomes_31 : decode X9_becomes.2.1 31 = .ok (.lconst 1, 1) := by decide +kernel
theorem dd_X9_becomes_32 : decode X9_becomes.2.1 32 = .ok (.land, 1) := by decide +kernel
theorem dd_X9_becomes_33 : decode X9_becomes.2.1 33 = .ok (.lconst 1, 1) := by decide +kernel
theorem dd_X9_becomes_34 : decode X9_becomes.2.1 34 = .ok (.lcmp, 1) := by decide +kernel
theorem dd_X9_becomes_35 : decode X9_becomes.2.1 35 = .ok (.ifCond .ne 45, 3) := by decide +kernel
theorem dd_X9_becomes_38 : decode X9_becomes.2.1 38 = .ok (.aload_n 0, 1) := by decide +kernel
theorem dd_X9_becomes_39 : decode X9_becomes.2.1 39 = .ok (.aload_n 0, 1) := by decide +kernel
theorem dd_X9_becomes_40 : decode X9_becomes.2.1 40 = .ok (.getfield 7, 3) := by decide +kernel
theorem dd_X9_becomes_43 : decode X9_becomes.2.1 43 = .ok (.bipush 6, 2) := by decide +kernel
theorem dd_X9_becomes_45 : decode X9_becomes.2.1 45 = .ok (.iload 7, 2) := by decide +kernel
theorem dd_X9_becomes_47 : decode X9_becomes.2.1 47 = .ok (.iadd, 1) := by decide +kernel
theorem dd_X9_becomes_48 : decode X9_becomes.2.1 48 = .ok (.iaload, 1) := by decide +kernel
theorem dd_X9_becomes_49 : decode X9_becomes.2.1 49 = .ok (.iload 8, 2) := by decide +kernel
theorem dd_X9_becomes_51 : decode X9_becomes.2.1 51 = .ok (.invokevirtual 186, 3) := by decide +kernel
theorem dd_X9_becomes_54 : decode X9_becomes.2.1 54 = .ok (.iload_n 3, 1) := by decide +kernel
theorem dd_X9_becomes_55 : decode X9_becomes.2.1 55 = .ok (.if_icmp .ne 25, 3) := by decide +kernel
theorem dd_X9_becomes_58 : decode X9_becomes.2.1 58 = .ok (.lload 4, 2) := by decide +kernel
theorem dd_X9_becomes_60 : decode X9_becomes.2.1 60 = .ok (.lconst 1, 1) := by decide +kernel
theorem dd_X9_becomes_61 : decode X9_becomes.2.1 61 = .ok (.bipush 8, 2) := by decide +kernel
theorem dd_X9_becomes_63 : decode X9_becomes.2.1 63 = .ok (.iload 7, 2) := by decide +kernel
theorem dd_X9_becomes_65 : decode X9_becomes.2.1 65 = .ok (.imul, 1) := by decide +kernel
theorem dd_X9_becomes_66 : decode X9_becomes.2.1 66 = .ok (.iload 8, 2) := by decide +kernel
theorem dd_X9_becomes_68 : decode X9_becomes.2.1 68 = .ok (.iconst 1, 1) := by decide +kernel
theorem dd_X9_becomes_69 : decode X9_becomes.2.1 69 = .ok (.iadd, 1) := by decide +kernel
theorem dd_X9_becomes_70 : decode X9_becomes.2.1 70 = .ok (.aload_n 0, 1) := by decide +kernel
theorem dd_X9_becomes_71 : decode X9_becomes.2.1 71 = .ok (.getfield 86, 3) := by decide +kernel
theorem dd_X9_becomes_74 : decode X9_becomes.2.1 74 = .ok (.irem, 1) := by decide +kernel
theorem dd_X9_becomes_75 : decode X9_becomes.2.1 75 = .ok (.iadd, 1) := by decide +kernel
theorem dd_X9_becomes_76 : decode X9_becomes.2.1 76 = .ok (.lshl, 1) := by decide +kernel
theorem dd_X9_becomes_77 : decode X9_becomes.2.1 77 = .ok (.lor, 1) := by decide +kernel
theorem dd_X9_becomes_78 : decode X9_becomes.2.1 78 = .ok (.lstore 4, 2) := by decide +kernel
theorem dd_X9_becomes_80 : decode X9_becomes.2.1 80 = .ok (.iinc 6 1, 3) := by decide +kernel
theorem dd_X9_becomes_83 : decode X9_becomes.2.1 83 = .ok (.goto (-77), 3) := by decide +kernel
theorem dd_X9_becomes_86 : decode X9_becomes.2.1 86 = .ok (.lload 4, 2) := by decide +kernel
theorem dd_X9_becomes_88 : decode X9_becomes.2.1 88 = .ok (.lreturn, 1) := by decide +kernel
theorem dd_X9_statesOf_0 : decode X9_statesOf.2.1 0 = .ok (.aload_n 0, 1) := by decide +kernel
theorem dd_X9_statesOf_1 : decode X9_statesOf.2.1 1 = .ok (.getfield 68, 3) := by decide +kernel
theorem dd_X9_statesOf_4 : decode X9_statesOf.2.1 4 = .ok (.iconst 0, 1) := by decide +kernel
theorem dd_X9_statesOf_5 : decode X9_statesOf.2.1 5 = .ok (.aload_n 0, 1) := by decide +kernel
theorem dd_X9_statesOf_6 : decode X9_statesOf.2.1 6 = .ok (.iload_n 1, 1) := by decide +kernel
theorem dd_X9_statesOf_7 : decode X9_statesOf.2.1 7 = .ok (.invokevirtual 253, 3) := by decide +kernel
theorem dd_X9_statesOf_10 : decode X9_statesOf.2.1 10 = .ok (.lastore, 1) := by decide +kernel
theorem dd_X9_statesOf_11 : decode X9_statesOf.2.1 11 = .ok (.aload_n 0, 1) := by decide +kernel
theorem dd_X9_statesOf_12 : decode X9_statesOf.2.1 12 = .ok (.getfield 68, 3) := by decide +kernel
theorem dd_X9_statesOf_15 : decode X9_statesOf.2.1 15 = .ok (.iconst 0, 1) := by decide +kernel
theorem dd_X9_statesOf_16 : decode X9_statesOf.2.1 16 = .ok (.laload, 1) := by decide +kernel
theorem dd_X9_statesOf_17 : decode X9_statesOf.2.1 17 = .ok (.lconst 0, 1) := by decide +kernel
theorem dd_X9_statesOf_18 : decode X9_statesOf.2.1 18 = .ok (.lcmp, 1) := by decide +kernel
theorem dd_X9_statesOf_19 : decode X9_statesOf.2.1 19 = .ok (.ifCond .ne 7, 3) := by decide +kernel
theorem dd_X9_statesOf_22 : decode X9_statesOf.2.1 22 = .ok (.iconst 0, 1) := by decide +kernel
theorem dd_X9_statesOf_23 : decode X9_statesOf.2.1 23 = .ok (.goto 4, 3) := by decide +kernel
theorem dd_X9_statesOf_26 : decode X9_statesOf.2.1 26 = .ok (.iconst 1, 1) := by decide +kernel
theorem dd_X9_statesOf_27 : decode X9_statesOf.2.1 27 = .ok (.istore_n 2, 1) := by decide +kernel
theorem dd_X9_statesOf_28 : decode X9_statesOf.2.1 28 = .ok (.iconst 0, 1) := by decide +kernel
theorem dd_X9_statesOf_29 : decode X9_statesOf.2.1 29 = .ok (.istore_n 3, 1) := by decide +kernel
theorem dd_X9_statesOf_30 : decode X9_statesOf.2.1 30 = .ok (.iload_n 3, 1) := by decide +kernel
theorem dd_X9_statesOf_31 : decode X9_statesOf.2.1 31 = .ok (.iload_n 2, 1) := by decide +kernel
theorem dd_X9_statesOf_32 : decode X9_statesOf.2.1 32 = .ok (.if_icmp .ge 108, 3) := by decide +kernel
theorem dd_X9_statesOf_35 : decode X9_statesOf.2.1 35 = .ok (.iconst 0, 1) := by decide +kernel
theorem dd_X9_statesOf_36 : decode X9_statesOf.2.1 36 = .ok (.istore 4, 2) := by decide +kernel
theorem dd_X9_statesOf_38 : decode X9_statesOf.2.1 38 = .ok (.iload 4, 2) := by decide +kernel
theorem dd_X9_statesOf_40 : decode X9_statesOf.2.1 40 = .ok (.iconst 2, 1) := by decide +kernel
theorem dd_X9_statesOf_41 : decode X9_statesOf.2.1 41 = .ok (.if_icmp .ge 93, 3) := by decide +kernel
theorem dd_X9_statesOf_44 : decode X9_statesOf.2.1 44 = .ok (.aload_n 0, 1) := by decide +kernel
theorem dd_X9_statesOf_45 : decode X9_statesOf.2.1 45 = .ok (.aload_n 0, 1) := by decide +kernel
theorem dd_X9_statesOf_46 : decode X9_statesOf.2.1 46 = .ok (.getfield 68, 3) := by decide +kernel
theorem dd_X9_statesOf_49 : decode X9_statesOf.2.1 49 = .ok (.iload_n 3, 1) := by decide +kernel
theorem dd_X9_statesOf_50 : decode X9_statesOf.2.1 50 = .ok (.laload, 1) := by decide +kernel
theorem dd_X9_statesOf_51 : decode X9_statesOf.2.1 51 = .ok (.iload 4, 2) := by decide +kernel
theorem dd_X9_statesOf_53 : decode X9_statesOf.2.1 53 = .ok (.invokevirtual 257, 3) := by decide +kernel
theorem dd_X9_statesOf_56 : decode X9_statesOf.2.1 56 = .ok (.lstore 5, 2) := by decide +kernel
theorem dd_X9_statesOf_58 : decode X9_statesOf.2.1 58 = .ok (.lload 5, 2) := by decide +kernel
theorem dd_X9_statesOf_60 : decode X9_statesOf.2.1 60 = .ok (.lconst 0, 1) := by decide +kernel
theorem dd_X9_statesOf_61 : decode X9_statesOf.2.1 61 = .ok (.lcmp, 1) := by decide +kernel
theorem dd_X9_statesOf_62 : decode X9_statesOf.2.1 62 = .ok (.ifCond .eq 7, 3) := by decide +kernel
theorem dd_X9_statesOf_65 : decode X9_statesOf.2.1 65 = .ok (.iconst 1, 1) := by decide +kernel
theorem dd_X9_statesOf_66 : decode X9_statesOf.2.1 66 = .ok (.goto 4, 3) := by decide +kernel
theorem dd_X9_statesOf_69 : decode X9_statesOf.2.1 69 = .ok (.iconst 0, 1) := by decide +kernel
theorem dd_X9_statesOf_70 : decode X9_statesOf.2.1 70 = .ok (.istore 7, 2) := by decide +kernel
theorem dd_X9_statesOf_72 : decode X9_statesOf.2.1 72 = .ok (.iconst 0, 1) := by decide +kernel
theorem dd_X9_statesOf_73 : decode X9_statesOf.2.1 73 = .ok (.istore 8, 2) := by decide +kernel
theorem dd_X9_statesOf_75 : decode X9_statesOf.2.1 75 = .ok (.iload 8, 2) := by decide +kernel
theorem dd_X9_statesOf_77 : decode X9_statesOf.2.1 77 = .ok (.iload_n 2, 1) := by decide +kernel
theorem dd_X9_statesOf_78 : decode X9_statesOf.2.1 78 = .ok (.if_icmp .ge 34, 3) := by decide +kernel
theorem dd_X9_statesOf_81 : decode X9_statesOf.2.1 81 = .ok (.iload 7, 2) := by decide +kernel
theorem dd_X9_statesOf_83 : decode X9_statesOf.2.1 83 = .ok (.ifCond .eq 29, 3) := by decide +kernel
theorem dd_X9_statesOf_86 : decode X9_statesOf.2.1 86 = .ok (.aload_n 0, 1) := by decide +kernel
theorem dd_X9_statesOf_87 : decode X9_statesOf.2.1 87 = .ok (.getfield 68, 3) := by decide +kernel
theorem dd_X9_statesOf_90 : decode X9_statesOf.2.1 90 = .ok (.iload 8, 2) := by decide +kernel
theorem dd_X9_statesOf_92 : decode X9_statesOf.2.1 92 = .ok (.laload, 1) := by decide +kernel
theorem dd_X9_statesOf_93 : decode X9_statesOf.2.1 93 = .ok (.lload 5, 2) := by decide +kernel
theorem dd_X9_statesOf_95 : decode X9_statesOf.2.1 95 = .ok (.lcmp, 1) := by decide +kernel
theorem dd_X9_statesOf_96 : decode X9_statesOf.2.1 96 = .ok (.ifCond .eq 7, 3) := by decide +kernel
theorem dd_X9_statesOf_99 : decode X9_statesOf.2.1 99 = .ok (.iconst 1, 1) := by decide +kernel
theorem dd_X9_statesOf_100 : decode X9_statesOf.2.1 100 = .ok (.goto 4, 3) := by decide +kernel
theorem dd_X9_statesOf_103 : decode X9_statesOf.2.1 103 = .ok (.iconst 0, 1) := by decide +kernel
theorem dd_X9_statesOf_104 : decode X9_statesOf.2.1 104 = .ok (.istore 7, 2) := by decide +kernel
theorem dd_X9_statesOf_106 : decode X9_statesOf.2.1 106 = .ok (.iinc 8 1, 3) := by decide +kernel
theorem dd_X9_statesOf_109 : decode X9_statesOf.2.1 109 = .ok (.goto (-34), 3) := by decide +kernel
theorem dd_X9_statesOf_112 : decode X9_statesOf.2.1 112 = .ok (.iload 7, 2) := by decide +kernel
theorem dd_X9_statesOf_114 : decode X9_statesOf.2.1 114 = .ok (.ifCond .eq 14, 3) := by decide +kernel
theorem dd_X9_statesOf_117 : decode X9_statesOf.2.1 117 = .ok (.aload_n 0, 1) := by decide +kernel
theorem dd_X9_statesOf_118 : decode X9_statesOf.2.1 118 = .ok (.getfield 68, 3) := by decide +kernel
theorem dd_X9_statesOf_121 : decode X9_statesOf.2.1 121 = .ok (.iload_n 2, 1) := by decide +kernel
theorem dd_X9_statesOf_122 : decode X9_statesOf.2.1 122 = .ok (.lload 5, 2) := by decide +kernel
theorem dd_X9_statesOf_124 : decode X9_statesOf.2.1 124 = .ok (.lastore, 1) := by decide +kernel
theorem dd_X9_statesOf_125 : decode X9_statesOf.2.1 125 = .ok (.iinc 2 1, 3) := by decide +kernel
theorem dd_X9_statesOf_128 : decode X9_statesOf.2.1 128 = .ok (.iinc 4 1, 3) := by decide +kernel
theorem dd_X9_statesOf_131 : decode X9_statesOf.2.1 131 = .ok (.goto (-93), 3) := by decide +kernel
theorem dd_X9_statesOf_134 : decode X9_statesOf.2.1 134 = .ok (.iinc 3 1, 3) := by decide +kernel
theorem dd_X9_statesOf_137 : decode X9_statesOf.2.1 137 = .ok (.goto (-107), 3) := by decide +kernel
theorem dd_X9_statesOf_140 : decode X9_statesOf.2.1 140 = .ok (.iload_n 2, 1) := by decide +kernel
theorem dd_X9_statesOf_141 : decode X9_statesOf.2.1 141 = .ok (.ireturn, 1) := by decide +kernel
theorem dd_X9_isOfOne_0 : decode X9_isOfOne.2.1 0 = .ok (.iconst 0, 1) := by decide +kernel
theorem dd_X9_isOfOne_1 : decode X9_isOfOne.2.1 1 = .ok (.istore_n 2, 1) := by decide +kernel
theorem dd_X9_isOfOne_2 : decode X9_isOfOne.2.1 2 = .ok (.iconst 0, 1) := by decide +kernel
theorem dd_X9_isOfOne_3 : decode X9_isOfOne.2.1 3 = .ok (.istore_n 3, 1) := by decide +kernel
theorem dd_X9_isOfOne_4 : decode X9_isOfOne.2.1 4 = .ok (.iload_n 3, 1) := by decide +kernel
theorem dd_X9_isOfOne_5 : decode X9_isOfOne.2.1 5 = .ok (.bipush 6, 2) := by decide +kernel
theorem dd_X9_isOfOne_7 : decode X9_isOfOne.2.1 7 = .ok (.if_icmp .ge 32, 3) := by decide +kernel
theorem dd_X9_isOfOne_10 : decode X9_isOfOne.2.1 10 = .ok (.iload_n 2, 1) := by decide +kernel
theorem dd_X9_isOfOne_11 : decode X9_isOfOne.2.1 11 = .ok (.lload_n 0, 1) := by decide +kernel
theorem dd_X9_isOfOne_12 : decode X9_isOfOne.2.1 12 = .ok (.bipush 8, 2) := by decide +kernel
theorem dd_X9_isOfOne_14 : decode X9_isOfOne.2.1 14 = .ok (.iload_n 3, 1) := by decide +kernel
theorem dd_X9_isOfOne_15 : decode X9_isOfOne.2.1 15 = .ok (.imul, 1) := by decide +kernel
theorem dd_X9_isOfOne_16 : decode X9_isOfOne.2.1 16 = .ok (.lshr, 1) := by decide +kernel
theorem dd_X9_isOfOne_17 : decode X9_isOfOne.2.1 17 = .ok (.ldc2_w 102, 3) := by decide +kernel
theorem dd_X9_isOfOne_20 : decode X9_isOfOne.2.1 20 = .ok (.land, 1) := by decide +kernel
theorem dd_X9_isOfOne_21 : decode X9_isOfOne.2.1 21 = .ok (.lconst 0, 1) := by decide +kernel
theorem dd_X9_isOfOne_22 : decode X9_isOfOne.2.1 22 = .ok (.lcmp, 1) := by decide +kernel
theorem dd_X9_isOfOne_23 : decode X9_isOfOne.2.1 23 = .ok (.ifCond .ne 7, 3) := by decide +kernel
theorem dd_X9_isOfOne_26 : decode X9_isOfOne.2.1 26 = .ok (.iconst 0, 1) := by decide +kernel
theorem dd_X9_isOfOne_27 : decode X9_isOfOne.2.1 27 = .ok (.goto 4, 3) := by decide +kernel
theorem dd_X9_isOfOne_30 : decode X9_isOfOne.2.1 30 = .ok (.iconst 1, 1) := by decide +kernel
theorem dd_X9_isOfOne_31 : decode X9_isOfOne.2.1 31 = .ok (.iadd, 1) := by decide +kernel
theorem dd_X9_isOfOne_32 : decode X9_isOfOne.2.1 32 = .ok (.istore_n 2, 1) := by decide +kernel
theorem dd_X9_isOfOne_33 : decode X9_isOfOne.2.1 33 = .ok (.iinc 3 1, 3) := by decide +kernel
theorem dd_X9_isOfOne_36 : decode X9_isOfOne.2.1 36 = .ok (.goto (-32), 3) := by decide +kernel
theorem dd_X9_isOfOne_39 : decode X9_isOfOne.2.1 39 = .ok (.iload_n 2, 1) := by decide +kernel
theorem dd_X9_isOfOne_40 : decode X9_isOfOne.2.1 40 = .ok (.iconst 1, 1) := by decide +kernel
theorem dd_X9_isOfOne_41 : decode X9_isOfOne.2.1 41 = .ok (.if_icmp .ne 7, 3) := by decide +kernel
theorem dd_X9_isOfOne_44 : decode X9_isOfOne.2.1 44 = .ok (.iconst 1, 1) := by decide +kernel
theorem dd_X9_isOfOne_45 : decode X9_isOfOne.2.1 45 = .ok (.goto 4, 3) := by decide +kernel
theorem dd_X9_isOfOne_48 : decode X9_isOfOne.2.1 48 = .ok (.iconst 0, 1) := by decide +kernel
theorem dd_X9_isOfOne_49 : decode X9_isOfOne.2.1 49 = .ok (.ireturn, 1) := by decide +kernel
theorem dd_X9_namedAt_0 : decode X9_namedAt.2.1 0 = .ok (.aload_n 0, 1) := by decide +kernel
theorem dd_X9_namedAt_1 : decode X9_namedAt.2.1 1 = .ok (.getfield 72, 3) := by decide +kernel
theorem dd_X9_namedAt_4 : decode X9_namedAt.2.1 4 = .ok (.iconst 0, 1) := by decide +kernel
theorem dd_X9_namedAt_5 : decode X9_namedAt.2.1 5 = .ok (.aload_n 0, 1) := by decide +kernel
theorem dd_X9_namedAt_6 : decode X9_namedAt.2.1 6 = .ok (.iload_n 1, 1) := by decide +kernel
theorem dd_X9_namedAt_7 : decode X9_namedAt.2.1 7 = .ok (.invokevirtual 253, 3) := by decide +kernel
theorem dd_X9_namedAt_10 : decode X9_namedAt.2.1 10 = .ok (.lastore, 1) := by decide +kernel
theorem dd_X9_namedAt_11 : decode X9_namedAt.2.1 11 = .ok (.aload_n 0, 1) := by decide +kernel
theorem dd_X9_namedAt_12 : decode X9_namedAt.2.1 12 = .ok (.getfield 72, 3) := by decide +kernel
theorem dd_X9_namedAt_15 : decode X9_namedAt.2.1 15 = .ok (.iconst 0, 1) := by decide +kernel
theorem dd_X9_namedAt_16 : decode X9_namedAt.2.1 16 = .ok (.laload, 1) := by decide +kernel
theorem dd_X9_namedAt_17 : decode X9_namedAt.2.1 17 = .ok (.lconst 0, 1) := by decide +kernel
theorem dd_X9_namedAt_18 : decode X9_namedAt.2.1 18 = .ok (.lcmp, 1) := by decide +kernel
theorem dd_X9_namedAt_19 : decode X9_namedAt.2.1 19 = .ok (.ifCond .ne 7, 3) := by decide +kernel
theorem dd_X9_namedAt_22 : decode X9_namedAt.2.1 22 = .ok (.iconst 0, 1) := by decide +kernel
theorem dd_X9_namedAt_23 : decode X9_namedAt.2.1 23 = .ok (.goto 4, 3) := by decide +kernel
theorem dd_X9_namedAt_26 : decode X9_namedAt.2.1 26 = .ok (.iconst 1, 1) := by decide +kernel
theorem dd_X9_namedAt_27 : decode X9_namedAt.2.1 27 = .ok (.istore_n 2, 1) := by decide +kernel
theorem dd_X9_namedAt_28 : decode X9_namedAt.2.1 28 = .ok (.iconst 0, 1) := by decide +kernel
theorem dd_X9_namedAt_29 : decode X9_namedAt.2.1 29 = .ok (.istore_n 3, 1) := by decide +kernel
theorem dd_X9_namedAt_30 : decode X9_namedAt.2.1 30 = .ok (.iload_n 3, 1) := by decide +kernel
theorem dd_X9_namedAt_31 : decode X9_namedAt.2.1 31 = .ok (.bipush 41, 2) := by decide +kernel
theorem dd_X9_namedAt_33 : decode X9_namedAt.2.1 33 = .ok (.if_icmp .ge 153, 3) := by decide +kernel
theorem dd_X9_namedAt_36 : decode X9_namedAt.2.1 36 = .ok (.iload_n 2, 1) := by decide +kernel
theorem dd_X9_namedAt_37 : decode X9_namedAt.2.1 37 = .ok (.ifCond .le 149, 3) := by decide +kernel
theorem dd_X9_namedAt_40 : decode X9_namedAt.2.1 40 = .ok (.iconst 1, 1) := by decide +kernel
theorem dd_X9_namedAt_41 : decode X9_namedAt.2.1 41 = .ok (.istore 4, 2) := by decide +kernel
theorem dd_X9_namedAt_43 : decode X9_namedAt.2.1 43 = .ok (.iconst 0, 1) := by decide +kernel
theorem dd_X9_namedAt_44 : decode X9_namedAt.2.1 44 = .ok (.istore 5, 2) := by decide +kernel
theorem dd_X9_namedAt_46 : decode X9_namedAt.2.1 46 = .ok (.iload 5, 2) := by decide +kernel
theorem dd_X9_namedAt_48 : decode X9_namedAt.2.1 48 = .ok (.iload_n 2, 1) := by decide +kernel
theorem dd_X9_namedAt_49 : decode X9_namedAt.2.1 49 = .ok (.if_icmp .ge 34, 3) := by decide +kernel
theorem dd_X9_namedAt_52 : decode X9_namedAt.2.1 52 = .ok (.iload 4, 2) := by decide +kernel
theorem dd_X9_namedAt_54 : decode X9_namedAt.2.1 54 = .ok (.ifCond .eq 20, 3) := by decide +kernel
theorem dd_X9_namedAt_57 : decode X9_namedAt.2.1 57 = .ok (.aload_n 0, 1) := by decide +kernel
theorem dd_X9_namedAt_58 : decode X9_namedAt.2.1 58 = .ok (.getfield 72, 3) := by decide +kernel
theorem dd_X9_namedAt_61 : decode X9_namedAt.2.1 61 = .ok (.iload 5, 2) := by decide +kernel
theorem dd_X9_namedAt_63 : decode X9_namedAt.2.1 63 = .ok (.laload, 1) := by decide +kernel
theorem dd_X9_namedAt_64 : decode X9_namedAt.2.1 64 = .ok (.invokestatic 261, 3) := by decide +kernel
theorem dd_X9_namedAt_67 : decode X9_namedAt.2.1 67 = .ok (.ifCond .eq 7, 3) := by decide +kernel
theorem dd_X9_namedAt_70 : decode X9_namedAt.2.1 70 = .ok (.iconst 1, 1) := by decide +kernel
theorem dd_X9_namedAt_71 : decode X9_namedAt.2.1 71 = .ok (.goto 4, 3) := by decide +kernel
theorem dd_X9_namedAt_74 : decode X9_namedAt.2.1 74 = .ok (.iconst 0, 1) := by decide +kernel
theorem dd_X9_namedAt_75 : decode X9_namedAt.2.1 75 = .ok (.istore 4, 2) := by decide +kernel
theorem dd_X9_namedAt_77 : decode X9_namedAt.2.1 77 = .ok (.iinc 5 1, 3) := by decide +kernel
theorem dd_X9_namedAt_80 : decode X9_namedAt.2.1 80 = .ok (.goto (-34), 3) := by decide +kernel
theorem dd_X9_namedAt_83 : decode X9_namedAt.2.1 83 = .ok (.iload 4, 2) := by decide +kernel
theorem dd_X9_namedAt_85 : decode X9_namedAt.2.1 85 = .ok (.ifCond .eq 5, 3) := by decide +kernel
theorem dd_X9_namedAt_88 : decode X9_namedAt.2.1 88 = .ok (.iload_n 3, 1) := by decide +kernel
theorem dd_X9_namedAt_89 : decode X9_namedAt.2.1 89 = .ok (.ireturn, 1) := by decide +kernel
theorem dd_X9_namedAt_90 : decode X9_namedAt.2.1 90 = .ok (.iconst 0, 1) := by decide +kernel
theorem dd_X9_namedAt_91 : decode X9_namedAt.2.1 91 = .ok (.istore 5, 2) := by decide +kernel
theorem dd_X9_namedAt_93 : decode X9_namedAt.2.1 93 = .ok (.iconst 0, 1) := by decide +kernel
theorem dd_X9_namedAt_94 : decode X9_namedAt.2.1 94 = .ok (.istore 6, 2) := by decide +kernel
theorem dd_X9_namedAt_96 : decode X9_namedAt.2.1 96 = .ok (.iload 6, 2) := by decide +kernel
theorem dd_X9_namedAt_98 : decode X9_namedAt.2.1 98 = .ok (.iconst 2, 1) := by decide +kernel
theorem dd_X9_namedAt_99 : decode X9_namedAt.2.1 99 = .ok (.iload_n 2, 1) := by decide +kernel
theorem dd_X9_namedAt_100 : decode X9_namedAt.2.1 100 = .ok (.imul, 1) := by decide +kernel
theorem dd_X9_namedAt_101 : decode X9_namedAt.2.1 101 = .ok (.if_icmp .ge 47, 3) := by decide +kernel
theorem dd_X9_namedAt_104 : decode X9_namedAt.2.1 104 = .ok (.aload_n 0, 1) := by decide +kernel
theorem dd_X9_namedAt_105 : decode X9_namedAt.2.1 105 = .ok (.aload_n 0, 1) := by decide +kernel
theorem dd_X9_namedAt_106 : decode X9_namedAt.2.1 106 = .ok (.getfield 72, 3) := by decide +kernel
theorem dd_X9_namedAt_109 : decode X9_namedAt.2.1 109 = .ok (.iload 6, 2) := by decide +kernel
theorem dd_X9_namedAt_111 : decode X9_namedAt.2.1 111 = .ok (.iconst 2, 1) := by decide +kernel
theorem dd_X9_namedAt_112 : decode X9_namedAt.2.1 112 = .ok (.idiv, 1) := by decide +kernel
theorem dd_X9_namedAt_113 : decode X9_namedAt.2.1 113 = .ok (.laload, 1) := by decide +kernel
theorem dd_X9_namedAt_114 : decode X9_namedAt.2.1 114 = .ok (.iload 6, 2) := by decide +kernel
theorem dd_X9_namedAt_116 : decode X9_namedAt.2.1 116 = .ok (.iconst 2, 1) := by decide +kernel
theorem dd_X9_namedAt_117 : decode X9_namedAt.2.1 117 = .ok (.irem, 1) := by decide +kernel
theorem dd_X9_namedAt_118 : decode X9_namedAt.2.1 118 = .ok (.invokevirtual 257, 3) := by decide +kernel
theorem dd_X9_namedAt_121 : decode X9_namedAt.2.1 121 = .ok (.lstore 7, 2) := by decide +kernel
theorem dd_X9_namedAt_123 : decode X9_namedAt.2.1 123 = .ok (.lload 7, 2) := by decide +kernel
theorem dd_X9_namedAt_125 : decode X9_namedAt.2.1 125 = .ok (.lconst 0, 1) := by decide +kernel
theorem dd_X9_namedAt_126 : decode X9_namedAt.2.1 126 = .ok (.lcmp, 1) := by decide +kernel
theorem dd_X9_namedAt_127 : decode X9_namedAt.2.1 127 = .ok (.ifCond .eq 15, 3) := by decide +kernel
theorem dd_X9_namedAt_130 : decode X9_namedAt.2.1 130 = .ok (.aload_n 0, 1) := by decide +kernel
theorem dd_X9_namedAt_131 : decode X9_namedAt.2.1 131 = .ok (.getfield 75, 3) := by decide +kernel
theorem dd_X9_namedAt_134 : decode X9_namedAt.2.1 134 = .ok (.iload 5, 2) := by decide +kernel
theorem dd_X9_namedAt_136 : decode X9_namedAt.2.1 136 = .ok (.lload 7, 2) := by decide +kernel
theorem dd_X9_namedAt_138 : decode X9_namedAt.2.1 138 = .ok (.lastore, 1) := by decide +kernel
theorem dd_X9_namedAt_139 : decode X9_namedAt.2.1 139 = .ok (.iinc 5 1, 3) := by decide +kernel
theorem dd_X9_namedAt_142 : decode X9_namedAt.2.1 142 = .ok (.iinc 6 1, 3) := by decide +kernel
theorem dd_X9_namedAt_145 : decode X9_namedAt.2.1 145 = .ok (.goto (-49), 3) := by decide +kernel
theorem dd_X9_namedAt_148 : decode X9_namedAt.2.1 148 = .ok (.iload 5, 2) := by decide +kernel
theorem dd_X9_namedAt_150 : decode X9_namedAt.2.1 150 = .ok (.istore_n 2, 1) := by decide +kernel
theorem dd_X9_namedAt_151 : decode X9_namedAt.2.1 151 = .ok (.iconst 0, 1) := by decide +kernel
theorem dd_X9_namedAt_152 : decode X9_namedAt.2.1 152 = .ok (.istore 6, 2) := by decide +kernel
theorem dd_X9_namedAt_154 : decode X9_namedAt.2.1 154 = .ok (.iload 6, 2) := by decide +kernel
theorem dd_X9_namedAt_156 : decode X9_namedAt.2.1 156 = .ok (.iload_n 2, 1) := by decide +kernel
theorem dd_X9_namedAt_157 : decode X9_namedAt.2.1 157 = .ok (.if_icmp .ge 23, 3) := by decide +kernel
theorem dd_X9_namedAt_160 : decode X9_namedAt.2.1 160 = .ok (.aload_n 0, 1) := by decide +kernel
theorem dd_X9_namedAt_161 : decode X9_namedAt.2.1 161 = .ok (.getfield 72, 3) := by decide +kernel
theorem dd_X9_namedAt_164 : decode X9_namedAt.2.1 164 = .ok (.iload 6, 2) := by decide +kernel
theorem dd_X9_namedAt_166 : decode X9_namedAt.2.1 166 = .ok (.aload_n 0, 1) := by decide +kernel
theorem dd_X9_namedAt_167 : decode X9_namedAt.2.1 167 = .ok (.getfield 75, 3) := by decide +kernel
theorem dd_X9_namedAt_170 : decode X9_namedAt.2.1 170 = .ok (.iload 6, 2) := by decide +kernel
theorem dd_X9_namedAt_172 : decode X9_namedAt.2.1 172 = .ok (.laload, 1) := by decide +kernel
theorem dd_X9_namedAt_173 : decode X9_namedAt.2.1 173 = .ok (.lastore, 1) := by decide +kernel
theorem dd_X9_namedAt_174 : decode X9_namedAt.2.1 174 = .ok (.iinc 6 1, 3) := by decide +kernel
theorem dd_X9_namedAt_177 : decode X9_namedAt.2.1 177 = .ok (.goto (-23), 3) := by decide +kernel
theorem dd_X9_namedAt_180 : decode X9_namedAt.2.1 180 = .ok (.iinc 3 1, 3) := by decide +kernel
theorem dd_X9_namedAt_183 : decode X9_namedAt.2.1 183 = .ok (.goto (-153), 3) := by decide +kernel
theorem dd_X9_namedAt_186 : decode X9_namedAt.2.1 186 = .ok (.iconst (-1), 1) := by decide +kernel
theorem dd_X9_namedAt_187 : decode X9_namedAt.2.1 187 = .ok (.ireturn, 1) := by decide +kernel
theorem dd_X9_machine_0 : decode X9_machine.2.1 0 = .ok (.iload_n 1, 1) := by decide +kernel
theorem dd_X9_machine_1 : decode X9_machine.2.1 1 = .ok (.i2l, 1) := by decide +kernel
theorem dd_X9_machine_2 : decode X9_machine.2.1 2 = .ok (.lconst 0, 1) := by decide +kernel
theorem dd_X9_machine_3 : decode X9_machine.2.1 3 = .ok (.ldc2_w 234, 3) := by decide +kernel
theorem dd_X9_machine_6 : decode X9_machine.2.1 6 = .ok (.invokestatic 104, 3) := by decide +kernel
theorem dd_X9_machine_9 : decode X9_machine.2.1 9 = .ok (.ifCond .eq 13, 3) := by decide +kernel
theorem dd_X9_machine_12 : decode X9_machine.2.1 12 = .ok (.iload_n 2, 1) := by decide +kernel
theorem dd_X9_machine_13 : decode X9_machine.2.1 13 = .ok (.i2l, 1) := by decide +kernel
theorem dd_X9_machine_14 : decode X9_machine.2.1 14 = .ok (.lconst 0, 1) := by decide +kernel
theorem dd_X9_machine_15 : decode X9_machine.2.1 15 = .ok (.lconst 1, 1) := by decide +kernel
theorem dd_X9_machine_16 : decode X9_machine.2.1 16 = .ok (.invokestatic 104, 3) := by decide +kernel
theorem dd_X9_machine_19 : decode X9_machine.2.1 19 = .ok (.ifCond .ne 8, 3) := by decide +kernel
theorem dd_X9_machine_22 : decode X9_machine.2.1 22 = .ok (.bipush (-3), 2) := by decide +kernel
theorem dd_X9_machine_24 : decode X9_machine.2.1 24 = .ok (.goto 20, 3) := by decide +kernel
theorem dd_X9_machine_27 : decode X9_machine.2.1 27 = .ok (.iload_n 2, 1) := by decide +kernel
theorem dd_X9_machine_28 : decode X9_machine.2.1 28 = .ok (.ifCond .ne 11, 3) := by decide +kernel
theorem dd_X9_machine_31 : decode X9_machine.2.1 31 = .ok (.aload_n 0, 1) := by decide +kernel
theorem dd_X9_machine_32 : decode X9_machine.2.1 32 = .ok (.iload_n 1, 1) := by decide +kernel
theorem dd_X9_machine_33 : decode X9_machine.2.1 33 = .ok (.invokevirtual 265, 3) := by decide +kernel
theorem dd_X9_machine_36 : decode X9_machine.2.1 36 = .ok (.goto 8, 3) := by decide +kernel
theorem dd_X9_machine_39 : decode X9_machine.2.1 39 = .ok (.aload_n 0, 1) := by decide +kernel
theorem dd_X9_machine_40 : decode X9_machine.2.1 40 = .ok (.iload_n 1, 1) := by decide +kernel
theorem dd_X9_machine_41 : decode X9_machine.2.1 41 = .ok (.invokevirtual 268, 3) := by decide +kernel
theorem dd_X9_machine_44 : decode X9_machine.2.1 44 = .ok (.ireturn, 1) := by decide +kernel
theorem dd_X9_pairsLeft_0 : decode X9_pairsLeft.2.1 0 = .ok (.iconst 0, 1) := by decide +kernel
theorem dd_X9_pairsLeft_1 : decode X9_pairsLeft.2.1 1 = .ok (.istore_n 1, 1) := by decide +kernel
theorem dd_X9_pairsLeft_2 : decode X9_pairsLeft.2.1 2 = .ok (.iconst 0, 1) := by decide +kernel
theorem dd_X9_pairsLeft_3 : decode X9_pairsLeft.2.1 3 = .ok (.istore_n 2, 1) := by decide +kernel
theorem dd_X9_pairsLeft_4 : decode X9_pairsLeft.2.1 4 = .ok (.iload_n 2, 1) := by decide +kernel
theorem dd_X9_pairsLeft_5 : decode X9_pairsLeft.2.1 5 = .ok (.bipush 48, 2) := by decide +kernel
theorem dd_X9_pairsLeft_7 : decode X9_pairsLeft.2.1 7 = .ok (.if_icmp .ge 33, 3) := by decide +kernel
theorem dd_X9_pairsLeft_10 : decode X9_pairsLeft.2.1 10 = .ok (.iload_n 1, 1) := by decide +kernel
theorem dd_X9_pairsLeft_11 : decode X9_pairsLeft.2.1 11 = .ok (.aload_n 0, 1) := by decide +kernel
theorem dd_X9_pairsLeft_12 : decode X9_pairsLeft.2.1 12 = .ok (.getfield 183, 3) := by decide +kernel
theorem dd_X9_pairsLeft_15 : decode X9_pairsLeft.2.1 15 = .ok (.ifCond .eq 16, 3) := by decide +kernel
theorem dd_X9_pairsLeft_18 : decode X9_pairsLeft.2.1 18 = .ok (.aload_n 0, 1) := by decide +kernel
theorem dd_X9_pairsLeft_19 : decode X9_pairsLeft.2.1 19 = .ok (.getfield 23, 3) := by decide +kernel
theorem dd_X9_pairsLeft_22 : decode X9_pairsLeft.2.1 22 = .ok (.iload_n 2, 1) := by decide +kernel
theorem dd_X9_pairsLeft_23 : decode X9_pairsLeft.2.1 23 = .ok (.baload, 1) := by decide +kernel
theorem dd_X9_pairsLeft_24 : decode X9_pairsLeft.2.1 24 = .ok (.ifCond .eq 7, 3) := by decide +kernel
theorem dd_X9_pairsLeft_27 : decode X9_pairsLeft.2.1 27 = .ok (.iconst 1, 1) := by decide +kernel
theorem dd_X9_pairsLeft_28 : decode X9_pairsLeft.2.1 28 = .ok (.goto 4, 3) := by decide +kernel
theorem dd_X9_pairsLeft_31 : decode X9_pairsLeft.2.1 31 = .ok (.iconst 0, 1) := by decide +kernel
theorem dd_X9_pairsLeft_32 : decode X9_pairsLeft.2.1 32 = .ok (.iadd, 1) := by decide +kernel
theorem dd_X9_pairsLeft_33 : decode X9_pairsLeft.2.1 33 = .ok (.istore_n 1, 1) := by decide +kernel
theorem dd_X9_pairsLeft_34 : decode X9_pairsLeft.2.1 34 = .ok (.iinc 2 1, 3) := by decide +kernel
theorem dd_X9_pairsLeft_37 : decode X9_pairsLeft.2.1 37 = .ok (.goto (-33), 3) := by decide +kernel
theorem dd_X9_pairsLeft_40 : decode X9_pairsLeft.2.1 40 = .ok (.iload_n 1, 1) := by decide +kernel
theorem dd_X9_pairsLeft_41 : decode X9_pairsLeft.2.1 41 = .ok (.ireturn, 1) := by decide +kernel
theorem dd_X9_watch_0 : decode X9_watch.2.1 0 = .ok (.iload_n 1, 1) := by decide +kernel
theorem dd_X9_watch_1 : decode X9_watch.2.1 1 = .ok (.i2l, 1) := by decide +kernel
theorem dd_X9_watch_2 : decode X9_watch.2.1 2 = .ok (.lconst 0, 1) := by decide +kernel
theorem dd_X9_watch_3 : decode X9_watch.2.1 3 = .ok (.ldc2_w 234, 3) := by decide +kernel
theorem dd_X9_watch_6 : decode X9_watch.2.1 6 = .ok (.invokestatic 104, 3) := by decide +kernel
theorem dd_X9_watch_9 : decode X9_watch.2.1 9 = .ok (.ifCond .eq 13, 3) := by decide +kernel
theorem dd_X9_watch_12 : decode X9_watch.2.1 12 = .ok (.iload_n 2, 1) := by decide +kernel
theorem dd_X9_watch_13 : decode X9_watch.2.1 13 = .ok (.i2l, 1) := by decide +kernel
theorem dd_X9_watch_14 : decode X9_watch.2.1 14 = .ok (.lconst 0, 1) := by decide +kernel
theorem dd_X9_watch_15 : decode X9_watch.2.1 15 = .ok (.lconst 1, 1) := by decide +kernel
theorem dd_X9_watch_16 : decode X9_watch.2.1 16 = .ok (.invokestatic 104, 3) := by decide +kernel
theorem dd_X9_watch_19 : decode X9_watch.2.1 19 = .ok (.ifCond .ne 6, 3) := by decide +kernel
theorem dd_X9_watch_22 : decode X9_watch.2.1 22 = .ok (.bipush (-3), 2) := by decide +kernel
theorem dd_X9_watch_24 : decode X9_watch.2.1 24 = .ok (.ireturn, 1) := by decide +kernel
theorem dd_X9_watch_25 : decode X9_watch.2.1 25 = .ok (.aload_n 0, 1) := by decide +kernel
theorem dd_X9_watch_26 : decode X9_watch.2.1 26 = .ok (.iload_n 1, 1) := by decide +kernel
theorem dd_X9_watch_27 : decode X9_watch.2.1 27 = .ok (.invokevirtual 253, 3) := by decide +kernel
theorem dd_X9_watch_30 : decode X9_watch.2.1 30 = .ok (.lstore_n 3, 1) := by decide +kernel
theorem dd_X9_watch_31 : decode X9_watch.2.1 31 = .ok (.iconst 0, 1) := by decide +kernel
theorem dd_X9_watch_32 : decode X9_watch.2.1 32 = .ok (.istore 5, 2) := by decide +kernel
theorem dd_X9_watch_34 : decode X9_watch.2.1 34 = .ok (.iload 5, 2) := by decide +kernel
theorem dd_X9_watch_36 : decode X9_watch.2.1 36 = .ok (.bipush 48, 2) := by decide +kernel
theorem dd_X9_watch_38 : decode X9_watch.2.1 38 = .ok (.if_icmp .ge 52, 3) := by decide +kernel
theorem dd_X9_watch_41 : decode X9_watch.2.1 41 = .ok (.aload_n 0, 1) := by decide +kernel
theorem dd_X9_watch_42 : decode X9_watch.2.1 42 = .ok (.getfield 23, 3) := by decide +kernel
theorem dd_X9_watch_45 : decode X9_watch.2.1 45 = .ok (.iload 5, 2) := by decide +kernel
theorem dd_X9_watch_47 : decode X9_watch.2.1 47 = .ok (.lload_n 3, 1) := by decide +kernel
theorem dd_X9_watch_48 : decode X9_watch.2.1 48 = .ok (.iload 5, 2) := by decide +kernel
theorem dd_X9_watch_50 : decode X9_watch.2.1 50 = .ok (.lshr, 1) := by decide +kernel
theorem dd_X9_watch_51 : decode X9_watch.2.1 51 = .ok (.lconst 1, 1) := by decide +kernel
theorem dd_X9_watch_52 : decode X9_watch.2.1 52 = .ok (.land, 1) := by decide +kernel
theorem dd_X9_watch_53 : decode X9_watch.2.1 53 = .ok (.lconst 1, 1) := by decide +kernel
theorem dd_X9_watch_54 : decode X9_watch.2.1 54 = .ok (.lcmp, 1) := by decide +kernel
theorem dd_X9_watch_55 : decode X9_watch.2.1 55 = .ok (.ifCond .ne 7, 3) := by decide +kernel
theorem dd_X9_watch_58 : decode X9_watch.2.1 58 = .ok (.iconst 1, 1) := by decide +kernel
theorem dd_X9_watch_59 : decode X9_watch.2.1 59 = .ok (.goto 4, 3) := by decide +kernel
theorem dd_X9_watch_62 : decode X9_watch.2.1 62 = .ok (.iconst 0, 1) := by decide +kernel
theorem dd_X9_watch_63 : decode X9_watch.2.1 63 = .ok (.bastore, 1) := by decide +kernel
theorem dd_X9_watch_64 : decode X9_watch.2.1 64 = .ok (.aload_n 0, 1) := by decide +kernel
theorem dd_X9_watch_65 : decode X9_watch.2.1 65 = .ok (.getfield 26, 3) := by decide +kernel
theorem dd_X9_watch_68 : decode X9_watch.2.1 68 = .ok (.iload 5, 2) := by decide +kernel
theorem dd_X9_watch_70 : decode X9_watch.2.1 70 = .ok (.iload 5, 2) := by decide +kernel
theorem dd_X9_watch_72 : decode X9_watch.2.1 72 = .ok (.bipush 8, 2) := by decide +kernel
theorem dd_X9_watch_74 : decode X9_watch.2.1 74 = .ok (.irem, 1) := by decide +kernel
theorem dd_X9_watch_75 : decode X9_watch.2.1 75 = .ok (.iastore, 1) := by decide +kernel
theorem dd_X9_watch_76 : decode X9_watch.2.1 76 = .ok (.aload_n 0, 1) := by decide +kernel
theorem dd_X9_watch_77 : decode X9_watch.2.1 77 = .ok (.getfield 29, 3) := by decide +kernel
theorem dd_X9_watch_80 : decode X9_watch.2.1 80 = .ok (.iload 5, 2) := by decide +kernel
theorem dd_X9_watch_82 : decode X9_watch.2.1 82 = .ok (.iconst 0, 1) := by decide +kernel
theorem dd_X9_watch_83 : decode X9_watch.2.1 83 = .ok (.bastore, 1) := by decide +kernel
theorem dd_X9_watch_84 : decode X9_watch.2.1 84 = .ok (.iinc 5 1, 3) := by decide +kernel
theorem dd_X9_watch_87 : decode X9_watch.2.1 87 = .ok (.goto (-53), 3) := by decide +kernel
theorem dd_X9_watch_90 : decode X9_watch.2.1 90 = .ok (.aload_n 0, 1) := by decide +kernel
theorem dd_X9_watch_91 : decode X9_watch.2.1 91 = .ok (.iconst 1, 1) := by decide +kernel
theorem dd_X9_watch_92 : decode X9_watch.2.1 92 = .ok (.putfield 183, 3) := by decide +kernel
theorem dd_X9_watch_95 : decode X9_watch.2.1 95 = .ok (.aload_n 0, 1) := by decide +kernel
theorem dd_X9_watch_96 : decode X9_watch.2.1 96 = .ok (.iload_n 2, 1) := by decide +kernel
theorem dd_X9_watch_97 : decode X9_watch.2.1 97 = .ok (.iconst 1, 1) := by decide +kernel
theorem dd_X9_watch_98 : decode X9_watch.2.1 98 = .ok (.if_icmp .ne 7, 3) := by decide +kernel
theorem dd_X9_watch_101 : decode X9_watch.2.1 101 = .ok (.iconst 1, 1) := by decide +kernel
theorem dd_X9_watch_102 : decode X9_watch.2.1 102 = .ok (.goto 4, 3) := by decide +kernel
theorem dd_X9_watch_105 : decode X9_watch.2.1 105 = .ok (.iconst 0, 1) := by decide +kernel
theorem dd_X9_watch_106 : decode X9_watch.2.1 106 = .ok (.putfield 271, 3) := by decide +kernel
theorem dd_X9_watch_109 : decode X9_watch.2.1 109 = .ok (.aload_n 0, 1) := by decide +kernel
theorem dd_X9_watch_110 : decode X9_watch.2.1 110 = .ok (.invokevirtual 274, 3) := by decide +kernel
theorem dd_X9_watch_113 : decode X9_watch.2.1 113 = .ok (.ireturn, 1) := by decide +kernel
theorem dd_X9_seePair_0 : decode X9_seePair.2.1 0 = .ok (.aload_n 0, 1) := by decide +kernel
theorem dd_X9_seePair_1 : decode X9_seePair.2.1 1 = .ok (.aload_n 0, 1) := by decide +kernel
theorem dd_X9_seePair_2 : decode X9_seePair.2.1 2 = .ok (.getfield 7, 3) := by decide +kernel
theorem dd_X9_seePair_5 : decode X9_seePair.2.1 5 = .ok (.bipush 6, 2) := by decide +kernel
theorem dd_X9_seePair_7 : decode X9_seePair.2.1 7 = .ok (.iload_n 1, 1) := by decide +kernel
theorem dd_X9_seePair_8 : decode X9_seePair.2.1 8 = .ok (.bipush 8, 2) := by decide +kernel
theorem dd_X9_seePair_10 : decode X9_seePair.2.1 10 = .ok (.idiv, 1) := by decide +kernel
theorem dd_X9_seePair_11 : decode X9_seePair.2.1 11 = .ok (.iadd, 1) := by decide +kernel
theorem dd_X9_seePair_12 : decode X9_seePair.2.1 12 = .ok (.iaload, 1) := by decide +kernel
theorem dd_X9_seePair_13 : decode X9_seePair.2.1 13 = .ok (.aload_n 0, 1) := by decide +kernel
theorem dd_X9_seePair_14 : decode X9_seePair.2.1 14 = .ok (.getfield 26, 3) := by decide +kernel
theorem dd_X9_seePair_17 : decode X9_seePair.2.1 17 = .ok (.iload_n 1, 1) := by decide +kernel
theorem dd_X9_seePair_18 : decode X9_seePair.2.1 18 = .ok (.iaload, 1) := by decide +kernel
theorem dd_X9_seePair_19 : decode X9_seePair.2.1 19 = .ok (.invokevirtual 186, 3) := by decide +kernel
theorem dd_X9_seePair_22 : decode X9_seePair.2.1 22 = .ok (.istore_n 3, 1) := by decide +kernel
theorem dd_X9_seePair_23 : decode X9_seePair.2.1 23 = .ok (.iload_n 3, 1) := by decide +kernel
theorem dd_X9_seePair_24 : decode X9_seePair.2.1 24 = .ok (.iload_n 2, 1) := by decide +kernel
theorem dd_X9_seePair_25 : decode X9_seePair.2.1 25 = .ok (.if_icmp .eq 42, 3) := by decide +kernel
theorem dd_X9_seePair_28 : decode X9_seePair.2.1 28 = .ok (.aload_n 0, 1) := by decide +kernel
theorem dd_X9_seePair_29 : decode X9_seePair.2.1 29 = .ok (.getfield 23, 3) := by decide +kernel
theorem dd_X9_seePair_32 : decode X9_seePair.2.1 32 = .ok (.iload_n 1, 1) := by decide +kernel
theorem dd_X9_seePair_33 : decode X9_seePair.2.1 33 = .ok (.aload_n 0, 1) := by decide +kernel
theorem dd_X9_seePair_34 : decode X9_seePair.2.1 34 = .ok (.getfield 271, 3) := by decide +kernel
theorem dd_X9_seePair_37 : decode X9_seePair.2.1 37 = .ok (.ifCond .eq 21, 3) := by decide +kernel
theorem dd_X9_seePair_40 : decode X9_seePair.2.1 40 = .ok (.iload_n 3, 1) := by decide +kernel
theorem dd_X9_seePair_41 : decode X9_seePair.2.1 41 = .ok (.iconst 1, 1) := by decide +kernel
theorem dd_X9_seePair_42 : decode X9_seePair.2.1 42 = .ok (.if_icmp .ne 16, 3) := by decide +kernel
theorem dd_X9_seePair_45 : decode X9_seePair.2.1 45 = .ok (.aload_n 0, 1) := by decide +kernel
theorem dd_X9_seePair_46 : decode X9_seePair.2.1 46 = .ok (.getfield 29, 3) := by decide +kernel
theorem dd_X9_seePair_49 : decode X9_seePair.2.1 49 = .ok (.iload_n 1, 1) := by decide +kernel
theorem dd_X9_seePair_50 : decode X9_seePair.2.1 50 = .ok (.baload, 1) := by decide +kernel
theorem dd_X9_seePair_51 : decode X9_seePair.2.1 51 = .ok (.ifCond .ne 7, 3) := by decide +kernel
theorem dd_X9_seePair_54 : decode X9_seePair.2.1 54 = .ok (.iconst 1, 1) := by decide +kernel
theorem dd_X9_seePair_55 : decode X9_seePair.2.1 55 = .ok (.goto 4, 3) := by decide +kernel
theorem dd_X9_seePair_58 : decode X9_seePair.2.1 58 = .ok (.iconst 0, 1) := by decide +kernel
theorem dd_X9_seePair_59 : decode X9_seePair.2.1 59 = .ok (.bastore, 1) := by decide +kernel
theorem dd_X9_seePair_60 : decode X9_seePair.2.1 60 = .ok (.aload_n 0, 1) := by decide +kernel
theorem dd_X9_seePair_61 : decode X9_seePair.2.1 61 = .ok (.getfield 29, 3) := by decide +kernel
theorem dd_X9_seePair_64 : decode X9_seePair.2.1 64 = .ok (.iload_n 1, 1) := by decide +kernel
theorem dd_X9_seePair_65 : decode X9_seePair.2.1 65 = .ok (.iconst 1, 1) := by decide +kernel
theorem dd_X9_seePair_66 : decode X9_seePair.2.1 66 = .ok (.bastore, 1) := by decide +kernel
theorem dd_X9_seePair_67 : decode X9_seePair.2.1 67 = .ok (.aload_n 0, 1) := by decide +kernel
theorem dd_X9_seePair_68 : decode X9_seePair.2.1 68 = .ok (.getfield 26, 3) := by decide +kernel
theorem dd_X9_seePair_71 : decode X9_seePair.2.1 71 = .ok (.iload_n 1, 1) := by decide +kernel
theorem dd_X9_seePair_72 : decode X9_seePair.2.1 72 = .ok (.aload_n 0, 1) := by decide +kernel
theorem dd_X9_seePair_73 : decode X9_seePair.2.1 73 = .ok (.getfield 26, 3) := by decide +kernel
theorem dd_X9_seePair_76 : decode X9_seePair.2.1 76 = .ok (.iload_n 1, 1) := by decide +kernel
theorem dd_X9_seePair_77 : decode X9_seePair.2.1 77 = .ok (.iaload, 1) := by decide +kernel
theorem dd_X9_seePair_78 : decode X9_seePair.2.1 78 = .ok (.iconst 1, 1) := by decide +kernel
theorem dd_X9_seePair_79 : decode X9_seePair.2.1 79 = .ok (.iadd, 1) := by decide +kernel
theorem dd_X9_seePair_80 : decode X9_seePair.2.1 80 = .ok (.aload_n 0, 1) := by decide +kernel
theorem dd_X9_seePair_81 : decode X9_seePair.2.1 81 = .ok (.getfield 86, 3) := by decide +kernel
theorem dd_X9_seePair_84 : decode X9_seePair.2.1 84 = .ok (.irem, 1) := by decide +kernel
theorem dd_X9_seePair_85 : decode X9_seePair.2.1 85 = .ok (.iastore, 1) := by decide +kernel
theorem dd_X9_seePair_86 : decode X9_seePair.2.1 86 = .ok (.return_, 1) := by decide +kernel
theorem dd_X9_see_0 : decode X9_see.2.1 0 = .ok (.iload_n 1, 1) := by decide +kernel
theorem dd_X9_see_1 : decode X9_see.2.1 1 = .ok (.i2l, 1) := by decide +kernel
theorem dd_X9_see_2 : decode X9_see.2.1 2 = .ok (.lconst 0, 1) := by decide +kernel
theorem dd_X9_see_3 : decode X9_see.2.1 3 = .ok (.lconst 1, 1) := by decide +kernel
theorem dd_X9_see_4 : decode X9_see.2.1 4 = .ok (.invokestatic 104, 3) := by decide +kernel
theorem dd_X9_see_7 : decode X9_see.2.1 7 = .ok (.ifCond .ne 6, 3) := by decide +kernel
theorem dd_X9_see_10 : decode X9_see.2.1 10 = .ok (.bipush (-3), 2) := by decide +kernel
theorem dd_X9_see_12 : decode X9_see.2.1 12 = .ok (.ireturn, 1) := by decide +kernel
theorem dd_X9_see_13 : decode X9_see.2.1 13 = .ok (.aload_n 0, 1) := by decide +kernel
theorem dd_X9_see_14 : decode X9_see.2.1 14 = .ok (.getfield 183, 3) := by decide +kernel
theorem dd_X9_see_17 : decode X9_see.2.1 17 = .ok (.ifCond .ne 6, 3) := by decide +kernel
theorem dd_X9_see_20 : decode X9_see.2.1 20 = .ok (.bipush (-4), 2) := by decide +kernel
theorem dd_X9_see_22 : decode X9_see.2.1 22 = .ok (.ireturn, 1) := by decide +kernel
theorem dd_X9_see_23 : decode X9_see.2.1 23 = .ok (.iconst 0, 1) := by decide +kernel
theorem dd_X9_see_24 : decode X9_see.2.1 24 = .ok (.istore_n 2, 1) := by decide +kernel
theorem dd_X9_see_25 : decode X9_see.2.1 25 = .ok (.iload_n 2, 1) := by decide +kernel
theorem dd_X9_see_26 : decode X9_see.2.1 26 = .ok (.bipush 48, 2) := by decide +kernel
theorem dd_X9_see_28 : decode X9_see.2.1 28 = .ok (.if_icmp .ge 24, 3) := by decide +kernel
theorem dd_X9_see_31 : decode X9_see.2.1 31 = .ok (.aload_n 0, 1) := by decide +kernel
theorem dd_X9_see_32 : decode X9_see.2.1 32 = .ok (.getfield 23, 3) := by decide +kernel
theorem dd_X9_see_35 : decode X9_see.2.1 35 = .ok (.iload_n 2, 1) := by decide +kernel
theorem dd_X9_see_36 : decode X9_see.2.1 36 = .ok (.baload, 1) := by decide +kernel
theorem dd_X9_see_37 : decode X9_see.2.1 37 = .ok (.ifCond .eq 9, 3) := by decide +kernel
theorem dd_X9_see_40 : decode X9_see.2.1 40 = .ok (.aload_n 0, 1) := by decide +kernel
theorem dd_X9_see_41 : decode X9_see.2.1 41 = .ok (.iload_n 2, 1) := by decide +kernel
theorem dd_X9_see_42 : decode X9_see.2.1 42 = .ok (.iload_n 1, 1) := by decide +kernel
theorem dd_X9_see_43 : decode X9_see.2.1 43 = .ok (.invokevirtual 277, 3) := by decide +kernel
theorem dd_X9_see_46 : decode X9_see.2.1 46 = .ok (.iinc 2 1, 3) := by decide +kernel
theorem dd_X9_see_49 : decode X9_see.2.1 49 = .ok (.goto (-24), 3) := by decide +kernel
theorem dd_X9_see_52 : decode X9_see.2.1 52 = .ok (.aload_n 0, 1) := by decide +kernel
theorem dd_X9_see_53 : decode X9_see.2.1 53 = .ok (.invokevirtual 274, 3) := by decide +kernel
theorem dd_X9_see_56 : decode X9_see.2.1 56 = .ok (.ireturn, 1) := by decide +kernel
theorem dd_X9_left_0 : decode X9_left.2.1 0 = .ok (.iload_n 1, 1) := by decide +kernel
theorem dd_X9_left_1 : decode X9_left.2.1 1 = .ok (.i2l, 1) := by decide +kernel
theorem dd_X9_left_2 : decode X9_left.2.1 2 = .ok (.lconst 0, 1) := by decide +kernel
theorem dd_X9_left_3 : decode X9_left.2.1 3 = .ok (.lconst 1, 1) := by decide +kernel
theorem dd_X9_left_4 : decode X9_left.2.1 4 = .ok (.invokestatic 104, 3) := by decide +kernel
theorem dd_X9_left_7 : decode X9_left.2.1 7 = .ok (.ifCond .eq 7, 3) := by decide +kernel
theorem dd_X9_left_10 : decode X9_left.2.1 10 = .ok (.iload_n 2, 1) := by decide +kernel
theorem dd_X9_left_11 : decode X9_left.2.1 11 = .ok (.ifCond .ge 6, 3) := by decide +kernel
theorem dd_X9_left_14 : decode X9_left.2.1 14 = .ok (.bipush (-3), 2) := by decide +kernel
theorem dd_X9_left_16 : decode X9_left.2.1 16 = .ok (.ireturn, 1) := by decide +kernel
theorem dd_X9_left_17 : decode X9_left.2.1 17 = .ok (.aload_n 0, 1) := by decide +kernel
theorem dd_X9_left_18 : decode X9_left.2.1 18 = .ok (.getfield 183, 3) := by decide +kernel
theorem dd_X9_left_21 : decode X9_left.2.1 21 = .ok (.ifCond .ne 6, 3) := by decide +kernel
theorem dd_X9_left_24 : decode X9_left.2.1 24 = .ok (.bipush (-4), 2) := by decide +kernel
theorem dd_X9_left_26 : decode X9_left.2.1 26 = .ok (.ireturn, 1) := by decide +kernel
theorem dd_X9_left_27 : decode X9_left.2.1 27 = .ok (.iconst 0, 1) := by decide +kernel
theorem dd_X9_left_28 : decode X9_left.2.1 28 = .ok (.istore_n 3, 1) := by decide +kernel
theorem dd_X9_left_29 : decode X9_left.2.1 29 = .ok (.iconst 0, 1) := by decide +kernel
theorem dd_X9_left_30 : decode X9_left.2.1 30 = .ok (.istore 4, 2) := by decide +kernel
theorem dd_X9_left_32 : decode X9_left.2.1 32 = .ok (.iconst (-1), 1) := by decide +kernel
theorem dd_X9_left_33 : decode X9_left.2.1 33 = .ok (.istore 5, 2) := by decide +kernel
theorem dd_X9_left_35 : decode X9_left.2.1 35 = .ok (.iconst 0, 1) := by decide +kernel
theorem dd_X9_left_36 : decode X9_left.2.1 36 = .ok (.istore 6, 2) := by decide +kernel
theorem dd_X9_left_38 : decode X9_left.2.1 38 = .ok (.iload 6, 2) := by decide +kernel
theorem dd_X9_left_40 : decode X9_left.2.1 40 = .ok (.bipush 48, 2) := by decide +kernel
theorem dd_X9_left_42 : decode X9_left.2.1 42 = .ok (.if_icmp .ge 61, 3) := by decide +kernel
theorem dd_X9_left_45 : decode X9_left.2.1 45 = .ok (.aload_n 0, 1) := by decide +kernel
theorem dd_X9_left_46 : decode X9_left.2.1 46 = .ok (.getfield 23, 3) := by decide +kernel
theorem dd_X9_left_49 : decode X9_left.2.1 49 = .ok (.iload 6, 2) := by decide +kernel
theorem dd_X9_left_51 : decode X9_left.2.1 51 = .ok (.baload, 1) := by decide +kernel
theorem dd_X9_left_52 : decode X9_left.2.1 52 = .ok (.ifCond .eq 45, 3) := by decide +kernel
theorem dd_X9_left_55 : decode X9_left.2.1 55 = .ok (.iload_n 3, 1) := by decide +kernel
theorem dd_X9_left_56 : decode X9_left.2.1 56 = .ok (.iconst 1, 1) := by decide +kernel
theorem dd_X9_left_57 : decode X9_left.2.1 57 = .ok (.iload 6, 2) := by decide +kernel
theorem dd_X9_left_59 : decode X9_left.2.1 59 = .ok (.bipush 8, 2) := by decide +kernel
theorem dd_X9_left_61 : decode X9_left.2.1 61 = .ok (.idiv, 1) := by decide +kernel
theorem dd_X9_left_62 : decode X9_left.2.1 62 = .ok (.ishl, 1) := by decide +kernel
theorem dd_X9_left_63 : decode X9_left.2.1 63 = .ok (.ior, 1) := by decide +kernel
theorem dd_X9_left_64 : decode X9_left.2.1 64 = .ok (.istore_n 3, 1) := by decide +kernel
theorem dd_X9_left_65 : decode X9_left.2.1 65 = .ok (.iload 4, 2) := by decide +kernel
theorem dd_X9_left_67 : decode X9_left.2.1 67 = .ok (.iload_n 2, 1) := by decide +kernel
theorem dd_X9_left_68 : decode X9_left.2.1 68 = .ok (.if_icmp .ne 22, 3) := by decide +kernel
theorem dd_X9_left_71 : decode X9_left.2.1 71 = .ok (.bipush 10, 2) := by decide +kernel
theorem dd_X9_left_73 : decode X9_left.2.1 73 = .ok (.iload 6, 2) := by decide +kernel
theorem dd_X9_left_75 : decode X9_left.2.1 75 = .ok (.bipush 8, 2) := by decide +kernel
theorem dd_X9_left_77 : decode X9_left.2.1 77 = .ok (.idiv, 1) := by decide +kernel
theorem dd_X9_left_78 : decode X9_left.2.1 78 = .ok (.imul, 1) := by decide +kernel
theorem dd_X9_left_79 : decode X9_left.2.1 79 = .ok (.aload_n 0, 1) := by decide +kernel
theorem dd_X9_left_80 : decode X9_left.2.1 80 = .ok (.getfield 26, 3) := by decide +kernel
theorem dd_X9_left_83 : decode X9_left.2.1 83 = .ok (.iload 6, 2) := by decide +kernel
theorem dd_X9_left_85 : decode X9_left.2.1 85 = .ok (.iaload, 1) := by decide +kernel
theorem dd_X9_left_86 : decode X9_left.2.1 86 = .ok (.iadd, 1) := by decide +kernel
theorem dd_X9_left_87 : decode X9_left.2.1 87 = .ok (.goto 5, 3) := by decide +kernel
theorem dd_X9_left_90 : decode X9_left.2.1 90 = .ok (.iload 5, 2) := by decide +kernel
theorem dd_X9_left_92 : decode X9_left.2.1 92 = .ok (.istore 5, 2) := by decide +kernel
theorem dd_X9_left_94 : decode X9_left.2.1 94 = .ok (.iinc 4 1, 3) := by decide +kernel
theorem dd_X9_left_97 : decode X9_left.2.1 97 = .ok (.iinc 6 1, 3) := by decide +kernel
theorem dd_X9_left_100 : decode X9_left.2.1 100 = .ok (.goto (-62), 3) := by decide +kernel
theorem dd_X9_left_103 : decode X9_left.2.1 103 = .ok (.iload_n 1, 1) := by decide +kernel
theorem dd_X9_left_104 : decode X9_left.2.1 104 = .ok (.ifCond .ne 7, 3) := by decide +kernel
theorem dd_X9_left_107 : decode X9_left.2.1 107 = .ok (.iload_n 3, 1) := by decide +kernel
theorem dd_X9_left_108 : decode X9_left.2.1 108 = .ok (.goto 5, 3) := by decide +kernel
theorem dd_X9_left_111 : decode X9_left.2.1 111 = .ok (.iload 5, 2) := by decide +kernel
theorem dd_X9_left_113 : decode X9_left.2.1 113 = .ok (.ireturn, 1) := by decide +kernel
theorem dd_X9_isTape_0 : decode X9_isTape.2.1 0 = .ok (.iload_n 0, 1) := by decide +kernel
theorem dd_X9_isTape_1 : decode X9_isTape.2.1 1 = .ok (.i2l, 1) := by decide +kernel
theorem dd_X9_isTape_2 : decode X9_isTape.2.1 2 = .ok (.lconst 0, 1) := by decide +kernel
theorem dd_X9_isTape_3 : decode X9_isTape.2.1 3 = .ok (.ldc2_w 280, 3) := by decide +kernel
theorem dd_X9_isTape_6 : decode X9_isTape.2.1 6 = .ok (.invokestatic 104, 3) := by decide +kernel
theorem dd_X9_isTape_9 : decode X9_isTape.2.1 9 = .ok (.ireturn, 1) := by decide +kernel
theorem dd_X9_isNumber_0 : decode X9_isNumber.2.1 0 = .ok (.iload_n 0, 1) := by decide +kernel
theorem dd_X9_isNumber_1 : decode X9_isNumber.2.1 1 = .ok (.i2l, 1) := by decide +kernel
theorem dd_X9_isNumber_2 : decode X9_isNumber.2.1 2 = .ok (.ldc2_w 282, 3) := by decide +kernel
theorem dd_X9_isNumber_5 : decode X9_isNumber.2.1 5 = .ok (.ldc2_w 284, 3) := by decide +kernel
theorem dd_X9_isNumber_8 : decode X9_isNumber.2.1 8 = .ok (.invokestatic 104, 3) := by decide +kernel
theorem dd_X9_isNumber_11 : decode X9_isNumber.2.1 11 = .ok (.ireturn, 1) := by decide +kernel
theorem dd_X9_tape_0 : decode X9_tape.2.1 0 = .ok (.iload_n 1, 1) := by decide +kernel
theorem dd_X9_tape_1 : decode X9_tape.2.1 1 = .ok (.invokestatic 286, 3) := by decide +kernel
theorem dd_X9_tape_4 : decode X9_tape.2.1 4 = .ok (.ifCond .ne 6, 3) := by decide +kernel
theorem dd_X9_tape_7 : decode X9_tape.2.1 7 = .ok (.bipush (-2), 2) := by decide +kernel
theorem dd_X9_tape_9 : decode X9_tape.2.1 9 = .ok (.ireturn, 1) := by decide +kernel
theorem dd_X9_tape_10 : decode X9_tape.2.1 10 = .ok (.aload_n 0, 1) := by decide +kernel
theorem dd_X9_tape_11 : decode X9_tape.2.1 11 = .ok (.getfield 32, 3) := by decide +kernel
theorem dd_X9_tape_14 : decode X9_tape.2.1 14 = .ok (.iload_n 1, 1) := by decide +kernel
theorem dd_X9_tape_15 : decode X9_tape.2.1 15 = .ok (.iconst 0, 1) := by decide +kernel
theorem dd_X9_tape_16 : decode X9_tape.2.1 16 = .ok (.iastore, 1) := by decide +kernel
theorem dd_X9_tape_17 : decode X9_tape.2.1 17 = .ok (.iconst 0, 1) := by decide +kernel
theorem dd_X9_tape_18 : decode X9_tape.2.1 18 = .ok (.ireturn, 1) := by decide +kernel
theorem dd_X9_putAt_0 : decode X9_putAt.2.1 0 = .ok (.aload_n 0, 1) := by decide +kernel
theorem dd_X9_putAt_1 : decode X9_putAt.2.1 1 = .ok (.getfield 32, 3) := by decide +kernel
theorem dd_X9_putAt_4 : decode X9_putAt.2.1 4 = .ok (.iload_n 1, 1) := by decide +kernel
theorem dd_X9_putAt_5 : decode X9_putAt.2.1 5 = .ok (.iaload, 1) := by decide +kernel
theorem dd_X9_putAt_6 : decode X9_putAt.2.1 6 = .ok (.istore 4, 2) := by decide +kernel
theorem dd_X9_putAt_8 : decode X9_putAt.2.1 8 = .ok (.iload 4, 2) := by decide +kernel
theorem dd_X9_putAt_10 : decode X9_putAt.2.1 10 = .ok (.ifCond .le 39, 3) := by decide +kernel
theorem dd_X9_putAt_13 : decode X9_putAt.2.1 13 = .ok (.iload_n 2, 1) := by decide +kernel
theorem dd_X9_putAt_14 : decode X9_putAt.2.1 14 = .ok (.ifCond .ne 35, 3) := by decide +kernel
theorem dd_X9_putAt_17 : decode X9_putAt.2.1 17 = .ok (.aload_n 0, 1) := by decide +kernel
theorem dd_X9_putAt_18 : decode X9_putAt.2.1 18 = .ok (.getfield 35, 3) := by decide +kernel
theorem dd_X9_putAt_21 : decode X9_putAt.2.1 21 = .ok (.bipush 12, 2) := by decide +kernel
theorem dd_X9_putAt_23 : decode X9_putAt.2.1 23 = .ok (.iload_n 1, 1) := by decide +kernel
theorem dd_X9_putAt_24 : decode X9_putAt.2.1 24 = .ok (.imul, 1) := by decide +kernel
theorem dd_X9_putAt_25 : decode X9_putAt.2.1 25 = .ok (.iload 4, 2) := by decide +kernel
theorem dd_X9_putAt_27 : decode X9_putAt.2.1 27 = .ok (.iadd, 1) := by decide +kernel
theorem dd_X9_putAt_28 : decode X9_putAt.2.1 28 = .ok (.aload_n 0, 1) := by decide +kernel
theorem dd_X9_putAt_29 : decode X9_putAt.2.1 29 = .ok (.getfield 35, 3) := by decide +kernel
theorem dd_X9_putAt_32 : decode X9_putAt.2.1 32 = .ok (.bipush 12, 2) := by decide +kernel
theorem dd_X9_putAt_34 : decode X9_putAt.2.1 34 = .ok (.iload_n 1, 1) := by decide +kernel
theorem dd_X9_putAt_35 : decode X9_putAt.2.1 35 = .ok (.imul, 1) := by decide +kernel
theorem dd_X9_putAt_36 : decode X9_putAt.2.1 36 = .ok (.iload 4, 2) := by decide +kernel
theorem dd_X9_putAt_38 : decode X9_putAt.2.1 38 = .ok (.iadd, 1) := by decide +kernel
theorem dd_X9_putAt_39 : decode X9_putAt.2.1 39 = .ok (.iconst 1, 1) := by decide +kernel
theorem dd_X9_putAt_40 : decode X9_putAt.2.1 40 = .ok (.isub, 1) := by decide +kernel
theorem dd_X9_putAt_41 : decode X9_putAt.2.1 41 = .ok (.iaload, 1) := by decide +kernel
theorem dd_X9_putAt_42 : decode X9_putAt.2.1 42 = .ok (.iastore, 1) := by decide +kernel
theorem dd_X9_putAt_43 : decode X9_putAt.2.1 43 = .ok (.iinc 4 (-1), 3) := by decide +kernel
theorem dd_X9_putAt_46 : decode X9_putAt.2.1 46 = .ok (.goto (-38), 3) := by decide +kernel
theorem dd_X9_putAt_49 : decode X9_putAt.2.1 49 = .ok (.aload_n 0, 1) := by decide +kernel
theorem dd_X9_putAt_50 : decode X9_putAt.2.1 50 = .ok (.getfield 35, 3) := by decide +kernel
theorem dd_X9_putAt_53 : decode X9_putAt.2.1 53 = .ok (.bipush 12, 2) := by decide +kernel
theorem dd_X9_putAt_55 : decode X9_putAt.2.1 55 = .ok (.iload_n 1, 1) := by decide +kernel
theorem dd_X9_putAt_56 : decode X9_putAt.2.1 56 = .ok (.imul, 1) := by decide +kernel
theorem dd_X9_putAt_57 : decode X9_putAt.2.1 57 = .ok (.iload_n 2, 1) := by decide +kernel
theorem dd_X9_putAt_58 : decode X9_putAt.2.1 58 = .ok (.ifCond .ne 7, 3) := by decide +kernel
theorem dd_X9_putAt_61 : decode X9_putAt.2.1 61 = .ok (.iconst 0, 1) := by decide +kernel
theorem dd_X9_putAt_62 : decode X9_putAt.2.1 62 = .ok (.goto 9, 3) := by decide +kernel
theorem dd_X9_putAt_65 : decode X9_putAt.2.1 65 = .ok (.aload_n 0, 1) := by decide +kernel
theorem dd_X9_putAt_66 : decode X9_putAt.2.1 66 = .ok (.getfield 32, 3) := by decide +kernel
theorem dd_X9_putAt_69 : decode X9_putAt.2.1 69 = .ok (.iload_n 1, 1) := by decide +kernel
theorem dd_X9_putAt_70 : decode X9_putAt.2.1 70 = .ok (.iaload, 1) := by decide +kernel
theorem dd_X9_putAt_71 : decode X9_putAt.2.1 71 = .ok (.iadd, 1) := by decide +kernel
theorem dd_X9_putAt_72 : decode X9_putAt.2.1 72 = .ok (.iload_n 3, 1) := by decide +kernel
theorem dd_X9_putAt_73 : decode X9_putAt.2.1 73 = .ok (.iastore, 1) := by decide +kernel
theorem dd_X9_putAt_74 : decode X9_putAt.2.1 74 = .ok (.aload_n 0, 1) := by decide +kernel
theorem dd_X9_putAt_75 : decode X9_putAt.2.1 75 = .ok (.getfield 32, 3) := by decide +kernel
theorem dd_X9_putAt_78 : decode X9_putAt.2.1 78 = .ok (.iload_n 1, 1) := by decide +kernel
theorem dd_X9_putAt_79 : decode X9_putAt.2.1 79 = .ok (.dup2, 1) := by decide +kernel
theorem dd_X9_putAt_80 : decode X9_putAt.2.1 80 = .ok (.iaload, 1) := by decide +kernel
theorem dd_X9_putAt_81 : decode X9_putAt.2.1 81 = .ok (.iconst 1, 1) := by decide +kernel
theorem dd_X9_putAt_82 : decode X9_putAt.2.1 82 = .ok (.iadd, 1) := by decide +kernel
theorem dd_X9_putAt_83 : decode X9_putAt.2.1 83 = .ok (.iastore, 1) := by decide +kernel
theorem dd_X9_putAt_84 : decode X9_putAt.2.1 84 = .ok (.return_, 1) := by decide +kernel
theorem dd_X9_drawAt_0 : decode X9_drawAt.2.1 0 = .ok (.aload_n 0, 1) := by decide +kernel
theorem dd_X9_drawAt_1 : decode X9_drawAt.2.1 1 = .ok (.getfield 35, 3) := by decide +kernel
theorem dd_X9_drawAt_4 : decode X9_drawAt.2.1 4 = .ok (.bipush 12, 2) := by decide +kernel
theorem dd_X9_drawAt_6 : decode X9_drawAt.2.1 6 = .ok (.iload_n 1, 1) := by decide +kernel
theorem dd_X9_drawAt_7 : decode X9_drawAt.2.1 7 = .ok (.imul, 1) := by decide +kernel
theorem dd_X9_drawAt_8 : decode X9_drawAt.2.1 8 = .ok (.iload_n 2, 1) := by decide +kernel
theorem dd_X9_drawAt_9 : decode X9_drawAt.2.1 9 = .ok (.ifCond .ne 7, 3) := by decide +kernel
theorem dd_X9_drawAt_12 : decode X9_drawAt.2.1 12 = .ok (.iconst 0, 1) := by decide +kernel
theorem dd_X9_drawAt_13 : decode X9_drawAt.2.1 13 = .ok (.goto 11, 3) := by decide +kernel
theorem dd_X9_drawAt_16 : decode X9_drawAt.2.1 16 = .ok (.aload_n 0, 1) := by decide +kernel
theorem dd_X9_drawAt_17 : decode X9_drawAt.2.1 17 = .ok (.getfield 32, 3) := by decide +kernel
theorem dd_X9_drawAt_20 : decode X9_drawAt.2.1 20 = .ok (.iload_n 1, 1) := by decide +kernel
theorem dd_X9_drawAt_21 : decode X9_drawAt.2.1 21 = .ok (.iaload, 1) := by decide +kernel
theorem dd_X9_drawAt_22 : decode X9_drawAt.2.1 22 = .ok (.iconst 1, 1) := by decide +kernel
theorem dd_X9_drawAt_23 : decode X9_drawAt.2.1 23 = .ok (.isub, 1) := by decide +kernel
theorem dd_X9_drawAt_24 : decode X9_drawAt.2.1 24 = .ok (.iadd, 1) := by decide +kernel
theorem dd_X9_drawAt_25 : decode X9_drawAt.2.1 25 = .ok (.iaload, 1) := by decide +kernel
theorem dd_X9_drawAt_26 : decode X9_drawAt.2.1 26 = .ok (.istore_n 3, 1) := by decide +kernel
theorem dd_X9_drawAt_27 : decode X9_drawAt.2.1 27 = .ok (.aload_n 0, 1) := by decide +kernel
theorem dd_X9_drawAt_28 : decode X9_drawAt.2.1 28 = .ok (.getfield 32, 3) := by decide +kernel
theorem dd_X9_drawAt_31 : decode X9_drawAt.2.1 31 = .ok (.iload_n 1, 1) := by decide +kernel
theorem dd_X9_drawAt_32 : decode X9_drawAt.2.1 32 = .ok (.dup2, 1) := by decide +kernel
theorem dd_X9_drawAt_33 : decode X9_drawAt.2.1 33 = .ok (.iaload, 1) := by decide +kernel
theorem dd_X9_drawAt_34 : decode X9_drawAt.2.1 34 = .ok (.iconst 1, 1) := by decide +kernel
theorem dd_X9_drawAt_35 : decode X9_drawAt.2.1 35 = .ok (.isub, 1) := by decide +kernel
theorem dd_X9_drawAt_36 : decode X9_drawAt.2.1 36 = .ok (.iastore, 1) := by decide +kernel
theorem dd_X9_drawAt_37 : decode X9_drawAt.2.1 37 = .ok (.iconst 0, 1) := by decide +kernel
theorem dd_X9_drawAt_38 : decode X9_drawAt.2.1 38 = .ok (.istore 4, 2) := by decide +kernel
theorem dd_X9_drawAt_40 : decode X9_drawAt.2.1 40 = .ok (.iload 4, 2) := by decide +kernel
theorem dd_X9_drawAt_42 : decode X9_drawAt.2.1 42 = .ok (.aload_n 0, 1) := by decide +kernel
theorem dd_X9_drawAt_43 : decode X9_drawAt.2.1 43 = .ok (.getfield 32, 3) := by decide +kernel
theorem dd_X9_drawAt_46 : decode X9_drawAt.2.1 46 = .ok (.iload_n 1, 1) := by decide +kernel
theorem dd_X9_drawAt_47 : decode X9_drawAt.2.1 47 = .ok (.iaload, 1) := by decide +kernel
theorem dd_X9_drawAt_48 : decode X9_drawAt.2.1 48 = .ok (.if_icmp .ge 39, 3) := by decide +kernel
theorem dd_X9_drawAt_51 : decode X9_drawAt.2.1 51 = .ok (.iload_n 2, 1) := by decide +kernel
theorem dd_X9_drawAt_52 : decode X9_drawAt.2.1 52 = .ok (.ifCond .ne 35, 3) := by decide +kernel
theorem dd_X9_drawAt_55 : decode X9_drawAt.2.1 55 = .ok (.aload_n 0, 1) := by decide +kernel
theorem dd_X9_drawAt_56 : decode X9_drawAt.2.1 56 = .ok (.getfield 35, 3) := by decide +kernel
theorem dd_X9_drawAt_59 : decode X9_drawAt.2.1 59 = .ok (.bipush 12, 2) := by decide +kernel
theorem dd_X9_drawAt_61 : decode X9_drawAt.2.1 61 = .ok (.iload_n 1, 1) := by decide +kernel
theorem dd_X9_drawAt_62 : decode X9_drawAt.2.1 62 = .ok (.imul, 1) := by decide +kernel
theorem dd_X9_drawAt_63 : decode X9_drawAt.2.1 63 = .ok (.iload 4, 2) := by decide +kernel
theorem dd_X9_drawAt_65 : decode X9_drawAt.2.1 65 = .ok (.iadd, 1) := by decide +kernel
theorem dd_X9_drawAt_66 : decode X9_drawAt.2.1 66 = .ok (.aload_n 0, 1) := by decide +kernel
theorem dd_X9_drawAt_67 : decode X9_drawAt.2.1 67 = .ok (.getfield 35, 3) := by decide +kernel
theorem dd_X9_drawAt_70 : decode X9_drawAt.2.1 70 = .ok (.bipush 12, 2) := by decide +kernel
theorem dd_X9_drawAt_72 : decode X9_drawAt.2.1 72 = .ok (.iload_n 1, 1) := by decide +kernel
theorem dd_X9_drawAt_73 : decode X9_drawAt.2.1 73 = .ok (.imul, 1) := by decide +kernel
theorem dd_X9_drawAt_74 : decode X9_drawAt.2.1 74 = .ok (.iload 4, 2) := by decide +kernel
theorem dd_X9_drawAt_76 : decode X9_drawAt.2.1 76 = .ok (.iadd, 1) := by decide +kernel
theorem dd_X9_drawAt_77 : decode X9_drawAt.2.1 77 = .ok (.iconst 1, 1) := by decide +kernel
theorem dd_X9_drawAt_78 : decode X9_drawAt.2.1 78 = .ok (.iadd, 1) := by decide +kernel
theorem dd_X9_drawAt_79 : decode X9_drawAt.2.1 79 = .ok (.iaload, 1) := by decide +kernel
theorem dd_X9_drawAt_80 : decode X9_drawAt.2.1 80 = .ok (.iastore, 1) := by decide +kernel
theorem dd_X9_drawAt_81 : decode X9_drawAt.2.1 81 = .ok (.iinc 4 1, 3) := by decide +kernel
theorem dd_X9_drawAt_84 : decode X9_drawAt.2.1 84 = .ok (.goto (-44), 3) := by decide +kernel
theorem dd_X9_drawAt_87 : decode X9_drawAt.2.1 87 = .ok (.iload_n 3, 1) := by decide +kernel
theorem dd_X9_drawAt_88 : decode X9_drawAt.2.1 88 = .ok (.ireturn, 1) := by decide +kernel
theorem dd_X9_put_0 : decode X9_put.2.1 0 = .ok (.iload_n 1, 1) := by decide +kernel
theorem dd_X9_put_1 : decode X9_put.2.1 1 = .ok (.invokestatic 286, 3) := by decide +kernel
theorem dd_X9_put_4 : decode X9_put.2.1 4 = .ok (.ifCond .ne 6, 3) := by decide +kernel
theorem dd_X9_put_7 : decode X9_put.2.1 7 = .ok (.bipush (-2), 2) := by decide +kernel
theorem dd_X9_put_9 : decode X9_put.2.1 9 = .ok (.ireturn, 1) := by decide +kernel
theorem dd_X9_put_10 : decode X9_put.2.1 10 = .ok (.iload_n 2, 1) := by decide +kernel
theorem dd_X9_put_11 : decode X9_put.2.1 11 = .ok (.i2l, 1) := by decide +kernel
theorem dd_X9_put_12 : decode X9_put.2.1 12 = .ok (.lconst 0, 1) := by decide +kernel
theorem dd_X9_put_13 : decode X9_put.2.1 13 = .ok (.lconst 1, 1) := by decide +kernel
theorem dd_X9_put_14 : decode X9_put.2.1 14 = .ok (.invokestatic 104, 3) := by decide +kernel
theorem dd_X9_put_17 : decode X9_put.2.1 17 = .ok (.ifCond .eq 10, 3) := by decide +kernel
theorem dd_X9_put_20 : decode X9_put.2.1 20 = .ok (.iload_n 3, 1) := by decide +kernel
theorem dd_X9_put_21 : decode X9_put.2.1 21 = .ok (.invokestatic 289, 3) := by decide +kernel
theorem dd_X9_put_24 : decode X9_put.2.1 24 = .ok (.ifCond .ne 6, 3) := by decide +kernel
theorem dd_X9_put_27 : decode X9_put.2.1 27 = .ok (.bipush (-3), 2) := by decide +kernel
theorem dd_X9_put_29 : decode X9_put.2.1 29 = .ok (.ireturn, 1) := by decide +kernel
theorem dd_X9_put_30 : decode X9_put.2.1 30 = .ok (.aload_n 0, 1) := by decide +kernel
theorem dd_X9_put_31 : decode X9_put.2.1 31 = .ok (.getfield 32, 3) := by decide +kernel
theorem dd_X9_put_34 : decode X9_put.2.1 34 = .ok (.iload_n 1, 1) := by decide +kernel
theorem dd_X9_put_35 : decode X9_put.2.1 35 = .ok (.iaload, 1) := by decide +kernel
theorem dd_X9_put_36 : decode X9_put.2.1 36 = .ok (.ifCond .ge 6, 3) := by decide +kernel
theorem dd_X9_put_39 : decode X9_put.2.1 39 = .ok (.bipush (-11), 2) := by decide +kernel
theorem dd_X9_put_41 : decode X9_put.2.1 41 = .ok (.ireturn, 1) := by decide +kernel
theorem dd_X9_put_42 : decode X9_put.2.1 42 = .ok (.aload_n 0, 1) := by decide +kernel
theorem dd_X9_put_43 : decode X9_put.2.1 43 = .ok (.getfield 32, 3) := by decide +kernel
theorem dd_X9_put_46 : decode X9_put.2.1 46 = .ok (.iload_n 1, 1) := by decide +kernel
theorem dd_X9_put_47 : decode X9_put.2.1 47 = .ok (.iaload, 1) := by decide +kernel
theorem dd_X9_put_48 : decode X9_put.2.1 48 = .ok (.bipush 12, 2) := by decide +kernel
theorem dd_X9_put_50 : decode X9_put.2.1 50 = .ok (.if_icmp .ne 6, 3) := by decide +kernel
theorem dd_X9_put_53 : decode X9_put.2.1 53 = .ok (.bipush (-13), 2) := by decide +kernel
theorem dd_X9_put_55 : decode X9_put.2.1 55 = .ok (.ireturn, 1) := by decide +kernel
theorem dd_X9_put_56 : decode X9_put.2.1 56 = .ok (.aload_n 0, 1) := by decide +kernel
theorem dd_X9_put_57 : decode X9_put.2.1 57 = .ok (.iload_n 1, 1) := by decide +kernel
theorem dd_X9_put_58 : decode X9_put.2.1 58 = .ok (.iload_n 2, 1) := by decide +kernel
theorem dd_X9_put_59 : decode X9_put.2.1 59 = .ok (.iload_n 3, 1) := by decide +kernel
theorem dd_X9_put_60 : decode X9_put.2.1 60 = .ok (.invokevirtual 292, 3) := by decide +kernel
theorem dd_X9_put_63 : decode X9_put.2.1 63 = .ok (.aload_n 0, 1) := by decide +kernel
theorem dd_X9_put_64 : decode X9_put.2.1 64 = .ok (.getfield 32, 3) := by decide +kernel
theorem dd_X9_put_67 : decode X9_put.2.1 67 = .ok (.iload_n 1, 1) := by decide +kernel
theorem dd_X9_put_68 : decode X9_put.2.1 68 = .ok (.iaload, 1) := by decide +kernel
theorem dd_X9_put_69 : decode X9_put.2.1 69 = .ok (.ireturn, 1) := by decide +kernel
theorem dd_X9_draw_0 : decode X9_draw.2.1 0 = .ok (.iload_n 1, 1) := by decide +kernel
theorem dd_X9_draw_1 : decode X9_draw.2.1 1 = .ok (.invokestatic 286, 3) := by decide +kernel
theorem dd_X9_draw_4 : decode X9_draw.2.1 4 = .ok (.ifCond .ne 6, 3) := by decide +kernel
theorem dd_X9_draw_7 : decode X9_draw.2.1 7 = .ok (.bipush (-2), 2) := by decide +kernel
theorem dd_X9_draw_9 : decode X9_draw.2.1 9 = .ok (.ireturn, 1) := by decide +kernel
theorem dd_X9_draw_10 : decode X9_draw.2.1 10 = .ok (.iload_n 2, 1) := by decide +kernel
theorem dd_X9_draw_11 : decode X9_draw.2.1 11 = .ok (.i2l, 1) := by decide +kernel
theorem dd_X9_draw_12 : decode X9_draw.2.1 12 = .ok (.lconst 0, 1) := by decide +kernel
theorem dd_X9_draw_13 : decode X9_draw.2.1 13 = .ok (.lconst 1, 1) := by decide +kernel
theorem dd_X9_draw_14 : decode X9_draw.2.1 14 = .ok (.invokestatic 104, 3) := by decide +kernel
theorem dd_X9_draw_17 : decode X9_draw.2.1 17 = .ok (.ifCond .ne 6, 3) := by decide +kernel
theorem dd_X9_draw_20 : decode X9_draw.2.1 20 = .ok (.bipush (-3), 2) := by decide +kernel
theorem dd_X9_draw_22 : decode X9_draw.2.1 22 = .ok (.ireturn, 1) := by decide +kernel
theorem dd_X9_draw_23 : decode X9_draw.2.1 23 = .ok (.aload_n 0, 1) := by decide +kernel
theorem dd_X9_draw_24 : decode X9_draw.2.1 24 = .ok (.getfield 32, 3) := by decide +kernel
theorem dd_X9_draw_27 : decode X9_draw.2.1 27 = .ok (.iload_n 1, 1) := by decide +kernel
theorem dd_X9_draw_28 : decode X9_draw.2.1 28 = .ok (.iaload, 1) := by decide +kernel
theorem dd_X9_draw_29 : decode X9_draw.2.1 29 = .ok (.ifCond .ge 8, 3) := by decide +kernel
theorem dd_X9_draw_32 : decode X9_draw.2.1 32 = .ok (.bipush (-11), 2) := by decide +kernel
theorem dd_X9_draw_34 : decode X9_draw.2.1 34 = .ok (.goto 27, 3) := by decide +kernel
theorem dd_X9_draw_37 : decode X9_draw.2.1 37 = .ok (.aload_n 0, 1) := by decide +kernel
theorem dd_X9_draw_38 : decode X9_draw.2.1 38 = .ok (.getfield 32, 3) := by decide +kernel
theorem dd_X9_draw_41 : decode X9_draw.2.1 41 = .ok (.iload_n 1, 1) := by decide +kernel
theorem dd_X9_draw_42 : decode X9_draw.2.1 42 = .ok (.iaload, 1) := by decide +kernel
theorem dd_X9_draw_43 : decode X9_draw.2.1 43 = .ok (.ifCond .ne 8, 3) := by decide +kernel
theorem dd_X9_draw_46 : decode X9_draw.2.1 46 = .ok (.bipush (-12), 2) := by decide +kernel
theorem dd_X9_draw_48 : decode X9_draw.2.1 48 = .ok (.goto 13, 3) := by decide +kernel
theorem dd_X9_draw_51 : decode X9_draw.2.1 51 = .ok (.aload_n 0, 1) := by decide +kernel
theorem dd_X9_draw_52 : decode X9_draw.2.1 52 = .ok (.iload_n 1, 1) := by decide +kernel
theorem dd_X9_draw_53 : decode X9_draw.2.1 53 = .ok (.iload_n 2, 1) := by decide +kernel
theorem dd_X9_draw_54 : decode X9_draw.2.1 54 = .ok (.invokevirtual 296, 3) := by decide +kernel
theorem dd_X9_draw_57 : decode X9_draw.2.1 57 = .ok (.ldc_w 299, 3) := by decide +kernel
theorem dd_X9_draw_60 : decode X9_draw.2.1 60 = .ok (.iadd, 1) := by decide +kernel
theorem dd_X9_draw_61 : decode X9_draw.2.1 61 = .ok (.ireturn, 1) := by decide +kernel
theorem dd_X9_turn_0 : decode X9_turn.2.1 0 = .ok (.iload_n 1, 1) := by decide +kernel
theorem dd_X9_turn_1 : decode X9_turn.2.1 1 = .ok (.invokestatic 286, 3) := by decide +kernel
theorem dd_X9_turn_4 : decode X9_turn.2.1 4 = .ok (.ifCond .ne 6, 3) := by decide +kernel
theorem dd_X9_turn_7 : decode X9_turn.2.1 7 = .ok (.bipush (-2), 2) := by decide +kernel
theorem dd_X9_turn_9 : decode X9_turn.2.1 9 = .ok (.ireturn, 1) := by decide +kernel
theorem dd_X9_turn_10 : decode X9_turn.2.1 10 = .ok (.iload_n 2, 1) := by decide +kernel
theorem dd_X9_turn_11 : decode X9_turn.2.1 11 = .ok (.i2l, 1) := by decide +kernel
theorem dd_X9_turn_12 : decode X9_turn.2.1 12 = .ok (.lconst 0, 1) := by decide +kernel
theorem dd_X9_turn_13 : decode X9_turn.2.1 13 = .ok (.ldc2_w 234, 3) := by decide +kernel
theorem dd_X9_turn_16 : decode X9_turn.2.1 16 = .ok (.invokestatic 104, 3) := by decide +kernel
theorem dd_X9_turn_19 : decode X9_turn.2.1 19 = .ok (.ifCond .ne 6, 3) := by decide +kernel
theorem dd_X9_turn_22 : decode X9_turn.2.1 22 = .ok (.bipush (-3), 2) := by decide +kernel
theorem dd_X9_turn_24 : decode X9_turn.2.1 24 = .ok (.ireturn, 1) := by decide +kernel
theorem dd_X9_turn_25 : decode X9_turn.2.1 25 = .ok (.aload_n 0, 1) := by decide +kernel
theorem dd_X9_turn_26 : decode X9_turn.2.1 26 = .ok (.getfield 32, 3) := by decide +kernel
theorem dd_X9_turn_29 : decode X9_turn.2.1 29 = .ok (.iload_n 1, 1) := by decide +kernel
theorem dd_X9_turn_30 : decode X9_turn.2.1 30 = .ok (.iaload, 1) := by decide +kernel
theorem dd_X9_turn_31 : decode X9_turn.2.1 31 = .ok (.iconst 1, 1) := by decide +kernel
theorem dd_X9_turn_32 : decode X9_turn.2.1 32 = .ok (.if_icmp .ge 20, 3) := by decide +kernel
theorem dd_X9_turn_35 : decode X9_turn.2.1 35 = .ok (.aload_n 0, 1) := by decide +kernel
theorem dd_X9_turn_36 : decode X9_turn.2.1 36 = .ok (.getfield 32, 3) := by decide +kernel
theorem dd_X9_turn_39 : decode X9_turn.2.1 39 = .ok (.iload_n 1, 1) := by decide +kernel
theorem dd_X9_turn_40 : decode X9_turn.2.1 40 = .ok (.iaload, 1) := by decide +kernel
theorem dd_X9_turn_41 : decode X9_turn.2.1 41 = .ok (.ifCond .ge 8, 3) := by decide +kernel
theorem dd_X9_turn_44 : decode X9_turn.2.1 44 = .ok (.bipush (-11), 2) := by decide +kernel
theorem dd_X9_turn_46 : decode X9_turn.2.1 46 = .ok (.goto 5, 3) := by decide +kernel
theorem dd_X9_turn_49 : decode X9_turn.2.1 49 = .ok (.bipush (-12), 2) := by decide +kernel
theorem dd_X9_turn_51 : decode X9_turn.2.1 51 = .ok (.ireturn, 1) := by decide +kernel
theorem dd_X9_turn_52 : decode X9_turn.2.1 52 = .ok (.iconst 0, 1) := by decide +kernel
theorem dd_X9_turn_53 : decode X9_turn.2.1 53 = .ok (.istore_n 3, 1) := by decide +kernel
theorem dd_X9_turn_54 : decode X9_turn.2.1 54 = .ok (.iload_n 3, 1) := by decide +kernel
theorem dd_X9_turn_55 : decode X9_turn.2.1 55 = .ok (.iload_n 2, 1) := by decide +kernel
theorem dd_X9_turn_56 : decode X9_turn.2.1 56 = .ok (.if_icmp .ge 21, 3) := by decide +kernel
theorem dd_X9_turn_59 : decode X9_turn.2.1 59 = .ok (.aload_n 0, 1) := by decide +kernel
theorem dd_X9_turn_60 : decode X9_turn.2.1 60 = .ok (.iload_n 1, 1) := by decide +kernel
theorem dd_X9_turn_61 : decode X9_turn.2.1 61 = .ok (.iconst 1, 1) := by decide +kernel
theorem dd_X9_turn_62 : decode X9_turn.2.1 62 = .ok (.aload_n 0, 1) := by decide +kernel
theorem dd_X9_turn_63 : decode X9_turn.2.1 63 = .ok (.iload_n 1, 1) := by decide +kernel
theorem dd_X9_turn_64 : decode X9_turn.2.1 64 = .ok (.iconst 0, 1) := by decide +kernel
theorem dd_X9_turn_65 : decode X9_turn.2.1 65 = .ok (.invokevirtual 296, 3) := by decide +kernel
theorem dd_X9_turn_68 : decode X9_turn.2.1 68 = .ok (.invokevirtual 292, 3) := by decide +kernel
theorem dd_X9_turn_71 : decode X9_turn.2.1 71 = .ok (.iinc 3 1, 3) := by decide +kernel
theorem dd_X9_turn_74 : decode X9_turn.2.1 74 = .ok (.goto (-20), 3) := by decide +kernel
theorem dd_X9_turn_77 : decode X9_turn.2.1 77 = .ok (.aload_n 0, 1) := by decide +kernel
theorem dd_X9_turn_78 : decode X9_turn.2.1 78 = .ok (.getfield 32, 3) := by decide +kernel
theorem dd_X9_turn_81 : decode X9_turn.2.1 81 = .ok (.iload_n 1, 1) := by decide +kernel
theorem dd_X9_turn_82 : decode X9_turn.2.1 82 = .ok (.iaload, 1) := by decide +kernel
theorem dd_X9_turn_83 : decode X9_turn.2.1 83 = .ok (.ireturn, 1) := by decide +kernel
theorem dd_X9_find_0 : decode X9_find.2.1 0 = .ok (.iload_n 1, 1) := by decide +kernel
theorem dd_X9_find_1 : decode X9_find.2.1 1 = .ok (.invokestatic 286, 3) := by decide +kernel
theorem dd_X9_find_4 : decode X9_find.2.1 4 = .ok (.ifCond .ne 6, 3) := by decide +kernel
theorem dd_X9_find_7 : decode X9_find.2.1 7 = .ok (.bipush (-2), 2) := by decide +kernel
theorem dd_X9_find_9 : decode X9_find.2.1 9 = .ok (.ireturn, 1) := by decide +kernel
theorem dd_X9_find_10 : decode X9_find.2.1 10 = .ok (.iload_n 2, 1) := by decide +kernel
theorem dd_X9_find_11 : decode X9_find.2.1 11 = .ok (.i2l, 1) := by decide +kernel
theorem dd_X9_find_12 : decode X9_find.2.1 12 = .ok (.lconst 0, 1) := by decide +kernel
theorem dd_X9_find_13 : decode X9_find.2.1 13 = .ok (.ldc2_w 280, 3) := by decide +kernel
theorem dd_X9_find_16 : decode X9_find.2.1 16 = .ok (.invokestatic 104, 3) := by decide +kernel
theorem dd_X9_find_19 : decode X9_find.2.1 19 = .ok (.ifCond .eq 10, 3) := by decide +kernel
theorem dd_X9_find_22 : decode X9_find.2.1 22 = .ok (.iload_n 3, 1) := by decide +kernel
theorem dd_X9_find_23 : decode X9_find.2.1 23 = .ok (.invokestatic 289, 3) := by decide +kernel
theorem dd_X9_find_26 : decode X9_find.2.1 26 = .ok (.ifCond .ne 6, 3) := by decide +kernel
theorem dd_X9_find_29 : decode X9_find.2.1 29 = .ok (.bipush (-3), 2) := by decide +kernel
theorem dd_X9_find_31 : decode X9_find.2.1 31 = .ok (.ireturn, 1) := by decide +kernel
theorem dd_X9_find_32 : decode X9_find.2.1 32 = .ok (.aload_n 0, 1) := by decide +kernel
theorem dd_X9_find_33 : decode X9_find.2.1 33 = .ok (.getfield 32, 3) := by decide +kernel
theorem dd_X9_find_36 : decode X9_find.2.1 36 = .ok (.iload_n 1, 1) := by decide +kernel
theorem dd_X9_find_37 : decode X9_find.2.1 37 = .ok (.iaload, 1) := by decide +kernel
theorem dd_X9_find_38 : decode X9_find.2.1 38 = .ok (.ifCond .ge 6, 3) := by decide +kernel
theorem dd_X9_find_41 : decode X9_find.2.1 41 = .ok (.bipush (-11), 2) := by decide +kernel
theorem dd_X9_find_43 : decode X9_find.2.1 43 = .ok (.ireturn, 1) := by decide +kernel
theorem dd_X9_find_44 : decode X9_find.2.1 44 = .ok (.ldc_w 300, 3) := by decide +kernel
theorem dd_X9_find_47 : decode X9_find.2.1 47 = .ok (.istore 4, 2) := by decide +kernel
theorem dd_X9_find_49 : decode X9_find.2.1 49 = .ok (.ldc_w 301, 3) := by decide +kernel
theorem dd_X9_find_52 : decode X9_find.2.1 52 = .ok (.istore 5, 2) := by decide +kernel
theorem dd_X9_find_54 : decode X9_find.2.1 54 = .ok (.iconst 0, 1) := by decide +kernel
theorem dd_X9_find_55 : decode X9_find.2.1 55 = .ok (.istore 6, 2) := by decide +kernel
theorem dd_X9_find_57 : decode X9_find.2.1 57 = .ok (.bipush 12, 2) := by decide +kernel
theorem dd_X9_find_59 : decode X9_find.2.1 59 = .ok (.iload_n 1, 1) := by decide +kernel
theorem dd_X9_find_60 : decode X9_find.2.1 60 = .ok (.imul, 1) := by decide +kernel
theorem dd_X9_find_61 : decode X9_find.2.1 61 = .ok (.istore 7, 2) := by decide +kernel
theorem dd_X9_find_63 : decode X9_find.2.1 63 = .ok (.iload 7, 2) := by decide +kernel
theorem dd_X9_find_65 : decode X9_find.2.1 65 = .ok (.bipush 12, 2) := by decide +kernel
theorem dd_X9_find_67 : decode X9_find.2.1 67 = .ok (.iload_n 1, 1) := by decide +kernel
theorem dd_X9_find_68 : decode X9_find.2.1 68 = .ok (.imul, 1) := by decide +kernel
theorem dd_X9_find_69 : decode X9_find.2.1 69 = .ok (.aload_n 0, 1) := by decide +kernel
theorem dd_X9_find_70 : decode X9_find.2.1 70 = .ok (.getfield 32, 3) := by decide +kernel
theorem dd_X9_find_73 : decode X9_find.2.1 73 = .ok (.iload_n 1, 1) := by decide +kernel
theorem dd_X9_find_74 : decode X9_find.2.1 74 = .ok (.iaload, 1) := by decide +kernel
theorem dd_X9_find_75 : decode X9_find.2.1 75 = .ok (.iadd, 1) := by decide +kernel
theorem dd_X9_find_76 : decode X9_find.2.1 76 = .ok (.if_icmp .ge 82, 3) := by decide +kernel
theorem dd_X9_find_79 : decode X9_find.2.1 79 = .ok (.aload_n 0, 1) := by decide +kernel
theorem dd_X9_find_80 : decode X9_find.2.1 80 = .ok (.getfield 35, 3) := by decide +kernel
theorem dd_X9_find_83 : decode X9_find.2.1 83 = .ok (.iload 7, 2) := by decide +kernel
theorem dd_X9_find_85 : decode X9_find.2.1 85 = .ok (.iaload, 1) := by decide +kernel
theorem dd_X9_find_86 : decode X9_find.2.1 86 = .ok (.iload 4, 2) := by decide +kernel
theorem dd_X9_find_88 : decode X9_find.2.1 88 = .ok (.if_icmp .le 13, 3) := by decide +kernel
theorem dd_X9_find_91 : decode X9_find.2.1 91 = .ok (.aload_n 0, 1) := by decide +kernel
theorem dd_X9_find_92 : decode X9_find.2.1 92 = .ok (.getfield 35, 3) := by decide +kernel
theorem dd_X9_find_95 : decode X9_find.2.1 95 = .ok (.iload 7, 2) := by decide +kernel
theorem dd_X9_find_97 : decode X9_find.2.1 97 = .ok (.iaload, 1) := by decide +kernel
theorem dd_X9_find_98 : decode X9_find.2.1 98 = .ok (.goto 5, 3) := by decide +kernel
theorem dd_X9_find_101 : decode X9_find.2.1 101 = .ok (.iload 4, 2) := by decide +kernel
theorem dd_X9_find_103 : decode X9_find.2.1 103 = .ok (.istore 4, 2) := by decide +kernel
theorem dd_X9_find_105 : decode X9_find.2.1 105 = .ok (.aload_n 0, 1) := by decide +kernel
theorem dd_X9_find_106 : decode X9_find.2.1 106 = .ok (.getfield 35, 3) := by decide +kernel
theorem dd_X9_find_109 : decode X9_find.2.1 109 = .ok (.iload 7, 2) := by decide +kernel
theorem dd_X9_find_111 : decode X9_find.2.1 111 = .ok (.iaload, 1) := by decide +kernel
theorem dd_X9_find_112 : decode X9_find.2.1 112 = .ok (.iload 5, 2) := by decide +kernel
theorem dd_X9_find_114 : decode X9_find.2.1 114 = .ok (.if_icmp .ge 13, 3) := by decide +kernel
theorem dd_X9_find_117 : decode X9_find.2.1 117 = .ok (.aload_n 0, 1) := by decide +kernel
theorem dd_X9_find_118 : decode X9_find.2.1 118 = .ok (.getfield 35, 3) := by decide +kernel
theorem dd_X9_find_121 : decode X9_find.2.1 121 = .ok (.iload 7, 2) := by decide +kernel
theorem dd_X9_find_123 : decode X9_find.2.1 123 = .ok (.iaload, 1) := by decide +kernel
theorem dd_X9_find_124 : decode X9_find.2.1 124 = .ok (.goto 5, 3) := by decide +kernel
theorem dd_X9_find_127 : decode X9_find.2.1 127 = .ok (.iload 5, 2) := by decide +kernel
theorem dd_X9_find_129 : decode X9_find.2.1 129 = .ok (.istore 5, 2) := by decide +kernel
theorem dd_X9_find_131 : decode X9_find.2.1 131 = .ok (.iload 6, 2) := by decide +kernel
theorem dd_X9_find_133 : decode X9_find.2.1 133 = .ok (.aload_n 0, 1) := by decide +kernel
theorem dd_X9_find_134 : decode X9_find.2.1 134 = .ok (.getfield 35, 3) := by decide +kernel
theorem dd_X9_find_137 : decode X9_find.2.1 137 = .ok (.iload 7, 2) := by decide +kernel
theorem dd_X9_find_139 : decode X9_find.2.1 139 = .ok (.iaload, 1) := by decide +kernel
theorem dd_X9_find_140 : decode X9_find.2.1 140 = .ok (.iload_n 3, 1) := by decide +kernel
theorem dd_X9_find_141 : decode X9_find.2.1 141 = .ok (.if_icmp .ne 7, 3) := by decide +kernel
theorem dd_X9_find_144 : decode X9_find.2.1 144 = .ok (.iconst 1, 1) := by decide +kernel
theorem dd_X9_find_145 : decode X9_find.2.1 145 = .ok (.goto 4, 3) := by decide +kernel
theorem dd_X9_find_148 : decode X9_find.2.1 148 = .ok (.iconst 0, 1) := by decide +kernel
theorem dd_X9_find_149 : decode X9_find.2.1 149 = .ok (.iadd, 1) := by decide +kernel
theorem dd_X9_find_150 : decode X9_find.2.1 150 = .ok (.istore 6, 2) := by decide +kernel
theorem dd_X9_find_152 : decode X9_find.2.1 152 = .ok (.iinc 7 1, 3) := by decide +kernel
theorem dd_X9_find_155 : decode X9_find.2.1 155 = .ok (.goto (-92), 3) := by decide +kernel
theorem dd_X9_find_158 : decode X9_find.2.1 158 = .ok (.iload_n 2, 1) := by decide +kernel
theorem dd_X9_find_159 : decode X9_find.2.1 159 = .ok (.iconst 2, 1) := by decide +kernel
theorem dd_X9_find_160 : decode X9_find.2.1 160 = .ok (.if_icmp .ne 8, 3) := by decide +kernel
theorem dd_X9_find_163 : decode X9_find.2.1 163 = .ok (.iload 6, 2) := by decide +kernel
theorem dd_X9_find_165 : decode X9_find.2.1 165 = .ok (.goto 32, 3) := by decide +kernel
theorem dd_X9_find_168 : decode X9_find.2.1 168 = .ok (.aload_n 0, 1) := by decide +kernel
theorem dd_X9_find_169 : decode X9_find.2.1 169 = .ok (.getfield 32, 3) := by decide +kernel
theorem dd_X9_find_172 : decode X9_find.2.1 172 = .ok (.iload_n 1, 1) := by decide +kernel
theorem dd_X9_find_173 : decode X9_find.2.1 173 = .ok (.iaload, 1) := by decide +kernel
theorem dd_X9_find_174 : decode X9_find.2.1 174 = .ok (.ifCond .ne 8, 3) := by decide +kernel
theorem dd_X9_find_177 : decode X9_find.2.1 177 = .ok (.bipush (-12), 2) := by decide +kernel
theorem dd_X9_find_179 : decode X9_find.2.1 179 = .ok (.goto 18, 3) := by decide +kernel
theorem dd_X9_find_182 : decode X9_find.2.1 182 = .ok (.ldc_w 299, 3) := by decide +kernel
theorem dd_X9_find_185 : decode X9_find.2.1 185 = .ok (.iload_n 2, 1) := by decide +kernel
theorem dd_X9_find_186 : decode X9_find.2.1 186 = .ok (.ifCond .ne 8, 3) := by decide +kernel
theorem dd_X9_find_189 : decode X9_find.2.1 189 = .ok (.iload 4, 2) := by decide +kernel
theorem dd_X9_find_191 : decode X9_find.2.1 191 = .ok (.goto 5, 3) := by decide +kernel
theorem dd_X9_find_194 : decode X9_find.2.1 194 = .ok (.iload 5, 2) := by decide +kernel
theorem dd_X9_find_196 : decode X9_find.2.1 196 = .ok (.iadd, 1) := by decide +kernel
theorem dd_X9_find_197 : decode X9_find.2.1 197 = .ok (.ireturn, 1) := by decide +kernel
theorem dd_X9_strike_0 : decode X9_strike.2.1 0 = .ok (.iload_n 1, 1) := by decide +kernel
theorem dd_X9_strike_1 : decode X9_strike.2.1 1 = .ok (.invokestatic 286, 3) := by decide +kernel
theorem dd_X9_strike_4 : decode X9_strike.2.1 4 = .ok (.ifCond .ne 6, 3) := by decide +kernel
theorem dd_X9_strike_7 : decode X9_strike.2.1 7 = .ok (.bipush (-2), 2) := by decide +kernel
theorem dd_X9_strike_9 : decode X9_strike.2.1 9 = .ok (.ireturn, 1) := by decide +kernel
theorem dd_X9_strike_10 : decode X9_strike.2.1 10 = .ok (.iload_n 2, 1) := by decide +kernel
theorem dd_X9_strike_11 : decode X9_strike.2.1 11 = .ok (.invokestatic 289, 3) := by decide +kernel
theorem dd_X9_strike_14 : decode X9_strike.2.1 14 = .ok (.ifCond .ne 6, 3) := by decide +kernel
theorem dd_X9_strike_17 : decode X9_strike.2.1 17 = .ok (.bipush (-3), 2) := by decide +kernel
theorem dd_X9_strike_19 : decode X9_strike.2.1 19 = .ok (.ireturn, 1) := by decide +kernel
theorem dd_X9_strike_20 : decode X9_strike.2.1 20 = .ok (.aload_n 0, 1) := by decide +kernel
theorem dd_X9_strike_21 : decode X9_strike.2.1 21 = .ok (.getfield 32, 3) := by decide +kernel
theorem dd_X9_strike_24 : decode X9_strike.2.1 24 = .ok (.iload_n 1, 1) := by decide +kernel
theorem dd_X9_strike_25 : decode X9_strike.2.1 25 = .ok (.iaload, 1) := by decide +kernel
theorem dd_X9_strike_26 : decode X9_strike.2.1 26 = .ok (.ifCond .ge 6, 3) := by decide +kernel
theorem dd_X9_strike_29 : decode X9_strike.2.1 29 = .ok (.bipush (-11), 2) := by decide +kernel
theorem dd_X9_strike_31 : decode X9_strike.2.1 31 = .ok (.ireturn, 1) := by decide +kernel
theorem dd_X9_strike_32 : decode X9_strike.2.1 32 = .ok (.iconst 0, 1) := by decide +kernel
theorem dd_X9_strike_33 : decode X9_strike.2.1 33 = .ok (.istore_n 3, 1) := by decide +kernel
theorem dd_X9_strike_34 : decode X9_strike.2.1 34 = .ok (.iconst 0, 1) := by decide +kernel
theorem dd_X9_strike_35 : decode X9_strike.2.1 35 = .ok (.istore 4, 2) := by decide +kernel
theorem dd_X9_strike_37 : decode X9_strike.2.1 37 = .ok (.iload 4, 2) := by decide +kernel
theorem dd_X9_strike_39 : decode X9_strike.2.1 39 = .ok (.aload_n 0, 1) := by decide +kernel
theorem dd_X9_strike_40 : decode X9_strike.2.1 40 = .ok (.getfield 32, 3) := by decide +kernel
theorem dd_X9_strike_43 : decode X9_strike.2.1 43 = .ok (.iload_n 1, 1) := by decide +kernel
theorem dd_X9_strike_44 : decode X9_strike.2.1 44 = .ok (.iaload, 1) := by decide +kernel
theorem dd_X9_strike_45 : decode X9_strike.2.1 45 = .ok (.if_icmp .ge 51, 3) := by decide +kernel
theorem dd_X9_strike_48 : decode X9_strike.2.1 48 = .ok (.aload_n 0, 1) := by decide +kernel
theorem dd_X9_strike_49 : decode X9_strike.2.1 49 = .ok (.getfield 35, 3) := by decide +kernel
theorem dd_X9_strike_52 : decode X9_strike.2.1 52 = .ok (.bipush 12, 2) := by decide +kernel
theorem dd_X9_strike_54 : decode X9_strike.2.1 54 = .ok (.iload_n 1, 1) := by decide +kernel
theorem dd_X9_strike_55 : decode X9_strike.2.1 55 = .ok (.imul, 1) := by decide +kernel
theorem dd_X9_strike_56 : decode X9_strike.2.1 56 = .ok (.iload 4, 2) := by decide +kernel
theorem dd_X9_strike_58 : decode X9_strike.2.1 58 = .ok (.iadd, 1) := by decide +kernel
theorem dd_X9_strike_59 : decode X9_strike.2.1 59 = .ok (.iaload, 1) := by decide +kernel
theorem dd_X9_strike_60 : decode X9_strike.2.1 60 = .ok (.iload_n 2, 1) := by decide +kernel
theorem dd_X9_strike_61 : decode X9_strike.2.1 61 = .ok (.if_icmp .eq 29, 3) := by decide +kernel
theorem dd_X9_strike_64 : decode X9_strike.2.1 64 = .ok (.aload_n 0, 1) := by decide +kernel
theorem dd_X9_strike_65 : decode X9_strike.2.1 65 = .ok (.getfield 35, 3) := by decide +kernel
theorem dd_X9_strike_68 : decode X9_strike.2.1 68 = .ok (.bipush 12, 2) := by decide +kernel
theorem dd_X9_strike_70 : decode X9_strike.2.1 70 = .ok (.iload_n 1, 1) := by decide +kernel
theorem dd_X9_strike_71 : decode X9_strike.2.1 71 = .ok (.imul, 1) := by decide +kernel
theorem dd_X9_strike_72 : decode X9_strike.2.1 72 = .ok (.iload_n 3, 1) := by decide +kernel
theorem dd_X9_strike_73 : decode X9_strike.2.1 73 = .ok (.iadd, 1) := by decide +kernel
theorem dd_X9_strike_74 : decode X9_strike.2.1 74 = .ok (.aload_n 0, 1) := by decide +kernel
theorem dd_X9_strike_75 : decode X9_strike.2.1 75 = .ok (.getfield 35, 3) := by decide +kernel
theorem dd_X9_strike_78 : decode X9_strike.2.1 78 = .ok (.bipush 12, 2) := by decide +kernel
theorem dd_X9_strike_80 : decode X9_strike.2.1 80 = .ok (.iload_n 1, 1) := by decide +kernel
theorem dd_X9_strike_81 : decode X9_strike.2.1 81 = .ok (.imul, 1) := by decide +kernel
theorem dd_X9_strike_82 : decode X9_strike.2.1 82 = .ok (.iload 4, 2) := by decide +kernel
theorem dd_X9_strike_84 : decode X9_strike.2.1 84 = .ok (.iadd, 1) := by decide +kernel
theorem dd_X9_strike_85 : decode X9_strike.2.1 85 = .ok (.iaload, 1) := by decide +kernel
theorem dd_X9_strike_86 : decode X9_strike.2.1 86 = .ok (.iastore, 1) := by decide +kernel
theorem dd_X9_strike_87 : decode X9_strike.2.1 87 = .ok (.iinc 3 1, 3) := by decide +kernel
theorem dd_X9_strike_90 : decode X9_strike.2.1 90 = .ok (.iinc 4 1, 3) := by decide +kernel
theorem dd_X9_strike_93 : decode X9_strike.2.1 93 = .ok (.goto (-56), 3) := by decide +kernel
theorem dd_X9_strike_96 : decode X9_strike.2.1 96 = .ok (.aload_n 0, 1) := by decide +kernel
theorem dd_X9_strike_97 : decode X9_strike.2.1 97 = .ok (.getfield 32, 3) := by decide +kernel
theorem dd_X9_strike_100 : decode X9_strike.2.1 100 = .ok (.iload_n 1, 1) := by decide +kernel
theorem dd_X9_strike_101 : decode X9_strike.2.1 101 = .ok (.iaload, 1) := by decide +kernel
theorem dd_X9_strike_102 : decode X9_strike.2.1 102 = .ok (.iload_n 3, 1) := by decide +kernel
theorem dd_X9_strike_103 : decode X9_strike.2.1 103 = .ok (.isub, 1) := by decide +kernel
theorem dd_X9_strike_104 : decode X9_strike.2.1 104 = .ok (.istore 4, 2) := by decide +kernel
theorem dd_X9_strike_106 : decode X9_strike.2.1 106 = .ok (.aload_n 0, 1) := by decide +kernel
theorem dd_X9_strike_107 : decode X9_strike.2.1 107 = .ok (.getfield 32, 3) := by decide +kernel
theorem dd_X9_strike_110 : decode X9_strike.2.1 110 = .ok (.iload_n 1, 1) := by decide +kernel
theorem dd_X9_strike_111 : decode X9_strike.2.1 111 = .ok (.iload_n 3, 1) := by decide +kernel
theorem dd_X9_strike_112 : decode X9_strike.2.1 112 = .ok (.iastore, 1) := by decide +kernel
theorem dd_X9_strike_113 : decode X9_strike.2.1 113 = .ok (.iload 4, 2) := by decide +kernel
theorem dd_X9_strike_115 : decode X9_strike.2.1 115 = .ok (.ireturn, 1) := by decide +kernel
theorem dd_X9_load_0 : decode X9_load.2.1 0 = .ok (.iload_n 1, 1) := by decide +kernel
theorem dd_X9_load_1 : decode X9_load.2.1 1 = .ok (.invokestatic 286, 3) := by decide +kernel
theorem dd_X9_load_4 : decode X9_load.2.1 4 = .ok (.ifCond .eq 11, 3) := by decide +kernel
theorem dd_X9_load_7 : decode X9_load.2.1 7 = .ok (.aload_n 0, 1) := by decide +kernel
theorem dd_X9_load_8 : decode X9_load.2.1 8 = .ok (.iload_n 2, 1) := by decide +kernel
theorem dd_X9_load_9 : decode X9_load.2.1 9 = .ok (.invokevirtual 198, 3) := by decide +kernel
theorem dd_X9_load_12 : decode X9_load.2.1 12 = .ok (.ifCond .ne 6, 3) := by decide +kernel
theorem dd_X9_load_15 : decode X9_load.2.1 15 = .ok (.bipush (-2), 2) := by decide +kernel
theorem dd_X9_load_17 : decode X9_load.2.1 17 = .ok (.ireturn, 1) := by decide +kernel
theorem dd_X9_load_18 : decode X9_load.2.1 18 = .ok (.iload_n 3, 1) := by decide +kernel
theorem dd_X9_load_19 : decode X9_load.2.1 19 = .ok (.i2l, 1) := by decide +kernel
theorem dd_X9_load_20 : decode X9_load.2.1 20 = .ok (.lconst 0, 1) := by decide +kernel
theorem dd_X9_load_21 : decode X9_load.2.1 21 = .ok (.aload_n 0, 1) := by decide +kernel
theorem dd_X9_load_22 : decode X9_load.2.1 22 = .ok (.getfield 86, 3) := by decide +kernel
theorem dd_X9_load_25 : decode X9_load.2.1 25 = .ok (.iconst 1, 1) := by decide +kernel
theorem dd_X9_load_26 : decode X9_load.2.1 26 = .ok (.isub, 1) := by decide +kernel
theorem dd_X9_load_27 : decode X9_load.2.1 27 = .ok (.i2l, 1) := by decide +kernel
theorem dd_X9_load_28 : decode X9_load.2.1 28 = .ok (.invokestatic 104, 3) := by decide +kernel
theorem dd_X9_load_31 : decode X9_load.2.1 31 = .ok (.ifCond .ne 6, 3) := by decide +kernel
theorem dd_X9_load_34 : decode X9_load.2.1 34 = .ok (.bipush (-3), 2) := by decide +kernel
theorem dd_X9_load_36 : decode X9_load.2.1 36 = .ok (.ireturn, 1) := by decide +kernel
theorem dd_X9_load_37 : decode X9_load.2.1 37 = .ok (.aload_n 0, 1) := by decide +kernel
theorem dd_X9_load_38 : decode X9_load.2.1 38 = .ok (.getfield 32, 3) := by decide +kernel
theorem dd_X9_load_41 : decode X9_load.2.1 41 = .ok (.iload_n 1, 1) := by decide +kernel
theorem dd_X9_load_42 : decode X9_load.2.1 42 = .ok (.iaload, 1) := by decide +kernel
theorem dd_X9_load_43 : decode X9_load.2.1 43 = .ok (.ifCond .ge 6, 3) := by decide +kernel
theorem dd_X9_load_46 : decode X9_load.2.1 46 = .ok (.bipush (-11), 2) := by decide +kernel
theorem dd_X9_load_48 : decode X9_load.2.1 48 = .ok (.ireturn, 1) := by decide +kernel
theorem dd_X9_load_49 : decode X9_load.2.1 49 = .ok (.aload_n 0, 1) := by decide +kernel
theorem dd_X9_load_50 : decode X9_load.2.1 50 = .ok (.getfield 32, 3) := by decide +kernel
theorem dd_X9_load_53 : decode X9_load.2.1 53 = .ok (.iload_n 1, 1) := by decide +kernel
theorem dd_X9_load_54 : decode X9_load.2.1 54 = .ok (.iaload, 1) := by decide +kernel
theorem dd_X9_load_55 : decode X9_load.2.1 55 = .ok (.aload_n 0, 1) := by decide +kernel
theorem dd_X9_load_56 : decode X9_load.2.1 56 = .ok (.getfield 86, 3) := by decide +kernel
theorem dd_X9_load_59 : decode X9_load.2.1 59 = .ok (.iadd, 1) := by decide +kernel
theorem dd_X9_load_60 : decode X9_load.2.1 60 = .ok (.bipush 12, 2) := by decide +kernel
theorem dd_X9_load_62 : decode X9_load.2.1 62 = .ok (.if_icmp .le 6, 3) := by decide +kernel
theorem dd_X9_load_65 : decode X9_load.2.1 65 = .ok (.bipush (-13), 2) := by decide +kernel
theorem dd_X9_load_67 : decode X9_load.2.1 67 = .ok (.ireturn, 1) := by decide +kernel
theorem dd_X9_load_68 : decode X9_load.2.1 68 = .ok (.iconst 0, 1) := by decide +kernel
theorem dd_X9_load_69 : decode X9_load.2.1 69 = .ok (.istore 4, 2) := by decide +kernel
theorem dd_X9_load_71 : decode X9_load.2.1 71 = .ok (.iload 4, 2) := by decide +kernel
theorem dd_X9_load_73 : decode X9_load.2.1 73 = .ok (.aload_n 0, 1) := by decide +kernel
theorem dd_X9_load_74 : decode X9_load.2.1 74 = .ok (.getfield 86, 3) := by decide +kernel
theorem dd_X9_load_77 : decode X9_load.2.1 77 = .ok (.if_icmp .ge 24, 3) := by decide +kernel
theorem dd_X9_load_80 : decode X9_load.2.1 80 = .ok (.aload_n 0, 1) := by decide +kernel
theorem dd_X9_load_81 : decode X9_load.2.1 81 = .ok (.iload_n 1, 1) := by decide +kernel
theorem dd_X9_load_82 : decode X9_load.2.1 82 = .ok (.iconst 1, 1) := by decide +kernel
theorem dd_X9_load_83 : decode X9_load.2.1 83 = .ok (.aload_n 0, 1) := by decide +kernel
theorem dd_X9_load_84 : decode X9_load.2.1 84 = .ok (.iload_n 2, 1) := by decide +kernel
theorem dd_X9_load_85 : decode X9_load.2.1 85 = .ok (.iload_n 3, 1) := by decide +kernel
theorem dd_X9_load_86 : decode X9_load.2.1 86 = .ok (.iload 4, 2) := by decide +kernel
theorem dd_X9_load_88 : decode X9_load.2.1 88 = .ok (.iadd, 1) := by decide +kernel
theorem dd_X9_load_89 : decode X9_load.2.1 89 = .ok (.invokevirtual 186, 3) := by decide +kernel
theorem dd_X9_load_92 : decode X9_load.2.1 92 = .ok (.invokevirtual 292, 3) := by decide +kernel
theorem dd_X9_load_95 : decode X9_load.2.1 95 = .ok (.iinc 4 1, 3) := by decide +kernel
theorem dd_X9_load_98 : decode X9_load.2.1 98 = .ok (.goto (-27), 3) := by decide +kernel
theorem dd_X9_load_101 : decode X9_load.2.1 101 = .ok (.aload_n 0, 1) := by decide +kernel
theorem dd_X9_load_102 : decode X9_load.2.1 102 = .ok (.getfield 32, 3) := by decide +kernel
theorem dd_X9_load_105 : decode X9_load.2.1 105 = .ok (.iload_n 1, 1) := by decide +kernel
theorem dd_X9_load_106 : decode X9_load.2.1 106 = .ok (.iaload, 1) := by decide +kernel
theorem dd_X9_load_107 : decode X9_load.2.1 107 = .ok (.ireturn, 1) := by decide +kernel
theorem dd_X9_drop_0 : decode X9_drop.2.1 0 = .ok (.iload_n 1, 1) := by decide +kernel
theorem dd_X9_drop_1 : decode X9_drop.2.1 1 = .ok (.invokestatic 286, 3) := by decide +kernel
theorem dd_X9_drop_4 : decode X9_drop.2.1 4 = .ok (.ifCond .ne 6, 3) := by decide +kernel
theorem dd_X9_drop_7 : decode X9_drop.2.1 7 = .ok (.bipush (-2), 2) := by decide +kernel
theorem dd_X9_drop_9 : decode X9_drop.2.1 9 = .ok (.ireturn, 1) := by decide +kernel
theorem dd_X9_drop_10 : decode X9_drop.2.1 10 = .ok (.aload_n 0, 1) := by decide +kernel
theorem dd_X9_drop_11 : decode X9_drop.2.1 11 = .ok (.getfield 32, 3) := by decide +kernel
theorem dd_X9_drop_14 : decode X9_drop.2.1 14 = .ok (.iload_n 1, 1) := by decide +kernel
theorem dd_X9_drop_15 : decode X9_drop.2.1 15 = .ok (.iaload, 1) := by decide +kernel
theorem dd_X9_drop_16 : decode X9_drop.2.1 16 = .ok (.istore_n 2, 1) := by decide +kernel
theorem dd_X9_drop_17 : decode X9_drop.2.1 17 = .ok (.aload_n 0, 1) := by decide +kernel
theorem dd_X9_drop_18 : decode X9_drop.2.1 18 = .ok (.getfield 32, 3) := by decide +kernel
theorem dd_X9_drop_21 : decode X9_drop.2.1 21 = .ok (.iload_n 1, 1) := by decide +kernel
theorem dd_X9_drop_22 : decode X9_drop.2.1 22 = .ok (.iconst (-1), 1) := by decide +kernel
theorem dd_X9_drop_23 : decode X9_drop.2.1 23 = .ok (.iastore, 1) := by decide +kernel
theorem dd_X9_drop_24 : decode X9_drop.2.1 24 = .ok (.iload_n 2, 1) := by decide +kernel
theorem dd_X9_drop_25 : decode X9_drop.2.1 25 = .ok (.ifCond .ge 8, 3) := by decide +kernel
theorem dd_X9_drop_28 : decode X9_drop.2.1 28 = .ok (.bipush (-11), 2) := by decide +kernel
theorem dd_X9_drop_30 : decode X9_drop.2.1 30 = .ok (.goto 4, 3) := by decide +kernel
theorem dd_X9_drop_33 : decode X9_drop.2.1 33 = .ok (.iload_n 2, 1) := by decide +kernel
theorem dd_X9_drop_34 : decode X9_drop.2.1 34 = .ok (.ireturn, 1) := by decide +kernel
theorem dd_X9_clashes_0 : decode X9_clashes.2.1 0 = .ok (.iconst 0, 1) := by decide +kernel
theorem dd_X9_clashes_1 : decode X9_clashes.2.1 1 = .ok (.istore_n 1, 1) := by decide +kernel
theorem dd_X9_clashes_2 : decode X9_clashes.2.1 2 = .ok (.iconst 0, 1) := by decide +kernel
theorem dd_X9_clashes_3 : decode X9_clashes.2.1 3 = .ok (.istore_n 2, 1) := by decide +kernel
theorem dd_X9_clashes_4 : decode X9_clashes.2.1 4 = .ok (.iload_n 2, 1) := by decide +kernel
theorem dd_X9_clashes_5 : decode X9_clashes.2.1 5 = .ok (.aload_n 0, 1) := by decide +kernel
theorem dd_X9_clashes_6 : decode X9_clashes.2.1 6 = .ok (.getfield 99, 3) := by decide +kernel
theorem dd_X9_clashes_9 : decode X9_clashes.2.1 9 = .ok (.if_icmp .ge 39, 3) := by decide +kernel
theorem dd_X9_clashes_12 : decode X9_clashes.2.1 12 = .ok (.iconst 0, 1) := by decide +kernel
theorem dd_X9_clashes_13 : decode X9_clashes.2.1 13 = .ok (.istore_n 3, 1) := by decide +kernel
theorem dd_X9_clashes_14 : decode X9_clashes.2.1 14 = .ok (.iload_n 3, 1) := by decide +kernel
theorem dd_X9_clashes_15 : decode X9_clashes.2.1 15 = .ok (.iload_n 2, 1) := by decide +kernel
theorem dd_X9_clashes_16 : decode X9_clashes.2.1 16 = .ok (.if_icmp .ge 26, 3) := by decide +kernel
theorem dd_X9_clashes_19 : decode X9_clashes.2.1 19 = .ok (.iload_n 1, 1) := by decide +kernel
theorem dd_X9_clashes_20 : decode X9_clashes.2.1 20 = .ok (.aload_n 0, 1) := by decide +kernel
theorem dd_X9_clashes_21 : decode X9_clashes.2.1 21 = .ok (.iload_n 2, 1) := by decide +kernel
theorem dd_X9_clashes_22 : decode X9_clashes.2.1 22 = .ok (.iload_n 3, 1) := by decide +kernel
theorem dd_X9_clashes_23 : decode X9_clashes.2.1 23 = .ok (.invokevirtual 221, 3) := by decide +kernel
theorem dd_X9_clashes_26 : decode X9_clashes.2.1 26 = .ok (.ifCond .eq 7, 3) := by decide +kernel
theorem dd_X9_clashes_29 : decode X9_clashes.2.1 29 = .ok (.iconst 1, 1) := by decide +kernel
theorem dd_X9_clashes_30 : decode X9_clashes.2.1 30 = .ok (.goto 4, 3) := by decide +kernel
theorem dd_X9_clashes_33 : decode X9_clashes.2.1 33 = .ok (.iconst 0, 1) := by decide +kernel
theorem dd_X9_clashes_34 : decode X9_clashes.2.1 34 = .ok (.iadd, 1) := by decide +kernel
theorem dd_X9_clashes_35 : decode X9_clashes.2.1 35 = .ok (.istore_n 1, 1) := by decide +kernel
theorem dd_X9_clashes_36 : decode X9_clashes.2.1 36 = .ok (.iinc 3 1, 3) := by decide +kernel
theorem dd_X9_clashes_39 : decode X9_clashes.2.1 39 = .ok (.goto (-25), 3) := by decide +kernel
theorem dd_X9_clashes_42 : decode X9_clashes.2.1 42 = .ok (.iinc 2 1, 3) := by decide +kernel
theorem dd_X9_clashes_45 : decode X9_clashes.2.1 45 = .ok (.goto (-41), 3) := by decide +kernel
theorem dd_X9_clashes_48 : decode X9_clashes.2.1 48 = .ok (.iload_n 1, 1) := by decide +kernel
theorem dd_X9_clashes_49 : decode X9_clashes.2.1 49 = .ok (.ireturn, 1) := by decide +kernel
theorem dd_X9_allNumbers_0 : decode X9_allNumbers.2.1 0 = .ok (.iconst 0, 1) := by decide +kernel
theorem dd_X9_allNumbers_1 : decode X9_allNumbers.2.1 1 = .ok (.istore_n 1, 1) := by decide +kernel
theorem dd_X9_allNumbers_2 : decode X9_allNumbers.2.1 2 = .ok (.iconst 0, 1) := by decide +kernel
theorem dd_X9_allNumbers_3 : decode X9_allNumbers.2.1 3 = .ok (.istore_n 2, 1) := by decide +kernel
theorem dd_X9_allNumbers_4 : decode X9_allNumbers.2.1 4 = .ok (.iload_n 2, 1) := by decide +kernel
theorem dd_X9_allNumbers_5 : decode X9_allNumbers.2.1 5 = .ok (.iconst 3, 1) := by decide +kernel
theorem dd_X9_allNumbers_6 : decode X9_allNumbers.2.1 6 = .ok (.if_icmp .ge 31, 3) := by decide +kernel
theorem dd_X9_allNumbers_9 : decode X9_allNumbers.2.1 9 = .ok (.iload_n 1, 1) := by decide +kernel
theorem dd_X9_allNumbers_10 : decode X9_allNumbers.2.1 10 = .ok (.aload_n 0, 1) := by decide +kernel
theorem dd_X9_allNumbers_11 : decode X9_allNumbers.2.1 11 = .ok (.getfield 32, 3) := by decide +kernel
theorem dd_X9_allNumbers_14 : decode X9_allNumbers.2.1 14 = .ok (.iload_n 2, 1) := by decide +kernel
theorem dd_X9_allNumbers_15 : decode X9_allNumbers.2.1 15 = .ok (.iaload, 1) := by decide +kernel
theorem dd_X9_allNumbers_16 : decode X9_allNumbers.2.1 16 = .ok (.ifCond .ge 7, 3) := by decide +kernel
theorem dd_X9_allNumbers_19 : decode X9_allNumbers.2.1 19 = .ok (.iconst 0, 1) := by decide +kernel
theorem dd_X9_allNumbers_20 : decode X9_allNumbers.2.1 20 = .ok (.goto 9, 3) := by decide +kernel
theorem dd_X9_allNumbers_23 : decode X9_allNumbers.2.1 23 = .ok (.aload_n 0, 1) := by decide +kernel
theorem dd_X9_allNumbers_24 : decode X9_allNumbers.2.1 24 = .ok (.getfield 32, 3) := by decide +kernel
theorem dd_X9_allNumbers_27 : decode X9_allNumbers.2.1 27 = .ok (.iload_n 2, 1) := by decide +kernel
theorem dd_X9_allNumbers_28 : decode X9_allNumbers.2.1 28 = .ok (.iaload, 1) := by decide +kernel
theorem dd_X9_allNumbers_29 : decode X9_allNumbers.2.1 29 = .ok (.iadd, 1) := by decide +kernel
theorem dd_X9_allNumbers_30 : decode X9_allNumbers.2.1 30 = .ok (.istore_n 1, 1) := by decide +kernel
theorem dd_X9_allNumbers_31 : decode X9_allNumbers.2.1 31 = .ok (.iinc 2 1, 3) := by decide +kernel
theorem dd_X9_allNumbers_34 : decode X9_allNumbers.2.1 34 = .ok (.goto (-30), 3) := by decide +kernel
theorem dd_X9_allNumbers_37 : decode X9_allNumbers.2.1 37 = .ok (.iload_n 1, 1) := by decide +kernel
theorem dd_X9_allNumbers_38 : decode X9_allNumbers.2.1 38 = .ok (.ireturn, 1) := by decide +kernel
theorem dd_X9_count_0 : decode X9_count.2.1 0 = .ok (.iload_n 1, 1) := by decide +kernel
theorem dd_X9_count_1 : decode X9_count.2.1 1 = .ok (.tableswitch 114 0 10 #[59, 64, 69, 74, 79, 84, 89, 94, 99, 104, 109], 59) := by decide +kernel
theorem dd_X9_count_60 : decode X9_count.2.1 60 = .ok (.aload_n 0, 1) := by decide +kernel
theorem dd_X9_count_61 : decode X9_count.2.1 61 = .ok (.getfield 86, 3) := by decide +kernel
theorem dd_X9_count_64 : decode X9_count.2.1 64 = .ok (.ireturn, 1) := by decide +kernel
theorem dd_X9_count_65 : decode X9_count.2.1 65 = .ok (.aload_n 0, 1) := by decide +kernel
theorem dd_X9_count_66 : decode X9_count.2.1 66 = .ok (.getfield 90, 3) := by decide +kernel
theorem dd_X9_count_69 : decode X9_count.2.1 69 = .ok (.ireturn, 1) := by decide +kernel
theorem dd_X9_count_70 : decode X9_count.2.1 70 = .ok (.aload_n 0, 1) := by decide +kernel
theorem dd_X9_count_71 : decode X9_count.2.1 71 = .ok (.getfield 93, 3) := by decide +kernel
theorem dd_X9_count_74 : decode X9_count.2.1 74 = .ok (.ireturn, 1) := by decide +kernel
theorem dd_X9_count_75 : decode X9_count.2.1 75 = .ok (.aload_n 0, 1) := by decide +kernel
theorem dd_X9_count_76 : decode X9_count.2.1 76 = .ok (.getfield 96, 3) := by decide +kernel
theorem dd_X9_count_79 : decode X9_count.2.1 79 = .ok (.ireturn, 1) := by decide +kernel
theorem dd_X9_count_80 : decode X9_count.2.1 80 = .ok (.aload_n 0, 1) := by decide +kernel
theorem dd_X9_count_81 : decode X9_count.2.1 81 = .ok (.getfield 99, 3) := by decide +kernel
theorem dd_X9_count_84 : decode X9_count.2.1 84 = .ok (.ireturn, 1) := by decide +kernel
theorem dd_X9_count_85 : decode X9_count.2.1 85 = .ok (.aload_n 0, 1) := by decide +kernel
theorem dd_X9_count_86 : decode X9_count.2.1 86 = .ok (.invokevirtual 236, 3) := by decide +kernel
theorem dd_X9_count_89 : decode X9_count.2.1 89 = .ok (.ireturn, 1) := by decide +kernel
theorem dd_X9_count_90 : decode X9_count.2.1 90 = .ok (.aload_n 0, 1) := by decide +kernel
theorem dd_X9_count_91 : decode X9_count.2.1 91 = .ok (.invokevirtual 302, 3) := by decide +kernel
theorem dd_X9_count_94 : decode X9_count.2.1 94 = .ok (.ireturn, 1) := by decide +kernel
theorem dd_X9_count_95 : decode X9_count.2.1 95 = .ok (.aload_n 0, 1) := by decide +kernel
theorem dd_X9_count_96 : decode X9_count.2.1 96 = .ok (.invokevirtual 274, 3) := by decide +kernel
theorem dd_X9_count_99 : decode X9_count.2.1 99 = .ok (.ireturn, 1) := by decide +kernel
theorem dd_X9_count_100 : decode X9_count.2.1 100 = .ok (.aload_n 0, 1) := by decide +kernel
theorem dd_X9_count_101 : decode X9_count.2.1 101 = .ok (.invokevirtual 305, 3) := by decide +kernel
theorem dd_X9_count_104 : decode X9_count.2.1 104 = .ok (.ireturn, 1) := by decide +kernel
theorem dd_X9_count_105 : decode X9_count.2.1 105 = .ok (.aload_n 0, 1) := by decide +kernel
theorem dd_X9_count_106 : decode X9_count.2.1 106 = .ok (.getfield 180, 3) := by decide +kernel
theorem dd_X9_count_109 : decode X9_count.2.1 109 = .ok (.ireturn, 1) := by decide +kernel
theorem dd_X9_count_110 : decode X9_count.2.1 110 = .ok (.aload_n 0, 1) := by decide +kernel
theorem dd_X9_count_111 : decode X9_count.2.1 111 = .ok (.getfield 108, 3) := by decide +kernel
theorem dd_X9_count_114 : decode X9_count.2.1 114 = .ok (.ireturn, 1) := by decide +kernel
theorem dd_X9_count_115 : decode X9_count.2.1 115 = .ok (.bipush (-3), 2) := by decide +kernel
theorem dd_X9_count_117 : decode X9_count.2.1 117 = .ok (.ireturn, 1) := by decide +kernel
