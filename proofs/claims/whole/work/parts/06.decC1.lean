/-! DECODE ROWS, by program. -/
theorem dd_X6_isWord_0 : decode X6_isWord.2.1 0 = .ok (.aload_n 0, 1) := by decide +kernel
theorem dd_X6_isWord_1 : decode X6_isWord.2.1 1 = .ok (.getfield 19, 3) := by decide +kernel
theorem dd_X6_isWord_4 : decode X6_isWord.2.1 4 = .ok (.aload_n 0, 1) := by decide +kernel
theorem dd_X6_isWord_5 : decode X6_isWord.2.1 5 = .ok (.getfield 29, 3) := by decide +kernel
theorem dd_X6_isWord_8 : decode X6_isWord.2.1 8 = .ok (.isub, 1) := by decide +kernel
theorem dd_X6_isWord_9 : decode X6_isWord.2.1 9 = .ok (.aload_n 1, 1) := by decide +kernel
theorem dd_X6_isWord_10 : decode X6_isWord.2.1 10 = .ok (.invokevirtual 111, 3) := by decide +kernel
theorem dd_X6_isWord_13 : decode X6_isWord.2.1 13 = .ok (.if_icmp .eq 5, 3) := by decide +kernel
theorem dd_X6_isWord_16 : decode X6_isWord.2.1 16 = .ok (.iconst 0, 1) := by decide +kernel
theorem dd_X6_isWord_17 : decode X6_isWord.2.1 17 = .ok (.ireturn, 1) := by decide +kernel
theorem dd_X6_isWord_18 : decode X6_isWord.2.1 18 = .ok (.aload_n 0, 1) := by decide +kernel
theorem dd_X6_isWord_19 : decode X6_isWord.2.1 19 = .ok (.getfield 29, 3) := by decide +kernel
theorem dd_X6_isWord_22 : decode X6_isWord.2.1 22 = .ok (.istore_n 2, 1) := by decide +kernel
theorem dd_X6_isWord_23 : decode X6_isWord.2.1 23 = .ok (.iload_n 2, 1) := by decide +kernel
theorem dd_X6_isWord_24 : decode X6_isWord.2.1 24 = .ok (.aload_n 0, 1) := by decide +kernel
theorem dd_X6_isWord_25 : decode X6_isWord.2.1 25 = .ok (.getfield 19, 3) := by decide +kernel
theorem dd_X6_isWord_28 : decode X6_isWord.2.1 28 = .ok (.if_icmp .ge 30, 3) := by decide +kernel
theorem dd_X6_isWord_31 : decode X6_isWord.2.1 31 = .ok (.aload_n 0, 1) := by decide +kernel
theorem dd_X6_isWord_32 : decode X6_isWord.2.1 32 = .ok (.getfield 9, 3) := by decide +kernel
theorem dd_X6_isWord_35 : decode X6_isWord.2.1 35 = .ok (.iload_n 2, 1) := by decide +kernel
theorem dd_X6_isWord_36 : decode X6_isWord.2.1 36 = .ok (.iaload, 1) := by decide +kernel
theorem dd_X6_isWord_37 : decode X6_isWord.2.1 37 = .ok (.aload_n 1, 1) := by decide +kernel
theorem dd_X6_isWord_38 : decode X6_isWord.2.1 38 = .ok (.iload_n 2, 1) := by decide +kernel
theorem dd_X6_isWord_39 : decode X6_isWord.2.1 39 = .ok (.aload_n 0, 1) := by decide +kernel
theorem dd_X6_isWord_40 : decode X6_isWord.2.1 40 = .ok (.getfield 29, 3) := by decide +kernel
theorem dd_X6_isWord_43 : decode X6_isWord.2.1 43 = .ok (.isub, 1) := by decide +kernel
theorem dd_X6_isWord_44 : decode X6_isWord.2.1 44 = .ok (.invokevirtual 116, 3) := by decide +kernel
theorem dd_X6_isWord_47 : decode X6_isWord.2.1 47 = .ok (.if_icmp .eq 5, 3) := by decide +kernel
theorem dd_X6_isWord_50 : decode X6_isWord.2.1 50 = .ok (.iconst 0, 1) := by decide +kernel
theorem dd_X6_isWord_51 : decode X6_isWord.2.1 51 = .ok (.ireturn, 1) := by decide +kernel
theorem dd_X6_isWord_52 : decode X6_isWord.2.1 52 = .ok (.iinc 2 1, 3) := by decide +kernel
theorem dd_X6_isWord_55 : decode X6_isWord.2.1 55 = .ok (.goto (-32), 3) := by decide +kernel
theorem dd_X6_isWord_58 : decode X6_isWord.2.1 58 = .ok (.iconst 1, 1) := by decide +kernel
theorem dd_X6_isWord_59 : decode X6_isWord.2.1 59 = .ok (.ireturn, 1) := by decide +kernel
theorem dd_X6_isSmall_0 : decode X6_isSmall.2.1 0 = .ok (.iload_n 0, 1) := by decide +kernel
theorem dd_X6_isSmall_1 : decode X6_isSmall.2.1 1 = .ok (.bipush 97, 2) := by decide +kernel
theorem dd_X6_isSmall_3 : decode X6_isSmall.2.1 3 = .ok (.if_icmp .lt 13, 3) := by decide +kernel
theorem dd_X6_isSmall_6 : decode X6_isSmall.2.1 6 = .ok (.iload_n 0, 1) := by decide +kernel
theorem dd_X6_isSmall_7 : decode X6_isSmall.2.1 7 = .ok (.bipush 122, 2) := by decide +kernel
theorem dd_X6_isSmall_9 : decode X6_isSmall.2.1 9 = .ok (.if_icmp .gt 7, 3) := by decide +kernel
theorem dd_X6_isSmall_12 : decode X6_isSmall.2.1 12 = .ok (.iconst 1, 1) := by decide +kernel
theorem dd_X6_isSmall_13 : decode X6_isSmall.2.1 13 = .ok (.goto 4, 3) := by decide +kernel
theorem dd_X6_isSmall_16 : decode X6_isSmall.2.1 16 = .ok (.iconst 0, 1) := by decide +kernel
theorem dd_X6_isSmall_17 : decode X6_isSmall.2.1 17 = .ok (.ireturn, 1) := by decide +kernel
theorem dd_X6_isDigit_0 : decode X6_isDigit.2.1 0 = .ok (.iload_n 0, 1) := by decide +kernel
theorem dd_X6_isDigit_1 : decode X6_isDigit.2.1 1 = .ok (.bipush 48, 2) := by decide +kernel
theorem dd_X6_isDigit_3 : decode X6_isDigit.2.1 3 = .ok (.if_icmp .lt 13, 3) := by decide +kernel
theorem dd_X6_isDigit_6 : decode X6_isDigit.2.1 6 = .ok (.iload_n 0, 1) := by decide +kernel
theorem dd_X6_isDigit_7 : decode X6_isDigit.2.1 7 = .ok (.bipush 57, 2) := by decide +kernel
theorem dd_X6_isDigit_9 : decode X6_isDigit.2.1 9 = .ok (.if_icmp .gt 7, 3) := by decide +kernel
theorem dd_X6_isDigit_12 : decode X6_isDigit.2.1 12 = .ok (.iconst 1, 1) := by decide +kernel
theorem dd_X6_isDigit_13 : decode X6_isDigit.2.1 13 = .ok (.goto 4, 3) := by decide +kernel
theorem dd_X6_isDigit_16 : decode X6_isDigit.2.1 16 = .ok (.iconst 0, 1) := by decide +kernel
theorem dd_X6_isDigit_17 : decode X6_isDigit.2.1 17 = .ok (.ireturn, 1) := by decide +kernel
theorem dd_X7_begin_0 : decode X7_begin.2.1 0 = .ok (.aload_n 0, 1) := by decide +kernel
theorem dd_X7_begin_1 : decode X7_begin.2.1 1 = .ok (.iconst 1, 1) := by decide +kernel
theorem dd_X7_begin_2 : decode X7_begin.2.1 2 = .ok (.putfield 9, 3) := by decide +kernel
theorem dd_X7_begin_5 : decode X7_begin.2.1 5 = .ok (.aload_n 0, 1) := by decide +kernel
theorem dd_X7_begin_6 : decode X7_begin.2.1 6 = .ok (.iload_n 3, 1) := by decide +kernel
theorem dd_X7_begin_7 : decode X7_begin.2.1 7 = .ok (.putfield 15, 3) := by decide +kernel
theorem dd_X7_begin_10 : decode X7_begin.2.1 10 = .ok (.aload_n 0, 1) := by decide +kernel
theorem dd_X7_begin_11 : decode X7_begin.2.1 11 = .ok (.lload_n 1, 1) := by decide +kernel
theorem dd_X7_begin_12 : decode X7_begin.2.1 12 = .ok (.putfield 18, 3) := by decide +kernel
theorem dd_X7_begin_15 : decode X7_begin.2.1 15 = .ok (.aload_n 0, 1) := by decide +kernel
theorem dd_X7_begin_16 : decode X7_begin.2.1 16 = .ok (.lconst 0, 1) := by decide +kernel
theorem dd_X7_begin_17 : decode X7_begin.2.1 17 = .ok (.putfield 22, 3) := by decide +kernel
theorem dd_X7_begin_20 : decode X7_begin.2.1 20 = .ok (.aload_n 0, 1) := by decide +kernel
theorem dd_X7_begin_21 : decode X7_begin.2.1 21 = .ok (.iconst 0, 1) := by decide +kernel
theorem dd_X7_begin_22 : decode X7_begin.2.1 22 = .ok (.putfield 25, 3) := by decide +kernel
theorem dd_X7_begin_25 : decode X7_begin.2.1 25 = .ok (.return_, 1) := by decide +kernel
theorem dd_X7_end_0 : decode X7_end.2.1 0 = .ok (.aload_n 0, 1) := by decide +kernel
theorem dd_X7_end_1 : decode X7_end.2.1 1 = .ok (.iconst 0, 1) := by decide +kernel
theorem dd_X7_end_2 : decode X7_end.2.1 2 = .ok (.putfield 9, 3) := by decide +kernel
theorem dd_X7_end_5 : decode X7_end.2.1 5 = .ok (.aload_n 0, 1) := by decide +kernel
theorem dd_X7_end_6 : decode X7_end.2.1 6 = .ok (.lconst 0, 1) := by decide +kernel
theorem dd_X7_end_7 : decode X7_end.2.1 7 = .ok (.putfield 18, 3) := by decide +kernel
theorem dd_X7_end_10 : decode X7_end.2.1 10 = .ok (.return_, 1) := by decide +kernel
theorem dd_X7_size_0 : decode X7_size.2.1 0 = .ok (.aload_n 0, 1) := by decide +kernel
theorem dd_X7_size_1 : decode X7_size.2.1 1 = .ok (.getfield 18, 3) := by decide +kernel
theorem dd_X7_size_4 : decode X7_size.2.1 4 = .ok (.invokestatic 29, 3) := by decide +kernel
theorem dd_X7_size_7 : decode X7_size.2.1 7 = .ok (.ireturn, 1) := by decide +kernel
theorem dd_X7_lights_0 : decode X7_lights.2.1 0 = .ok (.aload_n 0, 1) := by decide +kernel
theorem dd_X7_lights_1 : decode X7_lights.2.1 1 = .ok (.getfield 18, 3) := by decide +kernel
theorem dd_X7_lights_4 : decode X7_lights.2.1 4 = .ok (.invokestatic 35, 3) := by decide +kernel
theorem dd_X7_lights_7 : decode X7_lights.2.1 7 = .ok (.ireturn, 1) := by decide +kernel
theorem dd_X7_takeBeat_0 : decode X7_takeBeat.2.1 0 = .ok (.iconst 0, 1) := by decide +kernel
theorem dd_X7_takeBeat_1 : decode X7_takeBeat.2.1 1 = .ok (.istore 5, 2) := by decide +kernel
theorem dd_X7_takeBeat_3 : decode X7_takeBeat.2.1 3 = .ok (.iload 5, 2) := by decide +kernel
theorem dd_X7_takeBeat_5 : decode X7_takeBeat.2.1 5 = .ok (.bipush 48, 2) := by decide +kernel
theorem dd_X7_takeBeat_7 : decode X7_takeBeat.2.1 7 = .ok (.if_icmp .ge 87, 3) := by decide +kernel
theorem dd_X7_takeBeat_10 : decode X7_takeBeat.2.1 10 = .ok (.lconst 1, 1) := by decide +kernel
theorem dd_X7_takeBeat_11 : decode X7_takeBeat.2.1 11 = .ok (.iload 5, 2) := by decide +kernel
theorem dd_X7_takeBeat_13 : decode X7_takeBeat.2.1 13 = .ok (.lshl, 1) := by decide +kernel
theorem dd_X7_takeBeat_14 : decode X7_takeBeat.2.1 14 = .ok (.lstore 6, 2) := by decide +kernel
theorem dd_X7_takeBeat_16 : decode X7_takeBeat.2.1 16 = .ok (.lconst 1, 1) := by decide +kernel
theorem dd_X7_takeBeat_17 : decode X7_takeBeat.2.1 17 = .ok (.iload 5, 2) := by decide +kernel
theorem dd_X7_takeBeat_19 : decode X7_takeBeat.2.1 19 = .ok (.iload 5, 2) := by decide +kernel
theorem dd_X7_takeBeat_21 : decode X7_takeBeat.2.1 21 = .ok (.bipush 8, 2) := by decide +kernel
theorem dd_X7_takeBeat_23 : decode X7_takeBeat.2.1 23 = .ok (.irem, 1) := by decide +kernel
theorem dd_X7_takeBeat_24 : decode X7_takeBeat.2.1 24 = .ok (.isub, 1) := by decide +kernel
theorem dd_X7_takeBeat_25 : decode X7_takeBeat.2.1 25 = .ok (.aload_n 0, 1) := by decide +kernel
theorem dd_X7_takeBeat_26 : decode X7_takeBeat.2.1 26 = .ok (.iload 5, 2) := by decide +kernel
theorem dd_X7_takeBeat_28 : decode X7_takeBeat.2.1 28 = .ok (.iload 4, 2) := by decide +kernel
theorem dd_X7_takeBeat_30 : decode X7_takeBeat.2.1 30 = .ok (.invokevirtual 38, 3) := by decide +kernel
theorem dd_X7_takeBeat_33 : decode X7_takeBeat.2.1 33 = .ok (.iadd, 1) := by decide +kernel
theorem dd_X7_takeBeat_34 : decode X7_takeBeat.2.1 34 = .ok (.lshl, 1) := by decide +kernel
theorem dd_X7_takeBeat_35 : decode X7_takeBeat.2.1 35 = .ok (.lstore 8, 2) := by decide +kernel
theorem dd_X7_takeBeat_37 : decode X7_takeBeat.2.1 37 = .ok (.lload_n 2, 1) := by decide +kernel
theorem dd_X7_takeBeat_38 : decode X7_takeBeat.2.1 38 = .ok (.lload 8, 2) := by decide +kernel
theorem dd_X7_takeBeat_40 : decode X7_takeBeat.2.1 40 = .ok (.land, 1) := by decide +kernel
theorem dd_X7_takeBeat_41 : decode X7_takeBeat.2.1 41 = .ok (.lconst 0, 1) := by decide +kernel
theorem dd_X7_takeBeat_42 : decode X7_takeBeat.2.1 42 = .ok (.lcmp, 1) := by decide +kernel
theorem dd_X7_takeBeat_43 : decode X7_takeBeat.2.1 43 = .ok (.ifCond .eq 7, 3) := by decide +kernel
theorem dd_X7_takeBeat_46 : decode X7_takeBeat.2.1 46 = .ok (.iconst 1, 1) := by decide +kernel
theorem dd_X7_takeBeat_47 : decode X7_takeBeat.2.1 47 = .ok (.goto 4, 3) := by decide +kernel
theorem dd_X7_takeBeat_50 : decode X7_takeBeat.2.1 50 = .ok (.iconst 0, 1) := by decide +kernel
theorem dd_X7_takeBeat_51 : decode X7_takeBeat.2.1 51 = .ok (.istore 10, 2) := by decide +kernel
theorem dd_X7_takeBeat_53 : decode X7_takeBeat.2.1 53 = .ok (.aload_n 0, 1) := by decide +kernel
theorem dd_X7_takeBeat_54 : decode X7_takeBeat.2.1 54 = .ok (.getfield 18, 3) := by decide +kernel
theorem dd_X7_takeBeat_57 : decode X7_takeBeat.2.1 57 = .ok (.lload 6, 2) := by decide +kernel
theorem dd_X7_takeBeat_59 : decode X7_takeBeat.2.1 59 = .ok (.land, 1) := by decide +kernel
theorem dd_X7_takeBeat_60 : decode X7_takeBeat.2.1 60 = .ok (.lconst 0, 1) := by decide +kernel
theorem dd_X7_takeBeat_61 : decode X7_takeBeat.2.1 61 = .ok (.lcmp, 1) := by decide +kernel
theorem dd_X7_takeBeat_62 : decode X7_takeBeat.2.1 62 = .ok (.ifCond .eq 26, 3) := by decide +kernel
theorem dd_X7_takeBeat_65 : decode X7_takeBeat.2.1 65 = .ok (.iload 10, 2) := by decide +kernel
theorem dd_X7_takeBeat_67 : decode X7_takeBeat.2.1 67 = .ok (.iload_n 1, 1) := by decide +kernel
theorem dd_X7_takeBeat_68 : decode X7_takeBeat.2.1 68 = .ok (.iconst 1, 1) := by decide +kernel
theorem dd_X7_takeBeat_69 : decode X7_takeBeat.2.1 69 = .ok (.if_icmp .ne 7, 3) := by decide +kernel
theorem dd_X7_takeBeat_72 : decode X7_takeBeat.2.1 72 = .ok (.iconst 1, 1) := by decide +kernel
theorem dd_X7_takeBeat_73 : decode X7_takeBeat.2.1 73 = .ok (.goto 4, 3) := by decide +kernel
theorem dd_X7_takeBeat_76 : decode X7_takeBeat.2.1 76 = .ok (.iconst 0, 1) := by decide +kernel
theorem dd_X7_takeBeat_77 : decode X7_takeBeat.2.1 77 = .ok (.if_icmp .eq 11, 3) := by decide +kernel
theorem dd_X7_takeBeat_80 : decode X7_takeBeat.2.1 80 = .ok (.aload_n 0, 1) := by decide +kernel
theorem dd_X7_takeBeat_81 : decode X7_takeBeat.2.1 81 = .ok (.lload 6, 2) := by decide +kernel
theorem dd_X7_takeBeat_83 : decode X7_takeBeat.2.1 83 = .ok (.iload 10, 2) := by decide +kernel
theorem dd_X7_takeBeat_85 : decode X7_takeBeat.2.1 85 = .ok (.invokevirtual 42, 3) := by decide +kernel
theorem dd_X7_takeBeat_88 : decode X7_takeBeat.2.1 88 = .ok (.iinc 5 1, 3) := by decide +kernel
theorem dd_X7_takeBeat_91 : decode X7_takeBeat.2.1 91 = .ok (.goto (-88), 3) := by decide +kernel
theorem dd_X7_takeBeat_94 : decode X7_takeBeat.2.1 94 = .ok (.aload_n 0, 1) := by decide +kernel
theorem dd_X7_takeBeat_95 : decode X7_takeBeat.2.1 95 = .ok (.aload_n 0, 1) := by decide +kernel
theorem dd_X7_takeBeat_96 : decode X7_takeBeat.2.1 96 = .ok (.getfield 25, 3) := by decide +kernel
theorem dd_X7_takeBeat_99 : decode X7_takeBeat.2.1 99 = .ok (.iconst 1, 1) := by decide +kernel
theorem dd_X7_takeBeat_100 : decode X7_takeBeat.2.1 100 = .ok (.iadd, 1) := by decide +kernel
theorem dd_X7_takeBeat_101 : decode X7_takeBeat.2.1 101 = .ok (.iload 4, 2) := by decide +kernel
theorem dd_X7_takeBeat_103 : decode X7_takeBeat.2.1 103 = .ok (.if_icmp .ge 12, 3) := by decide +kernel
theorem dd_X7_takeBeat_106 : decode X7_takeBeat.2.1 106 = .ok (.aload_n 0, 1) := by decide +kernel
theorem dd_X7_takeBeat_107 : decode X7_takeBeat.2.1 107 = .ok (.getfield 25, 3) := by decide +kernel
theorem dd_X7_takeBeat_110 : decode X7_takeBeat.2.1 110 = .ok (.iconst 1, 1) := by decide +kernel
theorem dd_X7_takeBeat_111 : decode X7_takeBeat.2.1 111 = .ok (.iadd, 1) := by decide +kernel
theorem dd_X7_takeBeat_112 : decode X7_takeBeat.2.1 112 = .ok (.goto 4, 3) := by decide +kernel
theorem dd_X7_takeBeat_115 : decode X7_takeBeat.2.1 115 = .ok (.iconst 0, 1) := by decide +kernel
theorem dd_X7_takeBeat_116 : decode X7_takeBeat.2.1 116 = .ok (.putfield 25, 3) := by decide +kernel
theorem dd_X7_takeBeat_119 : decode X7_takeBeat.2.1 119 = .ok (.return_, 1) := by decide +kernel
theorem dd_X7_strikeOrForgive_0 : decode X7_strikeOrForgive.2.1 0 = .ok (.aload_n 0, 1) := by decide +kernel
theorem dd_X7_strikeOrForgive_1 : decode X7_strikeOrForgive.2.1 1 = .ok (.getfield 15, 3) := by decide +kernel
theorem dd_X7_strikeOrForgive_4 : decode X7_strikeOrForgive.2.1 4 = .ok (.ifCond .eq 31, 3) := by decide +kernel
theorem dd_X7_strikeOrForgive_7 : decode X7_strikeOrForgive.2.1 7 = .ok (.iload_n 3, 1) := by decide +kernel
theorem dd_X7_strikeOrForgive_8 : decode X7_strikeOrForgive.2.1 8 = .ok (.ifCond .eq 27, 3) := by decide +kernel
theorem dd_X7_strikeOrForgive_11 : decode X7_strikeOrForgive.2.1 11 = .ok (.aload_n 0, 1) := by decide +kernel
theorem dd_X7_strikeOrForgive_12 : decode X7_strikeOrForgive.2.1 12 = .ok (.getfield 22, 3) := by decide +kernel
theorem dd_X7_strikeOrForgive_15 : decode X7_strikeOrForgive.2.1 15 = .ok (.lload_n 1, 1) := by decide +kernel
theorem dd_X7_strikeOrForgive_16 : decode X7_strikeOrForgive.2.1 16 = .ok (.land, 1) := by decide +kernel
theorem dd_X7_strikeOrForgive_17 : decode X7_strikeOrForgive.2.1 17 = .ok (.lconst 0, 1) := by decide +kernel
theorem dd_X7_strikeOrForgive_18 : decode X7_strikeOrForgive.2.1 18 = .ok (.lcmp, 1) := by decide +kernel
theorem dd_X7_strikeOrForgive_19 : decode X7_strikeOrForgive.2.1 19 = .ok (.ifCond .ne 16, 3) := by decide +kernel
theorem dd_X7_strikeOrForgive_22 : decode X7_strikeOrForgive.2.1 22 = .ok (.aload_n 0, 1) := by decide +kernel
theorem dd_X7_strikeOrForgive_23 : decode X7_strikeOrForgive.2.1 23 = .ok (.dup, 1) := by decide +kernel
theorem dd_X7_strikeOrForgive_24 : decode X7_strikeOrForgive.2.1 24 = .ok (.getfield 22, 3) := by decide +kernel
theorem dd_X7_strikeOrForgive_27 : decode X7_strikeOrForgive.2.1 27 = .ok (.lload_n 1, 1) := by decide +kernel
theorem dd_X7_strikeOrForgive_28 : decode X7_strikeOrForgive.2.1 28 = .ok (.lor, 1) := by decide +kernel
theorem dd_X7_strikeOrForgive_29 : decode X7_strikeOrForgive.2.1 29 = .ok (.putfield 22, 3) := by decide +kernel
theorem dd_X7_strikeOrForgive_32 : decode X7_strikeOrForgive.2.1 32 = .ok (.goto 13, 3) := by decide +kernel
theorem dd_X7_strikeOrForgive_35 : decode X7_strikeOrForgive.2.1 35 = .ok (.aload_n 0, 1) := by decide +kernel
theorem dd_X7_strikeOrForgive_36 : decode X7_strikeOrForgive.2.1 36 = .ok (.dup, 1) := by decide +kernel
theorem dd_X7_strikeOrForgive_37 : decode X7_strikeOrForgive.2.1 37 = .ok (.getfield 18, 3) := by decide +kernel
theorem dd_X7_strikeOrForgive_40 : decode X7_strikeOrForgive.2.1 40 = .ok (.lload_n 1, 1) := by decide +kernel
theorem dd_X7_strikeOrForgive_41 : decode X7_strikeOrForgive.2.1 41 = .ok (.lxor, 1) := by decide +kernel
theorem dd_X7_strikeOrForgive_42 : decode X7_strikeOrForgive.2.1 42 = .ok (.putfield 18, 3) := by decide +kernel
theorem dd_X7_strikeOrForgive_45 : decode X7_strikeOrForgive.2.1 45 = .ok (.return_, 1) := by decide +kernel
theorem dd_X7_shiftNow_0 : decode X7_shiftNow.2.1 0 = .ok (.iload_n 1, 1) := by decide +kernel
theorem dd_X7_shiftNow_1 : decode X7_shiftNow.2.1 1 = .ok (.bipush 8, 2) := by decide +kernel
theorem dd_X7_shiftNow_3 : decode X7_shiftNow.2.1 3 = .ok (.irem, 1) := by decide +kernel
theorem dd_X7_shiftNow_4 : decode X7_shiftNow.2.1 4 = .ok (.aload_n 0, 1) := by decide +kernel
theorem dd_X7_shiftNow_5 : decode X7_shiftNow.2.1 5 = .ok (.getfield 25, 3) := by decide +kernel
theorem dd_X7_shiftNow_8 : decode X7_shiftNow.2.1 8 = .ok (.iadd, 1) := by decide +kernel
theorem dd_X7_shiftNow_9 : decode X7_shiftNow.2.1 9 = .ok (.istore_n 3, 1) := by decide +kernel
theorem dd_X7_shiftNow_10 : decode X7_shiftNow.2.1 10 = .ok (.iload_n 3, 1) := by decide +kernel
theorem dd_X7_shiftNow_11 : decode X7_shiftNow.2.1 11 = .ok (.iload_n 2, 1) := by decide +kernel
theorem dd_X7_shiftNow_12 : decode X7_shiftNow.2.1 12 = .ok (.if_icmp .ge 7, 3) := by decide +kernel
theorem dd_X7_shiftNow_15 : decode X7_shiftNow.2.1 15 = .ok (.iload_n 3, 1) := by decide +kernel
theorem dd_X7_shiftNow_16 : decode X7_shiftNow.2.1 16 = .ok (.goto 6, 3) := by decide +kernel
theorem dd_X7_shiftNow_19 : decode X7_shiftNow.2.1 19 = .ok (.iload_n 3, 1) := by decide +kernel
theorem dd_X7_shiftNow_20 : decode X7_shiftNow.2.1 20 = .ok (.iload_n 2, 1) := by decide +kernel
theorem dd_X7_shiftNow_21 : decode X7_shiftNow.2.1 21 = .ok (.isub, 1) := by decide +kernel
theorem dd_X7_shiftNow_22 : decode X7_shiftNow.2.1 22 = .ok (.ireturn, 1) := by decide +kernel
theorem dd_X7_pairAt_0 : decode X7_pairAt.2.1 0 = .ok (.iload_n 1, 1) := by decide +kernel
theorem dd_X7_pairAt_1 : decode X7_pairAt.2.1 1 = .ok (.istore_n 3, 1) := by decide +kernel
theorem dd_X7_pairAt_2 : decode X7_pairAt.2.1 2 = .ok (.iconst 0, 1) := by decide +kernel
theorem dd_X7_pairAt_3 : decode X7_pairAt.2.1 3 = .ok (.istore 4, 2) := by decide +kernel
theorem dd_X7_pairAt_5 : decode X7_pairAt.2.1 5 = .ok (.iload 4, 2) := by decide +kernel
theorem dd_X7_pairAt_7 : decode X7_pairAt.2.1 7 = .ok (.bipush 48, 2) := by decide +kernel
theorem dd_X7_pairAt_9 : decode X7_pairAt.2.1 9 = .ok (.if_icmp .ge 47, 3) := by decide +kernel
theorem dd_X7_pairAt_12 : decode X7_pairAt.2.1 12 = .ok (.aload_n 0, 1) := by decide +kernel
theorem dd_X7_pairAt_13 : decode X7_pairAt.2.1 13 = .ok (.getfield 18, 3) := by decide +kernel
theorem dd_X7_pairAt_16 : decode X7_pairAt.2.1 16 = .ok (.iload 4, 2) := by decide +kernel
theorem dd_X7_pairAt_18 : decode X7_pairAt.2.1 18 = .ok (.lshr, 1) := by decide +kernel
theorem dd_X7_pairAt_19 : decode X7_pairAt.2.1 19 = .ok (.lconst 1, 1) := by decide +kernel
theorem dd_X7_pairAt_20 : decode X7_pairAt.2.1 20 = .ok (.land, 1) := by decide +kernel
theorem dd_X7_pairAt_21 : decode X7_pairAt.2.1 21 = .ok (.lconst 1, 1) := by decide +kernel
theorem dd_X7_pairAt_22 : decode X7_pairAt.2.1 22 = .ok (.lcmp, 1) := by decide +kernel
theorem dd_X7_pairAt_23 : decode X7_pairAt.2.1 23 = .ok (.ifCond .ne 27, 3) := by decide +kernel
theorem dd_X7_pairAt_26 : decode X7_pairAt.2.1 26 = .ok (.iload_n 3, 1) := by decide +kernel
theorem dd_X7_pairAt_27 : decode X7_pairAt.2.1 27 = .ok (.ifCond .ne 20, 3) := by decide +kernel
theorem dd_X7_pairAt_30 : decode X7_pairAt.2.1 30 = .ok (.iload 4, 2) := by decide +kernel
theorem dd_X7_pairAt_32 : decode X7_pairAt.2.1 32 = .ok (.bipush 8, 2) := by decide +kernel
theorem dd_X7_pairAt_34 : decode X7_pairAt.2.1 34 = .ok (.idiv, 1) := by decide +kernel
theorem dd_X7_pairAt_35 : decode X7_pairAt.2.1 35 = .ok (.bipush 10, 2) := by decide +kernel
theorem dd_X7_pairAt_37 : decode X7_pairAt.2.1 37 = .ok (.imul, 1) := by decide +kernel
theorem dd_X7_pairAt_38 : decode X7_pairAt.2.1 38 = .ok (.aload_n 0, 1) := by decide +kernel
theorem dd_X7_pairAt_39 : decode X7_pairAt.2.1 39 = .ok (.iload 4, 2) := by decide +kernel
theorem dd_X7_pairAt_41 : decode X7_pairAt.2.1 41 = .ok (.iload_n 2, 1) := by decide +kernel
theorem dd_X7_pairAt_42 : decode X7_pairAt.2.1 42 = .ok (.invokevirtual 38, 3) := by decide +kernel
theorem dd_X7_pairAt_45 : decode X7_pairAt.2.1 45 = .ok (.iadd, 1) := by decide +kernel
theorem dd_X7_pairAt_46 : decode X7_pairAt.2.1 46 = .ok (.ireturn, 1) := by decide +kernel
theorem dd_X7_pairAt_47 : decode X7_pairAt.2.1 47 = .ok (.iinc 3 (-1), 3) := by decide +kernel
theorem dd_X7_pairAt_50 : decode X7_pairAt.2.1 50 = .ok (.iinc 4 1, 3) := by decide +kernel
theorem dd_X7_pairAt_53 : decode X7_pairAt.2.1 53 = .ok (.goto (-48), 3) := by decide +kernel
theorem dd_X7_pairAt_56 : decode X7_pairAt.2.1 56 = .ok (.iconst (-1), 1) := by decide +kernel
theorem dd_X7_pairAt_57 : decode X7_pairAt.2.1 57 = .ok (.ireturn, 1) := by decide +kernel
theorem dd_X8_write_0 : decode X8_write.2.1 0 = .ok (.iload_n 1, 1) := by decide +kernel
theorem dd_X8_write_1 : decode X8_write.2.1 1 = .ok (.ifCond .lt 10, 3) := by decide +kernel
theorem dd_X8_write_4 : decode X8_write.2.1 4 = .ok (.iload_n 1, 1) := by decide +kernel
theorem dd_X8_write_5 : decode X8_write.2.1 5 = .ok (.sipush 255, 3) := by decide +kernel
theorem dd_X8_write_8 : decode X8_write.2.1 8 = .ok (.if_icmp .le 6, 3) := by decide +kernel
theorem dd_X8_write_11 : decode X8_write.2.1 11 = .ok (.bipush (-3), 2) := by decide +kernel
theorem dd_X8_write_13 : decode X8_write.2.1 13 = .ok (.ireturn, 1) := by decide +kernel
theorem dd_X8_write_14 : decode X8_write.2.1 14 = .ok (.aload_n 0, 1) := by decide +kernel
theorem dd_X8_write_15 : decode X8_write.2.1 15 = .ok (.getfield 12, 3) := by decide +kernel
theorem dd_X8_write_18 : decode X8_write.2.1 18 = .ok (.getfield 74, 3) := by decide +kernel
theorem dd_X8_write_21 : decode X8_write.2.1 21 = .ok (.sipush 200, 3) := by decide +kernel
theorem dd_X8_write_24 : decode X8_write.2.1 24 = .ok (.if_icmp .lt 6, 3) := by decide +kernel
theorem dd_X8_write_27 : decode X8_write.2.1 27 = .ok (.bipush (-5), 2) := by decide +kernel
theorem dd_X8_write_29 : decode X8_write.2.1 29 = .ok (.ireturn, 1) := by decide +kernel
theorem dd_X8_write_30 : decode X8_write.2.1 30 = .ok (.aload_n 0, 1) := by decide +kernel
theorem dd_X8_write_31 : decode X8_write.2.1 31 = .ok (.getfield 12, 3) := by decide +kernel
theorem dd_X8_write_34 : decode X8_write.2.1 34 = .ok (.iload_n 1, 1) := by decide +kernel
theorem dd_X8_write_35 : decode X8_write.2.1 35 = .ok (.invokevirtual 78, 3) := by decide +kernel
theorem dd_X8_write_38 : decode X8_write.2.1 38 = .ok (.aload_n 0, 1) := by decide +kernel
theorem dd_X8_write_39 : decode X8_write.2.1 39 = .ok (.getfield 12, 3) := by decide +kernel
theorem dd_X8_write_42 : decode X8_write.2.1 42 = .ok (.getfield 74, 3) := by decide +kernel
theorem dd_X8_write_45 : decode X8_write.2.1 45 = .ok (.ireturn, 1) := by decide +kernel
theorem dd_X8_erase_0 : decode X8_erase.2.1 0 = .ok (.aload_n 0, 1) := by decide +kernel
theorem dd_X8_erase_1 : decode X8_erase.2.1 1 = .ok (.getfield 12, 3) := by decide +kernel
theorem dd_X8_erase_4 : decode X8_erase.2.1 4 = .ok (.getfield 74, 3) := by decide +kernel
theorem dd_X8_erase_7 : decode X8_erase.2.1 7 = .ok (.istore_n 1, 1) := by decide +kernel
theorem dd_X8_erase_8 : decode X8_erase.2.1 8 = .ok (.aload_n 0, 1) := by decide +kernel
theorem dd_X8_erase_9 : decode X8_erase.2.1 9 = .ok (.getfield 12, 3) := by decide +kernel
theorem dd_X8_erase_12 : decode X8_erase.2.1 12 = .ok (.iconst 0, 1) := by decide +kernel
theorem dd_X8_erase_13 : decode X8_erase.2.1 13 = .ok (.putfield 74, 3) := by decide +kernel
theorem dd_X8_erase_16 : decode X8_erase.2.1 16 = .ok (.iload_n 1, 1) := by decide +kernel
theorem dd_X8_erase_17 : decode X8_erase.2.1 17 = .ok (.ireturn, 1) := by decide +kernel
theorem dd_X8_fault_0 : decode X8_fault.2.1 0 = .ok (.aload_n 0, 1) := by decide +kernel
theorem dd_X8_fault_1 : decode X8_fault.2.1 1 = .ok (.getfield 23, 3) := by decide +kernel
theorem dd_X8_fault_4 : decode X8_fault.2.1 4 = .ok (.aload_n 0, 1) := by decide +kernel
theorem dd_X8_fault_5 : decode X8_fault.2.1 5 = .ok (.getfield 19, 3) := by decide +kernel
theorem dd_X8_fault_8 : decode X8_fault.2.1 8 = .ok (.invokevirtual 82, 3) := by decide +kernel
theorem dd_X8_fault_11 : decode X8_fault.2.1 11 = .ok (.aload_n 0, 1) := by decide +kernel
theorem dd_X8_fault_12 : decode X8_fault.2.1 12 = .ok (.getfield 12, 3) := by decide +kernel
theorem dd_X8_fault_15 : decode X8_fault.2.1 15 = .ok (.aload_n 0, 1) := by decide +kernel
theorem dd_X8_fault_16 : decode X8_fault.2.1 16 = .ok (.getfield 23, 3) := by decide +kernel
theorem dd_X8_fault_19 : decode X8_fault.2.1 19 = .ok (.invokevirtual 86, 3) := by decide +kernel
theorem dd_X8_fault_22 : decode X8_fault.2.1 22 = .ok (.ireturn, 1) := by decide +kernel
theorem dd_X8_office_0 : decode X8_office.2.1 0 = .ok (.aload_n 0, 1) := by decide +kernel
theorem dd_X8_office_1 : decode X8_office.2.1 1 = .ok (.getfield 23, 3) := by decide +kernel
theorem dd_X8_office_4 : decode X8_office.2.1 4 = .ok (.aload_n 0, 1) := by decide +kernel
theorem dd_X8_office_5 : decode X8_office.2.1 5 = .ok (.getfield 19, 3) := by decide +kernel
theorem dd_X8_office_8 : decode X8_office.2.1 8 = .ok (.invokevirtual 82, 3) := by decide +kernel
theorem dd_X8_office_11 : decode X8_office.2.1 11 = .ok (.aload_n 0, 1) := by decide +kernel
theorem dd_X8_office_12 : decode X8_office.2.1 12 = .ok (.getfield 12, 3) := by decide +kernel
theorem dd_X8_office_15 : decode X8_office.2.1 15 = .ok (.aload_n 0, 1) := by decide +kernel
theorem dd_X8_office_16 : decode X8_office.2.1 16 = .ok (.getfield 23, 3) := by decide +kernel
theorem dd_X8_office_19 : decode X8_office.2.1 19 = .ok (.invokevirtual 86, 3) := by decide +kernel
theorem dd_X8_office_22 : decode X8_office.2.1 22 = .ok (.iconst (-1), 1) := by decide +kernel
theorem dd_X8_office_23 : decode X8_office.2.1 23 = .ok (.if_icmp .eq 6, 3) := by decide +kernel
theorem dd_X8_office_26 : decode X8_office.2.1 26 = .ok (.bipush (-4), 2) := by decide +kernel
theorem dd_X8_office_28 : decode X8_office.2.1 28 = .ok (.ireturn, 1) := by decide +kernel
theorem dd_X8_office_29 : decode X8_office.2.1 29 = .ok (.aload_n 0, 1) := by decide +kernel
theorem dd_X8_office_30 : decode X8_office.2.1 30 = .ok (.getfield 19, 3) := by decide +kernel
theorem dd_X8_office_33 : decode X8_office.2.1 33 = .ok (.aload_n 0, 1) := by decide +kernel
theorem dd_X8_office_34 : decode X8_office.2.1 34 = .ok (.getfield 23, 3) := by decide +kernel
theorem dd_X8_office_37 : decode X8_office.2.1 37 = .ok (.invokevirtual 82, 3) := by decide +kernel
theorem dd_X8_office_40 : decode X8_office.2.1 40 = .ok (.aload_n 0, 1) := by decide +kernel
theorem dd_X8_office_41 : decode X8_office.2.1 41 = .ok (.getfield 29, 3) := by decide +kernel
theorem dd_X8_office_44 : decode X8_office.2.1 44 = .ok (.aload_n 0, 1) := by decide +kernel
theorem dd_X8_office_45 : decode X8_office.2.1 45 = .ok (.getfield 19, 3) := by decide +kernel
theorem dd_X8_office_48 : decode X8_office.2.1 48 = .ok (.getfield 90, 3) := by decide +kernel
theorem dd_X8_office_51 : decode X8_office.2.1 51 = .ok (.invokevirtual 93, 3) := by decide +kernel
theorem dd_X8_office_54 : decode X8_office.2.1 54 = .ok (.aload_n 0, 1) := by decide +kernel
theorem dd_X8_office_55 : decode X8_office.2.1 55 = .ok (.invokevirtual 96, 3) := by decide +kernel
theorem dd_X8_office_58 : decode X8_office.2.1 58 = .ok (.aload_n 0, 1) := by decide +kernel
theorem dd_X8_office_59 : decode X8_office.2.1 59 = .ok (.getfield 12, 3) := by decide +kernel
theorem dd_X8_office_62 : decode X8_office.2.1 62 = .ok (.iconst 0, 1) := by decide +kernel
theorem dd_X8_office_63 : decode X8_office.2.1 63 = .ok (.putfield 74, 3) := by decide +kernel
theorem dd_X8_office_66 : decode X8_office.2.1 66 = .ok (.aload_n 0, 1) := by decide +kernel
theorem dd_X8_office_67 : decode X8_office.2.1 67 = .ok (.getfield 12, 3) := by decide +kernel
theorem dd_X8_office_70 : decode X8_office.2.1 70 = .ok (.getfield 99, 3) := by decide +kernel
theorem dd_X8_office_73 : decode X8_office.2.1 73 = .ok (.ireturn, 1) := by decide +kernel
theorem dd_X8_forgetWhatWasDone_0 : decode X8_forgetWhatWasDone.2.1 0 = .ok (.aload_n 0, 1) := by decide +kernel
theorem dd_X8_forgetWhatWasDone_1 : decode X8_forgetWhatWasDone.2.1 1 = .ok (.getfield 63, 3) := by decide +kernel
theorem dd_X8_forgetWhatWasDone_4 : decode X8_forgetWhatWasDone.2.1 4 = .ok (.invokevirtual 102, 3) := by decide +kernel
theorem dd_X8_forgetWhatWasDone_7 : decode X8_forgetWhatWasDone.2.1 7 = .ok (.aload_n 0, 1) := by decide +kernel
theorem dd_X8_forgetWhatWasDone_8 : decode X8_forgetWhatWasDone.2.1 8 = .ok (.getfield 36, 3) := by decide +kernel
theorem dd_X8_forgetWhatWasDone_11 : decode X8_forgetWhatWasDone.2.1 11 = .ok (.iconst 0, 1) := by decide +kernel
theorem dd_X8_forgetWhatWasDone_12 : decode X8_forgetWhatWasDone.2.1 12 = .ok (.putfield 105, 3) := by decide +kernel
theorem dd_X8_forgetWhatWasDone_15 : decode X8_forgetWhatWasDone.2.1 15 = .ok (.aload_n 0, 1) := by decide +kernel
theorem dd_X8_forgetWhatWasDone_16 : decode X8_forgetWhatWasDone.2.1 16 = .ok (.getfield 40, 3) := by decide +kernel
theorem dd_X8_forgetWhatWasDone_19 : decode X8_forgetWhatWasDone.2.1 19 = .ok (.iconst 0, 1) := by decide +kernel
theorem dd_X8_forgetWhatWasDone_20 : decode X8_forgetWhatWasDone.2.1 20 = .ok (.putfield 108, 3) := by decide +kernel
theorem dd_X8_forgetWhatWasDone_23 : decode X8_forgetWhatWasDone.2.1 23 = .ok (.aload_n 0, 1) := by decide +kernel
theorem dd_X8_forgetWhatWasDone_24 : decode X8_forgetWhatWasDone.2.1 24 = .ok (.getfield 43, 3) := by decide +kernel
theorem dd_X8_forgetWhatWasDone_27 : decode X8_forgetWhatWasDone.2.1 27 = .ok (.iconst 0, 1) := by decide +kernel
theorem dd_X8_forgetWhatWasDone_28 : decode X8_forgetWhatWasDone.2.1 28 = .ok (.putfield 108, 3) := by decide +kernel
theorem dd_X8_forgetWhatWasDone_31 : decode X8_forgetWhatWasDone.2.1 31 = .ok (.iconst 0, 1) := by decide +kernel
theorem dd_X8_forgetWhatWasDone_32 : decode X8_forgetWhatWasDone.2.1 32 = .ok (.istore_n 1, 1) := by decide +kernel
theorem dd_X8_forgetWhatWasDone_33 : decode X8_forgetWhatWasDone.2.1 33 = .ok (.iload_n 1, 1) := by decide +kernel
theorem dd_X8_forgetWhatWasDone_34 : decode X8_forgetWhatWasDone.2.1 34 = .ok (.iconst 3, 1) := by decide +kernel
theorem dd_X8_forgetWhatWasDone_35 : decode X8_forgetWhatWasDone.2.1 35 = .ok (.if_icmp .ge 23, 3) := by decide +kernel
theorem dd_X8_forgetWhatWasDone_38 : decode X8_forgetWhatWasDone.2.1 38 = .ok (.aload_n 0, 1) := by decide +kernel
theorem dd_X8_forgetWhatWasDone_39 : decode X8_forgetWhatWasDone.2.1 39 = .ok (.iload_n 1, 1) := by decide +kernel
theorem dd_X8_forgetWhatWasDone_40 : decode X8_forgetWhatWasDone.2.1 40 = .ok (.invokevirtual 112, 3) := by decide +kernel
theorem dd_X8_forgetWhatWasDone_43 : decode X8_forgetWhatWasDone.2.1 43 = .ok (.astore_n 2, 1) := by decide +kernel
theorem dd_X8_forgetWhatWasDone_44 : decode X8_forgetWhatWasDone.2.1 44 = .ok (.aload_n 2, 1) := by decide +kernel
theorem dd_X8_forgetWhatWasDone_45 : decode X8_forgetWhatWasDone.2.1 45 = .ok (.ifnull 7, 3) := by decide +kernel
theorem dd_X8_forgetWhatWasDone_48 : decode X8_forgetWhatWasDone.2.1 48 = .ok (.aload_n 2, 1) := by decide +kernel
theorem dd_X8_forgetWhatWasDone_49 : decode X8_forgetWhatWasDone.2.1 49 = .ok (.invokevirtual 116, 3) := by decide +kernel
theorem dd_X8_forgetWhatWasDone_52 : decode X8_forgetWhatWasDone.2.1 52 = .ok (.iinc 1 1, 3) := by decide +kernel
theorem dd_X8_forgetWhatWasDone_55 : decode X8_forgetWhatWasDone.2.1 55 = .ok (.goto (-22), 3) := by decide +kernel
theorem dd_X8_forgetWhatWasDone_58 : decode X8_forgetWhatWasDone.2.1 58 = .ok (.return_, 1) := by decide +kernel
theorem dd_X8_rhythm_0 : decode X8_rhythm.2.1 0 = .ok (.aload_n 0, 1) := by decide +kernel
theorem dd_X8_rhythm_1 : decode X8_rhythm.2.1 1 = .ok (.getfield 19, 3) := by decide +kernel
theorem dd_X8_rhythm_4 : decode X8_rhythm.2.1 4 = .ok (.iload_n 1, 1) := by decide +kernel
theorem dd_X8_rhythm_5 : decode X8_rhythm.2.1 5 = .ok (.invokevirtual 119, 3) := by decide +kernel
theorem dd_X8_rhythm_8 : decode X8_rhythm.2.1 8 = .ok (.ifCond .ne 6, 3) := by decide +kernel
theorem dd_X8_rhythm_11 : decode X8_rhythm.2.1 11 = .ok (.bipush (-2), 2) := by decide +kernel
theorem dd_X8_rhythm_13 : decode X8_rhythm.2.1 13 = .ok (.ireturn, 1) := by decide +kernel
theorem dd_X8_rhythm_14 : decode X8_rhythm.2.1 14 = .ok (.iload_n 2, 1) := by decide +kernel
theorem dd_X8_rhythm_15 : decode X8_rhythm.2.1 15 = .ok (.tableswitch 91 0 4 #[33, 43, 60, 69, 82], 33) := by decide +kernel
theorem dd_X8_rhythm_48 : decode X8_rhythm.2.1 48 = .ok (.aload_n 0, 1) := by decide +kernel
theorem dd_X8_rhythm_49 : decode X8_rhythm.2.1 49 = .ok (.getfield 19, 3) := by decide +kernel
theorem dd_X8_rhythm_52 : decode X8_rhythm.2.1 52 = .ok (.getfield 123, 3) := by decide +kernel
theorem dd_X8_rhythm_55 : decode X8_rhythm.2.1 55 = .ok (.iload_n 1, 1) := by decide +kernel
theorem dd_X8_rhythm_56 : decode X8_rhythm.2.1 56 = .ok (.iaload, 1) := by decide +kernel
theorem dd_X8_rhythm_57 : decode X8_rhythm.2.1 57 = .ok (.ireturn, 1) := by decide +kernel
theorem dd_X8_rhythm_58 : decode X8_rhythm.2.1 58 = .ok (.aload_n 0, 1) := by decide +kernel
theorem dd_X8_rhythm_59 : decode X8_rhythm.2.1 59 = .ok (.getfield 19, 3) := by decide +kernel
theorem dd_X8_rhythm_62 : decode X8_rhythm.2.1 62 = .ok (.iload_n 1, 1) := by decide +kernel
theorem dd_X8_rhythm_63 : decode X8_rhythm.2.1 63 = .ok (.aload_n 0, 1) := by decide +kernel
theorem dd_X8_rhythm_64 : decode X8_rhythm.2.1 64 = .ok (.getfield 19, 3) := by decide +kernel
theorem dd_X8_rhythm_67 : decode X8_rhythm.2.1 67 = .ok (.iload_n 1, 1) := by decide +kernel
theorem dd_X8_rhythm_68 : decode X8_rhythm.2.1 68 = .ok (.invokevirtual 127, 3) := by decide +kernel
theorem dd_X8_rhythm_71 : decode X8_rhythm.2.1 71 = .ok (.invokevirtual 131, 3) := by decide +kernel
theorem dd_X8_rhythm_74 : decode X8_rhythm.2.1 74 = .ok (.ireturn, 1) := by decide +kernel
theorem dd_X8_rhythm_75 : decode X8_rhythm.2.1 75 = .ok (.aload_n 0, 1) := by decide +kernel
theorem dd_X8_rhythm_76 : decode X8_rhythm.2.1 76 = .ok (.getfield 19, 3) := by decide +kernel
theorem dd_X8_rhythm_79 : decode X8_rhythm.2.1 79 = .ok (.iload_n 1, 1) := by decide +kernel
theorem dd_X8_rhythm_80 : decode X8_rhythm.2.1 80 = .ok (.invokevirtual 135, 3) := by decide +kernel
theorem dd_X8_rhythm_83 : decode X8_rhythm.2.1 83 = .ok (.ireturn, 1) := by decide +kernel
theorem dd_X8_rhythm_84 : decode X8_rhythm.2.1 84 = .ok (.aload_n 0, 1) := by decide +kernel
theorem dd_X8_rhythm_85 : decode X8_rhythm.2.1 85 = .ok (.getfield 19, 3) := by decide +kernel
theorem dd_X8_rhythm_88 : decode X8_rhythm.2.1 88 = .ok (.getfield 123, 3) := by decide +kernel
theorem dd_X8_rhythm_91 : decode X8_rhythm.2.1 91 = .ok (.iload_n 1, 1) := by decide +kernel
theorem dd_X8_rhythm_92 : decode X8_rhythm.2.1 92 = .ok (.iaload, 1) := by decide +kernel
theorem dd_X8_rhythm_93 : decode X8_rhythm.2.1 93 = .ok (.invokestatic 138, 3) := by decide +kernel
theorem dd_X8_rhythm_96 : decode X8_rhythm.2.1 96 = .ok (.ireturn, 1) := by decide +kernel
theorem dd_X8_rhythm_97 : decode X8_rhythm.2.1 97 = .ok (.aload_n 0, 1) := by decide +kernel
theorem dd_X8_rhythm_98 : decode X8_rhythm.2.1 98 = .ok (.getfield 19, 3) := by decide +kernel
theorem dd_X8_rhythm_101 : decode X8_rhythm.2.1 101 = .ok (.iload_n 1, 1) := by decide +kernel
theorem dd_X8_rhythm_102 : decode X8_rhythm.2.1 102 = .ok (.invokevirtual 127, 3) := by decide +kernel
theorem dd_X8_rhythm_105 : decode X8_rhythm.2.1 105 = .ok (.ireturn, 1) := by decide +kernel
theorem dd_X8_rhythm_106 : decode X8_rhythm.2.1 106 = .ok (.bipush (-3), 2) := by decide +kernel
theorem dd_X8_rhythm_108 : decode X8_rhythm.2.1 108 = .ok (.ireturn, 1) := by decide +kernel
theorem dd_X8_light_0 : decode X8_light.2.1 0 = .ok (.aload_n 0, 1) := by decide +kernel
theorem dd_X8_light_1 : decode X8_light.2.1 1 = .ok (.getfield 29, 3) := by decide +kernel
theorem dd_X8_light_4 : decode X8_light.2.1 4 = .ok (.iload_n 1, 1) := by decide +kernel
theorem dd_X8_light_5 : decode X8_light.2.1 5 = .ok (.invokevirtual 143, 3) := by decide +kernel
theorem dd_X8_light_8 : decode X8_light.2.1 8 = .ok (.ifCond .ne 6, 3) := by decide +kernel
theorem dd_X8_light_11 : decode X8_light.2.1 11 = .ok (.bipush (-2), 2) := by decide +kernel
theorem dd_X8_light_13 : decode X8_light.2.1 13 = .ok (.ireturn, 1) := by decide +kernel
theorem dd_X8_light_14 : decode X8_light.2.1 14 = .ok (.iload_n 2, 1) := by decide +kernel
theorem dd_X8_light_15 : decode X8_light.2.1 15 = .ok (.tableswitch 71 0 3 #[29, 39, 49, 65], 29) := by decide +kernel
theorem dd_X8_light_44 : decode X8_light.2.1 44 = .ok (.aload_n 0, 1) := by decide +kernel
theorem dd_X8_light_45 : decode X8_light.2.1 45 = .ok (.getfield 29, 3) := by decide +kernel
theorem dd_X8_light_48 : decode X8_light.2.1 48 = .ok (.getfield 146, 3) := by decide +kernel
theorem dd_X8_light_51 : decode X8_light.2.1 51 = .ok (.iload_n 1, 1) := by decide +kernel
theorem dd_X8_light_52 : decode X8_light.2.1 52 = .ok (.iaload, 1) := by decide +kernel
theorem dd_X8_light_53 : decode X8_light.2.1 53 = .ok (.ireturn, 1) := by decide +kernel
theorem dd_X8_light_54 : decode X8_light.2.1 54 = .ok (.aload_n 0, 1) := by decide +kernel
theorem dd_X8_light_55 : decode X8_light.2.1 55 = .ok (.getfield 29, 3) := by decide +kernel
theorem dd_X8_light_58 : decode X8_light.2.1 58 = .ok (.getfield 149, 3) := by decide +kernel
theorem dd_X8_light_61 : decode X8_light.2.1 61 = .ok (.iload_n 1, 1) := by decide +kernel
theorem dd_X8_light_62 : decode X8_light.2.1 62 = .ok (.iaload, 1) := by decide +kernel
theorem dd_X8_light_63 : decode X8_light.2.1 63 = .ok (.ireturn, 1) := by decide +kernel
theorem dd_X8_light_64 : decode X8_light.2.1 64 = .ok (.aload_n 0, 1) := by decide +kernel
theorem dd_X8_light_65 : decode X8_light.2.1 65 = .ok (.getfield 29, 3) := by decide +kernel
theorem dd_X8_light_68 : decode X8_light.2.1 68 = .ok (.iload_n 1, 1) := by decide +kernel
theorem dd_X8_light_69 : decode X8_light.2.1 69 = .ok (.aload_n 0, 1) := by decide +kernel
theorem dd_X8_light_70 : decode X8_light.2.1 70 = .ok (.getfield 19, 3) := by decide +kernel
theorem dd_X8_light_73 : decode X8_light.2.1 73 = .ok (.getfield 152, 3) := by decide +kernel
theorem dd_X8_light_76 : decode X8_light.2.1 76 = .ok (.invokevirtual 155, 3) := by decide +kernel
theorem dd_X8_light_79 : decode X8_light.2.1 79 = .ok (.ireturn, 1) := by decide +kernel
theorem dd_X8_light_80 : decode X8_light.2.1 80 = .ok (.aload_n 0, 1) := by decide +kernel
theorem dd_X8_light_81 : decode X8_light.2.1 81 = .ok (.iload_n 1, 1) := by decide +kernel
theorem dd_X8_light_82 : decode X8_light.2.1 82 = .ok (.invokevirtual 158, 3) := by decide +kernel
theorem dd_X8_light_85 : decode X8_light.2.1 85 = .ok (.ireturn, 1) := by decide +kernel
theorem dd_X8_light_86 : decode X8_light.2.1 86 = .ok (.bipush (-3), 2) := by decide +kernel
theorem dd_X8_light_88 : decode X8_light.2.1 88 = .ok (.ireturn, 1) := by decide +kernel
theorem dd_X8_clashing_0 : decode X8_clashing.2.1 0 = .ok (.aload_n 0, 1) := by decide +kernel
theorem dd_X8_clashing_1 : decode X8_clashing.2.1 1 = .ok (.getfield 29, 3) := by decide +kernel
theorem dd_X8_clashing_4 : decode X8_clashing.2.1 4 = .ok (.iload_n 1, 1) := by decide +kernel
theorem dd_X8_clashing_5 : decode X8_clashing.2.1 5 = .ok (.aload_n 0, 1) := by decide +kernel
theorem dd_X8_clashing_6 : decode X8_clashing.2.1 6 = .ok (.getfield 19, 3) := by decide +kernel
theorem dd_X8_clashing_9 : decode X8_clashing.2.1 9 = .ok (.getfield 152, 3) := by decide +kernel
theorem dd_X8_clashing_12 : decode X8_clashing.2.1 12 = .ok (.invokevirtual 155, 3) := by decide +kernel
theorem dd_X8_clashing_15 : decode X8_clashing.2.1 15 = .ok (.istore_n 2, 1) := by decide +kernel
theorem dd_X8_clashing_16 : decode X8_clashing.2.1 16 = .ok (.iconst 0, 1) := by decide +kernel
theorem dd_X8_clashing_17 : decode X8_clashing.2.1 17 = .ok (.istore_n 3, 1) := by decide +kernel
theorem dd_X8_clashing_18 : decode X8_clashing.2.1 18 = .ok (.iconst 0, 1) := by decide +kernel
theorem dd_X8_clashing_19 : decode X8_clashing.2.1 19 = .ok (.istore 4, 2) := by decide +kernel
theorem dd_X8_clashing_21 : decode X8_clashing.2.1 21 = .ok (.iload 4, 2) := by decide +kernel
theorem dd_X8_clashing_23 : decode X8_clashing.2.1 23 = .ok (.aload_n 0, 1) := by decide +kernel
theorem dd_X8_clashing_24 : decode X8_clashing.2.1 24 = .ok (.getfield 29, 3) := by decide +kernel
theorem dd_X8_clashing_27 : decode X8_clashing.2.1 27 = .ok (.getfield 161, 3) := by decide +kernel
theorem dd_X8_clashing_30 : decode X8_clashing.2.1 30 = .ok (.if_icmp .ge 68, 3) := by decide +kernel
theorem dd_X8_clashing_33 : decode X8_clashing.2.1 33 = .ok (.iload_n 2, 1) := by decide +kernel
theorem dd_X8_clashing_34 : decode X8_clashing.2.1 34 = .ok (.iload 4, 2) := by decide +kernel
theorem dd_X8_clashing_36 : decode X8_clashing.2.1 36 = .ok (.ishr, 1) := by decide +kernel
theorem dd_X8_clashing_37 : decode X8_clashing.2.1 37 = .ok (.iconst 1, 1) := by decide +kernel
theorem dd_X8_clashing_38 : decode X8_clashing.2.1 38 = .ok (.iand, 1) := by decide +kernel
theorem dd_X8_clashing_39 : decode X8_clashing.2.1 39 = .ok (.iconst 1, 1) := by decide +kernel
theorem dd_X8_clashing_40 : decode X8_clashing.2.1 40 = .ok (.if_icmp .ne 7, 3) := by decide +kernel
theorem dd_X8_clashing_43 : decode X8_clashing.2.1 43 = .ok (.iconst 1, 1) := by decide +kernel
theorem dd_X8_clashing_44 : decode X8_clashing.2.1 44 = .ok (.goto 4, 3) := by decide +kernel
theorem dd_X8_clashing_47 : decode X8_clashing.2.1 47 = .ok (.iconst 0, 1) := by decide +kernel
theorem dd_X8_clashing_48 : decode X8_clashing.2.1 48 = .ok (.istore 5, 2) := by decide +kernel
theorem dd_X8_clashing_50 : decode X8_clashing.2.1 50 = .ok (.iload 5, 2) := by decide +kernel
theorem dd_X8_clashing_52 : decode X8_clashing.2.1 52 = .ok (.ifCond .eq 40, 3) := by decide +kernel
theorem dd_X8_clashing_55 : decode X8_clashing.2.1 55 = .ok (.aload_n 0, 1) := by decide +kernel
theorem dd_X8_clashing_56 : decode X8_clashing.2.1 56 = .ok (.getfield 19, 3) := by decide +kernel
theorem dd_X8_clashing_59 : decode X8_clashing.2.1 59 = .ok (.aload_n 0, 1) := by decide +kernel
theorem dd_X8_clashing_60 : decode X8_clashing.2.1 60 = .ok (.getfield 29, 3) := by decide +kernel
theorem dd_X8_clashing_63 : decode X8_clashing.2.1 63 = .ok (.getfield 149, 3) := by decide +kernel
theorem dd_X8_clashing_66 : decode X8_clashing.2.1 66 = .ok (.iload_n 1, 1) := by decide +kernel
theorem dd_X8_clashing_67 : decode X8_clashing.2.1 67 = .ok (.iaload, 1) := by decide +kernel
theorem dd_X8_clashing_68 : decode X8_clashing.2.1 68 = .ok (.aload_n 0, 1) := by decide +kernel
theorem dd_X8_clashing_69 : decode X8_clashing.2.1 69 = .ok (.getfield 29, 3) := by decide +kernel
theorem dd_X8_clashing_72 : decode X8_clashing.2.1 72 = .ok (.getfield 149, 3) := by decide +kernel
theorem dd_X8_clashing_75 : decode X8_clashing.2.1 75 = .ok (.iload 4, 2) := by decide +kernel
theorem dd_X8_clashing_77 : decode X8_clashing.2.1 77 = .ok (.iaload, 1) := by decide +kernel
theorem dd_X8_clashing_78 : decode X8_clashing.2.1 78 = .ok (.iconst 0, 1) := by decide +kernel
theorem dd_X8_clashing_79 : decode X8_clashing.2.1 79 = .ok (.invokevirtual 162, 3) := by decide +kernel
theorem dd_X8_clashing_82 : decode X8_clashing.2.1 82 = .ok (.ifCond .eq 10, 3) := by decide +kernel
theorem dd_X8_clashing_85 : decode X8_clashing.2.1 85 = .ok (.iload_n 3, 1) := by decide +kernel
theorem dd_X8_clashing_86 : decode X8_clashing.2.1 86 = .ok (.iconst 1, 1) := by decide +kernel
theorem dd_X8_clashing_87 : decode X8_clashing.2.1 87 = .ok (.iload 4, 2) := by decide +kernel
theorem dd_X8_clashing_89 : decode X8_clashing.2.1 89 = .ok (.ishl, 1) := by decide +kernel
theorem dd_X8_clashing_90 : decode X8_clashing.2.1 90 = .ok (.ior, 1) := by decide +kernel
theorem dd_X8_clashing_91 : decode X8_clashing.2.1 91 = .ok (.istore_n 3, 1) := by decide +kernel
theorem dd_X8_clashing_92 : decode X8_clashing.2.1 92 = .ok (.iinc 4 1, 3) := by decide +kernel
theorem dd_X8_clashing_95 : decode X8_clashing.2.1 95 = .ok (.goto (-74), 3) := by decide +kernel
theorem dd_X8_clashing_98 : decode X8_clashing.2.1 98 = .ok (.iload_n 3, 1) := by decide +kernel
theorem dd_X8_clashing_99 : decode X8_clashing.2.1 99 = .ok (.ireturn, 1) := by decide +kernel
theorem dd_X8_like_0 : decode X8_like.2.1 0 = .ok (.aload_n 0, 1) := by decide +kernel
theorem dd_X8_like_1 : decode X8_like.2.1 1 = .ok (.getfield 19, 3) := by decide +kernel
theorem dd_X8_like_4 : decode X8_like.2.1 4 = .ok (.iload_n 1, 1) := by decide +kernel
theorem dd_X8_like_5 : decode X8_like.2.1 5 = .ok (.invokevirtual 119, 3) := by decide +kernel
theorem dd_X8_like_8 : decode X8_like.2.1 8 = .ok (.ifCond .eq 14, 3) := by decide +kernel
theorem dd_X8_like_11 : decode X8_like.2.1 11 = .ok (.aload_n 0, 1) := by decide +kernel
theorem dd_X8_like_12 : decode X8_like.2.1 12 = .ok (.getfield 19, 3) := by decide +kernel
theorem dd_X8_like_15 : decode X8_like.2.1 15 = .ok (.iload_n 2, 1) := by decide +kernel
theorem dd_X8_like_16 : decode X8_like.2.1 16 = .ok (.invokevirtual 119, 3) := by decide +kernel
theorem dd_X8_like_19 : decode X8_like.2.1 19 = .ok (.ifCond .ne 6, 3) := by decide +kernel
theorem dd_X8_like_22 : decode X8_like.2.1 22 = .ok (.bipush (-2), 2) := by decide +kernel
theorem dd_X8_like_24 : decode X8_like.2.1 24 = .ok (.ireturn, 1) := by decide +kernel
theorem dd_X8_like_25 : decode X8_like.2.1 25 = .ok (.iload_n 3, 1) := by decide +kernel
theorem dd_X8_like_26 : decode X8_like.2.1 26 = .ok (.ifCond .lt 8, 3) := by decide +kernel
theorem dd_X8_like_29 : decode X8_like.2.1 29 = .ok (.iload_n 3, 1) := by decide +kernel
theorem dd_X8_like_30 : decode X8_like.2.1 30 = .ok (.iconst 1, 1) := by decide +kernel
theorem dd_X8_like_31 : decode X8_like.2.1 31 = .ok (.if_icmp .le 6, 3) := by decide +kernel
theorem dd_X8_like_34 : decode X8_like.2.1 34 = .ok (.bipush (-3), 2) := by decide +kernel
theorem dd_X8_like_36 : decode X8_like.2.1 36 = .ok (.ireturn, 1) := by decide +kernel
theorem dd_X8_like_37 : decode X8_like.2.1 37 = .ok (.aload_n 0, 1) := by decide +kernel
theorem dd_X8_like_38 : decode X8_like.2.1 38 = .ok (.getfield 19, 3) := by decide +kernel
theorem dd_X8_like_41 : decode X8_like.2.1 41 = .ok (.iload_n 1, 1) := by decide +kernel
theorem dd_X8_like_42 : decode X8_like.2.1 42 = .ok (.iload_n 2, 1) := by decide +kernel
theorem dd_X8_like_43 : decode X8_like.2.1 43 = .ok (.iload_n 3, 1) := by decide +kernel
theorem dd_X8_like_44 : decode X8_like.2.1 44 = .ok (.invokevirtual 162, 3) := by decide +kernel
theorem dd_X8_like_47 : decode X8_like.2.1 47 = .ok (.ifCond .eq 7, 3) := by decide +kernel
theorem dd_X8_like_50 : decode X8_like.2.1 50 = .ok (.iconst 1, 1) := by decide +kernel
theorem dd_X8_like_51 : decode X8_like.2.1 51 = .ok (.goto 4, 3) := by decide +kernel
theorem dd_X8_like_54 : decode X8_like.2.1 54 = .ok (.iconst 0, 1) := by decide +kernel
theorem dd_X8_like_55 : decode X8_like.2.1 55 = .ok (.ireturn, 1) := by decide +kernel
theorem dd_X8_lit_0 : decode X8_lit.2.1 0 = .ok (.aload_n 0, 1) := by decide +kernel
theorem dd_X8_lit_1 : decode X8_lit.2.1 1 = .ok (.getfield 29, 3) := by decide +kernel
theorem dd_X8_lit_4 : decode X8_lit.2.1 4 = .ok (.iload_n 1, 1) := by decide +kernel
theorem dd_X8_lit_5 : decode X8_lit.2.1 5 = .ok (.invokevirtual 143, 3) := by decide +kernel
theorem dd_X8_lit_8 : decode X8_lit.2.1 8 = .ok (.ifCond .eq 14, 3) := by decide +kernel
theorem dd_X8_lit_11 : decode X8_lit.2.1 11 = .ok (.aload_n 0, 1) := by decide +kernel
theorem dd_X8_lit_12 : decode X8_lit.2.1 12 = .ok (.getfield 19, 3) := by decide +kernel
theorem dd_X8_lit_15 : decode X8_lit.2.1 15 = .ok (.iload_n 2, 1) := by decide +kernel
theorem dd_X8_lit_16 : decode X8_lit.2.1 16 = .ok (.invokevirtual 119, 3) := by decide +kernel
theorem dd_X8_lit_19 : decode X8_lit.2.1 19 = .ok (.ifCond .ne 6, 3) := by decide +kernel
theorem dd_X8_lit_22 : decode X8_lit.2.1 22 = .ok (.bipush (-2), 2) := by decide +kernel
theorem dd_X8_lit_24 : decode X8_lit.2.1 24 = .ok (.ireturn, 1) := by decide +kernel
theorem dd_X8_lit_25 : decode X8_lit.2.1 25 = .ok (.aload_n 0, 1) := by decide +kernel
theorem dd_X8_lit_26 : decode X8_lit.2.1 26 = .ok (.getfield 29, 3) := by decide +kernel
theorem dd_X8_lit_29 : decode X8_lit.2.1 29 = .ok (.getfield 149, 3) := by decide +kernel
theorem dd_X8_lit_32 : decode X8_lit.2.1 32 = .ok (.iload_n 1, 1) := by decide +kernel
theorem dd_X8_lit_33 : decode X8_lit.2.1 33 = .ok (.iaload, 1) := by decide +kernel
theorem dd_X8_lit_34 : decode X8_lit.2.1 34 = .ok (.istore_n 3, 1) := by decide +kernel
theorem dd_X8_lit_35 : decode X8_lit.2.1 35 = .ok (.iload_n 3, 1) := by decide +kernel
theorem dd_X8_lit_36 : decode X8_lit.2.1 36 = .ok (.iload_n 2, 1) := by decide +kernel
theorem dd_X8_lit_37 : decode X8_lit.2.1 37 = .ok (.if_icmp .ne 6, 3) := by decide +kernel
theorem dd_X8_lit_40 : decode X8_lit.2.1 40 = .ok (.bipush (-4), 2) := by decide +kernel
theorem dd_X8_lit_42 : decode X8_lit.2.1 42 = .ok (.ireturn, 1) := by decide +kernel
theorem dd_X8_lit_43 : decode X8_lit.2.1 43 = .ok (.aload_n 0, 1) := by decide +kernel
theorem dd_X8_lit_44 : decode X8_lit.2.1 44 = .ok (.iload_n 1, 1) := by decide +kernel
theorem dd_X8_lit_45 : decode X8_lit.2.1 45 = .ok (.invokevirtual 166, 3) := by decide +kernel
theorem dd_X8_lit_48 : decode X8_lit.2.1 48 = .ok (.aload_n 0, 1) := by decide +kernel
theorem dd_X8_lit_49 : decode X8_lit.2.1 49 = .ok (.getfield 29, 3) := by decide +kernel
theorem dd_X8_lit_52 : decode X8_lit.2.1 52 = .ok (.getfield 149, 3) := by decide +kernel
theorem dd_X8_lit_55 : decode X8_lit.2.1 55 = .ok (.iload_n 1, 1) := by decide +kernel
theorem dd_X8_lit_56 : decode X8_lit.2.1 56 = .ok (.iload_n 2, 1) := by decide +kernel
theorem dd_X8_lit_57 : decode X8_lit.2.1 57 = .ok (.iastore, 1) := by decide +kernel
theorem dd_X8_lit_58 : decode X8_lit.2.1 58 = .ok (.iload_n 3, 1) := by decide +kernel
theorem dd_X8_lit_59 : decode X8_lit.2.1 59 = .ok (.ireturn, 1) := by decide +kernel
theorem dd_X8_dark_0 : decode X8_dark.2.1 0 = .ok (.aload_n 0, 1) := by decide +kernel
theorem dd_X8_dark_1 : decode X8_dark.2.1 1 = .ok (.getfield 29, 3) := by decide +kernel
theorem dd_X8_dark_4 : decode X8_dark.2.1 4 = .ok (.iload_n 1, 1) := by decide +kernel
theorem dd_X8_dark_5 : decode X8_dark.2.1 5 = .ok (.invokevirtual 143, 3) := by decide +kernel
theorem dd_X8_dark_8 : decode X8_dark.2.1 8 = .ok (.ifCond .ne 6, 3) := by decide +kernel
theorem dd_X8_dark_11 : decode X8_dark.2.1 11 = .ok (.bipush (-2), 2) := by decide +kernel
theorem dd_X8_dark_13 : decode X8_dark.2.1 13 = .ok (.ireturn, 1) := by decide +kernel
theorem dd_X8_dark_14 : decode X8_dark.2.1 14 = .ok (.aload_n 0, 1) := by decide +kernel
theorem dd_X8_dark_15 : decode X8_dark.2.1 15 = .ok (.getfield 29, 3) := by decide +kernel
theorem dd_X8_dark_18 : decode X8_dark.2.1 18 = .ok (.getfield 149, 3) := by decide +kernel
theorem dd_X8_dark_21 : decode X8_dark.2.1 21 = .ok (.iload_n 1, 1) := by decide +kernel
theorem dd_X8_dark_22 : decode X8_dark.2.1 22 = .ok (.iaload, 1) := by decide +kernel
theorem dd_X8_dark_23 : decode X8_dark.2.1 23 = .ok (.istore_n 2, 1) := by decide +kernel
theorem dd_X8_dark_24 : decode X8_dark.2.1 24 = .ok (.iload_n 2, 1) := by decide +kernel
theorem dd_X8_dark_25 : decode X8_dark.2.1 25 = .ok (.iconst (-1), 1) := by decide +kernel
theorem dd_X8_dark_26 : decode X8_dark.2.1 26 = .ok (.if_icmp .ne 6, 3) := by decide +kernel
theorem dd_X8_dark_29 : decode X8_dark.2.1 29 = .ok (.bipush (-4), 2) := by decide +kernel
theorem dd_X8_dark_31 : decode X8_dark.2.1 31 = .ok (.ireturn, 1) := by decide +kernel
theorem dd_X8_dark_32 : decode X8_dark.2.1 32 = .ok (.aload_n 0, 1) := by decide +kernel
theorem dd_X8_dark_33 : decode X8_dark.2.1 33 = .ok (.iload_n 1, 1) := by decide +kernel
theorem dd_X8_dark_34 : decode X8_dark.2.1 34 = .ok (.invokevirtual 166, 3) := by decide +kernel
theorem dd_X8_dark_37 : decode X8_dark.2.1 37 = .ok (.aload_n 0, 1) := by decide +kernel
theorem dd_X8_dark_38 : decode X8_dark.2.1 38 = .ok (.getfield 29, 3) := by decide +kernel
theorem dd_X8_dark_41 : decode X8_dark.2.1 41 = .ok (.getfield 149, 3) := by decide +kernel
theorem dd_X8_dark_44 : decode X8_dark.2.1 44 = .ok (.iload_n 1, 1) := by decide +kernel
theorem dd_X8_dark_45 : decode X8_dark.2.1 45 = .ok (.iconst (-1), 1) := by decide +kernel
theorem dd_X8_dark_46 : decode X8_dark.2.1 46 = .ok (.iastore, 1) := by decide +kernel
theorem dd_X8_dark_47 : decode X8_dark.2.1 47 = .ok (.iload_n 2, 1) := by decide +kernel
theorem dd_X8_dark_48 : decode X8_dark.2.1 48 = .ok (.ireturn, 1) := by decide +kernel
theorem dd_X8_move_0 : decode X8_move.2.1 0 = .ok (.aload_n 0, 1) := by decide +kernel
theorem dd_X8_move_1 : decode X8_move.2.1 1 = .ok (.getfield 29, 3) := by decide +kernel
theorem dd_X8_move_4 : decode X8_move.2.1 4 = .ok (.iload_n 1, 1) := by decide +kernel
theorem dd_X8_move_5 : decode X8_move.2.1 5 = .ok (.invokevirtual 143, 3) := by decide +kernel
theorem dd_X8_move_8 : decode X8_move.2.1 8 = .ok (.ifCond .ne 6, 3) := by decide +kernel
theorem dd_X8_move_11 : decode X8_move.2.1 11 = .ok (.bipush (-2), 2) := by decide +kernel
theorem dd_X8_move_13 : decode X8_move.2.1 13 = .ok (.ireturn, 1) := by decide +kernel
theorem dd_X8_move_14 : decode X8_move.2.1 14 = .ok (.iload_n 2, 1) := by decide +kernel
theorem dd_X8_move_15 : decode X8_move.2.1 15 = .ok (.invokestatic 169, 3) := by decide +kernel
theorem dd_X8_move_18 : decode X8_move.2.1 18 = .ok (.ifCond .ne 6, 3) := by decide +kernel
theorem dd_X8_move_21 : decode X8_move.2.1 21 = .ok (.bipush (-3), 2) := by decide +kernel
theorem dd_X8_move_23 : decode X8_move.2.1 23 = .ok (.ireturn, 1) := by decide +kernel
theorem dd_X8_move_24 : decode X8_move.2.1 24 = .ok (.aload_n 0, 1) := by decide +kernel
theorem dd_X8_move_25 : decode X8_move.2.1 25 = .ok (.getfield 29, 3) := by decide +kernel
theorem dd_X8_move_28 : decode X8_move.2.1 28 = .ok (.getfield 146, 3) := by decide +kernel
theorem dd_X8_move_31 : decode X8_move.2.1 31 = .ok (.iload_n 1, 1) := by decide +kernel
theorem dd_X8_move_32 : decode X8_move.2.1 32 = .ok (.iaload, 1) := by decide +kernel
theorem dd_X8_move_33 : decode X8_move.2.1 33 = .ok (.istore_n 3, 1) := by decide +kernel
theorem dd_X8_move_34 : decode X8_move.2.1 34 = .ok (.iload_n 3, 1) := by decide +kernel
theorem dd_X8_move_35 : decode X8_move.2.1 35 = .ok (.iload_n 2, 1) := by decide +kernel
theorem dd_X8_move_36 : decode X8_move.2.1 36 = .ok (.if_icmp .ne 6, 3) := by decide +kernel
theorem dd_X8_move_39 : decode X8_move.2.1 39 = .ok (.bipush (-4), 2) := by decide +kernel
theorem dd_X8_move_41 : decode X8_move.2.1 41 = .ok (.ireturn, 1) := by decide +kernel
theorem dd_X8_move_42 : decode X8_move.2.1 42 = .ok (.aload_n 0, 1) := by decide +kernel
theorem dd_X8_move_43 : decode X8_move.2.1 43 = .ok (.iload_n 1, 1) := by decide +kernel
theorem dd_X8_move_44 : decode X8_move.2.1 44 = .ok (.invokevirtual 166, 3) := by decide +kernel
theorem dd_X8_move_47 : decode X8_move.2.1 47 = .ok (.aload_n 0, 1) := by decide +kernel
theorem dd_X8_move_48 : decode X8_move.2.1 48 = .ok (.getfield 29, 3) := by decide +kernel
theorem dd_X8_move_51 : decode X8_move.2.1 51 = .ok (.getfield 146, 3) := by decide +kernel
theorem dd_X8_move_54 : decode X8_move.2.1 54 = .ok (.iload_n 1, 1) := by decide +kernel
theorem dd_X8_move_55 : decode X8_move.2.1 55 = .ok (.iload_n 2, 1) := by decide +kernel
theorem dd_X8_move_56 : decode X8_move.2.1 56 = .ok (.iastore, 1) := by decide +kernel
theorem dd_X8_move_57 : decode X8_move.2.1 57 = .ok (.iload_n 3, 1) := by decide +kernel
theorem dd_X8_move_58 : decode X8_move.2.1 58 = .ok (.ireturn, 1) := by decide +kernel
theorem dd_X8_prepareChange_0 : decode X8_prepareChange.2.1 0 = .ok (.aload_n 0, 1) := by decide +kernel
theorem dd_X8_prepareChange_1 : decode X8_prepareChange.2.1 1 = .ok (.getfield 36, 3) := by decide +kernel
theorem dd_X8_prepareChange_4 : decode X8_prepareChange.2.1 4 = .ok (.aload_n 0, 1) := by decide +kernel
theorem dd_X8_prepareChange_5 : decode X8_prepareChange.2.1 5 = .ok (.getfield 29, 3) := by decide +kernel
theorem dd_X8_prepareChange_8 : decode X8_prepareChange.2.1 8 = .ok (.iload_n 1, 1) := by decide +kernel
theorem dd_X8_prepareChange_9 : decode X8_prepareChange.2.1 9 = .ok (.invokevirtual 172, 3) := by decide +kernel
theorem dd_X8_prepareChange_12 : decode X8_prepareChange.2.1 12 = .ok (.aload_n 0, 1) := by decide +kernel
theorem dd_X8_prepareChange_13 : decode X8_prepareChange.2.1 13 = .ok (.getfield 63, 3) := by decide +kernel
theorem dd_X8_prepareChange_16 : decode X8_prepareChange.2.1 16 = .ok (.invokevirtual 102, 3) := by decide +kernel
theorem dd_X8_prepareChange_19 : decode X8_prepareChange.2.1 19 = .ok (.return_, 1) := by decide +kernel
theorem dd_X8_undo_0 : decode X8_undo.2.1 0 = .ok (.aload_n 0, 1) := by decide +kernel
theorem dd_X8_undo_1 : decode X8_undo.2.1 1 = .ok (.getfield 36, 3) := by decide +kernel
theorem dd_X8_undo_4 : decode X8_undo.2.1 4 = .ok (.getfield 105, 3) := by decide +kernel
theorem dd_X8_undo_7 : decode X8_undo.2.1 7 = .ok (.ifCond .ne 6, 3) := by decide +kernel
theorem dd_X8_undo_10 : decode X8_undo.2.1 10 = .ok (.bipush (-4), 2) := by decide +kernel
theorem dd_X8_undo_12 : decode X8_undo.2.1 12 = .ok (.ireturn, 1) := by decide +kernel
theorem dd_X8_undo_13 : decode X8_undo.2.1 13 = .ok (.aload_n 0, 1) := by decide +kernel
theorem dd_X8_undo_14 : decode X8_undo.2.1 14 = .ok (.getfield 36, 3) := by decide +kernel
theorem dd_X8_undo_17 : decode X8_undo.2.1 17 = .ok (.aload_n 0, 1) := by decide +kernel
theorem dd_X8_undo_18 : decode X8_undo.2.1 18 = .ok (.getfield 29, 3) := by decide +kernel
theorem dd_X8_undo_21 : decode X8_undo.2.1 21 = .ok (.invokevirtual 176, 3) := by decide +kernel
theorem dd_X8_undo_24 : decode X8_undo.2.1 24 = .ok (.aload_n 0, 1) := by decide +kernel
theorem dd_X8_undo_25 : decode X8_undo.2.1 25 = .ok (.getfield 63, 3) := by decide +kernel
theorem dd_X8_undo_28 : decode X8_undo.2.1 28 = .ok (.invokevirtual 102, 3) := by decide +kernel
theorem dd_X8_undo_31 : decode X8_undo.2.1 31 = .ok (.aload_n 0, 1) := by decide +kernel
theorem dd_X8_undo_32 : decode X8_undo.2.1 32 = .ok (.getfield 36, 3) := by decide +kernel
theorem dd_X8_undo_35 : decode X8_undo.2.1 35 = .ok (.getfield 105, 3) := by decide +kernel
theorem dd_X8_undo_38 : decode X8_undo.2.1 38 = .ok (.ireturn, 1) := by decide +kernel
theorem dd_X8_keep_0 : decode X8_keep.2.1 0 = .ok (.aload_n 0, 1) := by decide +kernel
theorem dd_X8_keep_1 : decode X8_keep.2.1 1 = .ok (.iload_n 1, 1) := by decide +kernel
theorem dd_X8_keep_2 : decode X8_keep.2.1 2 = .ok (.invokevirtual 179, 3) := by decide +kernel
theorem dd_X8_keep_5 : decode X8_keep.2.1 5 = .ok (.astore_n 2, 1) := by decide +kernel
theorem dd_X8_keep_6 : decode X8_keep.2.1 6 = .ok (.aload_n 2, 1) := by decide +kernel
theorem dd_X8_keep_7 : decode X8_keep.2.1 7 = .ok (.ifnonnull 6, 3) := by decide +kernel
theorem dd_X8_keep_10 : decode X8_keep.2.1 10 = .ok (.bipush (-2), 2) := by decide +kernel
theorem dd_X8_keep_12 : decode X8_keep.2.1 12 = .ok (.ireturn, 1) := by decide +kernel
theorem dd_X8_keep_13 : decode X8_keep.2.1 13 = .ok (.aload_n 2, 1) := by decide +kernel
theorem dd_X8_keep_14 : decode X8_keep.2.1 14 = .ok (.aload_n 0, 1) := by decide +kernel
theorem dd_X8_keep_15 : decode X8_keep.2.1 15 = .ok (.getfield 29, 3) := by decide +kernel
theorem dd_X8_keep_18 : decode X8_keep.2.1 18 = .ok (.invokevirtual 93, 3) := by decide +kernel
theorem dd_X8_keep_21 : decode X8_keep.2.1 21 = .ok (.aload_n 2, 1) := by decide +kernel
theorem dd_X8_keep_22 : decode X8_keep.2.1 22 = .ok (.iconst 1, 1) := by decide +kernel
theorem dd_X8_keep_23 : decode X8_keep.2.1 23 = .ok (.putfield 108, 3) := by decide +kernel
theorem dd_X8_keep_26 : decode X8_keep.2.1 26 = .ok (.aload_n 0, 1) := by decide +kernel
theorem dd_X8_keep_27 : decode X8_keep.2.1 27 = .ok (.getfield 29, 3) := by decide +kernel
theorem dd_X8_keep_30 : decode X8_keep.2.1 30 = .ok (.invokevirtual 183, 3) := by decide +kernel
theorem dd_X8_keep_33 : decode X8_keep.2.1 33 = .ok (.invokestatic 138, 3) := by decide +kernel
theorem dd_X8_keep_36 : decode X8_keep.2.1 36 = .ok (.ireturn, 1) := by decide +kernel
theorem dd_X8_back_0 : decode X8_back.2.1 0 = .ok (.aload_n 0, 1) := by decide +kernel
theorem dd_X8_back_1 : decode X8_back.2.1 1 = .ok (.iload_n 1, 1) := by decide +kernel
theorem dd_X8_back_2 : decode X8_back.2.1 2 = .ok (.invokevirtual 179, 3) := by decide +kernel
theorem dd_X8_back_5 : decode X8_back.2.1 5 = .ok (.astore_n 2, 1) := by decide +kernel
theorem dd_X8_back_6 : decode X8_back.2.1 6 = .ok (.aload_n 2, 1) := by decide +kernel
theorem dd_X8_back_7 : decode X8_back.2.1 7 = .ok (.ifnonnull 6, 3) := by decide +kernel
theorem dd_X8_back_10 : decode X8_back.2.1 10 = .ok (.bipush (-2), 2) := by decide +kernel
theorem dd_X8_back_12 : decode X8_back.2.1 12 = .ok (.ireturn, 1) := by decide +kernel
theorem dd_X8_back_13 : decode X8_back.2.1 13 = .ok (.aload_n 2, 1) := by decide +kernel
theorem dd_X8_back_14 : decode X8_back.2.1 14 = .ok (.getfield 108, 3) := by decide +kernel
theorem dd_X8_back_17 : decode X8_back.2.1 17 = .ok (.ifCond .ne 6, 3) := by decide +kernel
theorem dd_X8_back_20 : decode X8_back.2.1 20 = .ok (.bipush (-4), 2) := by decide +kernel
theorem dd_X8_back_22 : decode X8_back.2.1 22 = .ok (.ireturn, 1) := by decide +kernel
theorem dd_X8_back_23 : decode X8_back.2.1 23 = .ok (.aload_n 0, 1) := by decide +kernel
theorem dd_X8_back_24 : decode X8_back.2.1 24 = .ok (.getfield 29, 3) := by decide +kernel
theorem dd_X8_back_27 : decode X8_back.2.1 27 = .ok (.aload_n 2, 1) := by decide +kernel
theorem dd_X8_back_28 : decode X8_back.2.1 28 = .ok (.invokevirtual 93, 3) := by decide +kernel
theorem dd_X8_back_31 : decode X8_back.2.1 31 = .ok (.aload_n 0, 1) := by decide +kernel
theorem dd_X8_back_32 : decode X8_back.2.1 32 = .ok (.getfield 36, 3) := by decide +kernel
theorem dd_X8_back_35 : decode X8_back.2.1 35 = .ok (.iconst 0, 1) := by decide +kernel
theorem dd_X8_back_36 : decode X8_back.2.1 36 = .ok (.putfield 105, 3) := by decide +kernel
theorem dd_X8_back_39 : decode X8_back.2.1 39 = .ok (.aload_n 0, 1) := by decide +kernel
theorem dd_X8_back_40 : decode X8_back.2.1 40 = .ok (.getfield 63, 3) := by decide +kernel
theorem dd_X8_back_43 : decode X8_back.2.1 43 = .ok (.invokevirtual 102, 3) := by decide +kernel
theorem dd_X8_back_46 : decode X8_back.2.1 46 = .ok (.aload_n 0, 1) := by decide +kernel
theorem dd_X8_back_47 : decode X8_back.2.1 47 = .ok (.getfield 29, 3) := by decide +kernel
theorem dd_X8_back_50 : decode X8_back.2.1 50 = .ok (.invokevirtual 183, 3) := by decide +kernel
theorem dd_X8_back_53 : decode X8_back.2.1 53 = .ok (.invokestatic 138, 3) := by decide +kernel
theorem dd_X8_back_56 : decode X8_back.2.1 56 = .ok (.ireturn, 1) := by decide +kernel
theorem dd_X8_keptAt_0 : decode X8_keptAt.2.1 0 = .ok (.iload_n 1, 1) := by decide +kernel
theorem dd_X8_keptAt_1 : decode X8_keptAt.2.1 1 = .ok (.ifCond .ne 8, 3) := by decide +kernel
theorem dd_X8_keptAt_4 : decode X8_keptAt.2.1 4 = .ok (.aload_n 0, 1) := by decide +kernel
theorem dd_X8_keptAt_5 : decode X8_keptAt.2.1 5 = .ok (.getfield 40, 3) := by decide +kernel
theorem dd_X8_keptAt_8 : decode X8_keptAt.2.1 8 = .ok (.areturn, 1) := by decide +kernel
theorem dd_X8_keptAt_9 : decode X8_keptAt.2.1 9 = .ok (.iload_n 1, 1) := by decide +kernel
theorem dd_X8_keptAt_10 : decode X8_keptAt.2.1 10 = .ok (.iconst 1, 1) := by decide +kernel
theorem dd_X8_keptAt_11 : decode X8_keptAt.2.1 11 = .ok (.if_icmp .ne 10, 3) := by decide +kernel
theorem dd_X8_keptAt_14 : decode X8_keptAt.2.1 14 = .ok (.aload_n 0, 1) := by decide +kernel
theorem dd_X8_keptAt_15 : decode X8_keptAt.2.1 15 = .ok (.getfield 43, 3) := by decide +kernel
theorem dd_X8_keptAt_18 : decode X8_keptAt.2.1 18 = .ok (.goto 4, 3) := by decide +kernel
theorem dd_X8_keptAt_21 : decode X8_keptAt.2.1 21 = .ok (.aconst_null, 1) := by decide +kernel
theorem dd_X8_keptAt_22 : decode X8_keptAt.2.1 22 = .ok (.areturn, 1) := by decide +kernel
theorem dd_X8_plan_0 : decode X8_plan.2.1 0 = .ok (.iload_n 2, 1) := by decide +kernel
theorem dd_X8_plan_1 : decode X8_plan.2.1 1 = .ok (.iconst (-1), 1) := by decide +kernel
theorem dd_X8_plan_2 : decode X8_plan.2.1 2 = .ok (.if_icmp .eq 17, 3) := by decide +kernel
theorem dd_X8_plan_5 : decode X8_plan.2.1 5 = .ok (.aload_n 0, 1) := by decide +kernel
theorem dd_X8_plan_6 : decode X8_plan.2.1 6 = .ok (.getfield 29, 3) := by decide +kernel
theorem dd_X8_plan_9 : decode X8_plan.2.1 9 = .ok (.iload_n 2, 1) := by decide +kernel
theorem dd_X8_plan_10 : decode X8_plan.2.1 10 = .ok (.invokevirtual 143, 3) := by decide +kernel
theorem dd_X8_plan_13 : decode X8_plan.2.1 13 = .ok (.ifCond .ne 6, 3) := by decide +kernel
theorem dd_X8_plan_16 : decode X8_plan.2.1 16 = .ok (.bipush (-2), 2) := by decide +kernel
theorem dd_X8_plan_18 : decode X8_plan.2.1 18 = .ok (.ireturn, 1) := by decide +kernel
theorem dd_X8_plan_19 : decode X8_plan.2.1 19 = .ok (.iload_n 1, 1) := by decide +kernel
theorem dd_X8_plan_20 : decode X8_plan.2.1 20 = .ok (.ifCond .lt 8, 3) := by decide +kernel
theorem dd_X8_plan_23 : decode X8_plan.2.1 23 = .ok (.iload_n 1, 1) := by decide +kernel
theorem dd_X8_plan_24 : decode X8_plan.2.1 24 = .ok (.iconst 1, 1) := by decide +kernel
theorem dd_X8_plan_25 : decode X8_plan.2.1 25 = .ok (.if_icmp .le 6, 3) := by decide +kernel
theorem dd_X8_plan_28 : decode X8_plan.2.1 28 = .ok (.bipush (-3), 2) := by decide +kernel
theorem dd_X8_plan_30 : decode X8_plan.2.1 30 = .ok (.ireturn, 1) := by decide +kernel
theorem dd_X8_plan_31 : decode X8_plan.2.1 31 = .ok (.aload_n 0, 1) := by decide +kernel
theorem dd_X8_plan_32 : decode X8_plan.2.1 32 = .ok (.getfield 49, 3) := by decide +kernel
theorem dd_X8_plan_35 : decode X8_plan.2.1 35 = .ok (.aload_n 0, 1) := by decide +kernel
theorem dd_X8_plan_36 : decode X8_plan.2.1 36 = .ok (.getfield 19, 3) := by decide +kernel
theorem dd_X8_plan_39 : decode X8_plan.2.1 39 = .ok (.aload_n 0, 1) := by decide +kernel
theorem dd_X8_plan_40 : decode X8_plan.2.1 40 = .ok (.getfield 29, 3) := by decide +kernel
theorem dd_X8_plan_43 : decode X8_plan.2.1 43 = .ok (.iload_n 1, 1) := by decide +kernel
theorem dd_X8_plan_44 : decode X8_plan.2.1 44 = .ok (.invokevirtual 187, 3) := by decide +kernel
theorem dd_X8_plan_47 : decode X8_plan.2.1 47 = .ok (.ifCond .ne 5, 3) := by decide +kernel
theorem dd_X8_plan_50 : decode X8_plan.2.1 50 = .ok (.iconst (-1), 1) := by decide +kernel
theorem dd_X8_plan_51 : decode X8_plan.2.1 51 = .ok (.ireturn, 1) := by decide +kernel
theorem dd_X8_plan_52 : decode X8_plan.2.1 52 = .ok (.iload_n 2, 1) := by decide +kernel
theorem dd_X8_plan_53 : decode X8_plan.2.1 53 = .ok (.iconst (-1), 1) := by decide +kernel
theorem dd_X8_plan_54 : decode X8_plan.2.1 54 = .ok (.if_icmp .ne 13, 3) := by decide +kernel
theorem dd_X8_plan_57 : decode X8_plan.2.1 57 = .ok (.aload_n 0, 1) := by decide +kernel
theorem dd_X8_plan_58 : decode X8_plan.2.1 58 = .ok (.getfield 49, 3) := by decide +kernel
theorem dd_X8_plan_61 : decode X8_plan.2.1 61 = .ok (.getfield 191, 3) := by decide +kernel
theorem dd_X8_plan_64 : decode X8_plan.2.1 64 = .ok (.goto 12, 3) := by decide +kernel
theorem dd_X8_plan_67 : decode X8_plan.2.1 67 = .ok (.aload_n 0, 1) := by decide +kernel
theorem dd_X8_plan_68 : decode X8_plan.2.1 68 = .ok (.getfield 49, 3) := by decide +kernel
theorem dd_X8_plan_71 : decode X8_plan.2.1 71 = .ok (.getfield 194, 3) := by decide +kernel
theorem dd_X8_plan_74 : decode X8_plan.2.1 74 = .ok (.iload_n 2, 1) := by decide +kernel
theorem dd_X8_plan_75 : decode X8_plan.2.1 75 = .ok (.iaload, 1) := by decide +kernel
theorem dd_X8_plan_76 : decode X8_plan.2.1 76 = .ok (.ireturn, 1) := by decide +kernel
theorem dd_X8_most_0 : decode X8_most.2.1 0 = .ok (.iload_n 1, 1) := by decide +kernel
theorem dd_X8_most_1 : decode X8_most.2.1 1 = .ok (.ifCond .lt 8, 3) := by decide +kernel
theorem dd_X8_most_4 : decode X8_most.2.1 4 = .ok (.iload_n 1, 1) := by decide +kernel
theorem dd_X8_most_5 : decode X8_most.2.1 5 = .ok (.iconst 1, 1) := by decide +kernel
theorem dd_X8_most_6 : decode X8_most.2.1 6 = .ok (.if_icmp .le 6, 3) := by decide +kernel
theorem dd_X8_most_9 : decode X8_most.2.1 9 = .ok (.bipush (-3), 2) := by decide +kernel
theorem dd_X8_most_11 : decode X8_most.2.1 11 = .ok (.ireturn, 1) := by decide +kernel
theorem dd_X8_most_12 : decode X8_most.2.1 12 = .ok (.aload_n 0, 1) := by decide +kernel
theorem dd_X8_most_13 : decode X8_most.2.1 13 = .ok (.getfield 49, 3) := by decide +kernel
theorem dd_X8_most_16 : decode X8_most.2.1 16 = .ok (.aload_n 0, 1) := by decide +kernel
theorem dd_X8_most_17 : decode X8_most.2.1 17 = .ok (.getfield 19, 3) := by decide +kernel
theorem dd_X8_most_20 : decode X8_most.2.1 20 = .ok (.iload_n 1, 1) := by decide +kernel
theorem dd_X8_most_21 : decode X8_most.2.1 21 = .ok (.invokevirtual 197, 3) := by decide +kernel
theorem dd_X8_most_24 : decode X8_most.2.1 24 = .ok (.ireturn, 1) := by decide +kernel
theorem dd_X8_apart_0 : decode X8_apart.2.1 0 = .ok (.aload_n 0, 1) := by decide +kernel
theorem dd_X8_apart_1 : decode X8_apart.2.1 1 = .ok (.getfield 19, 3) := by decide +kernel
theorem dd_X8_apart_4 : decode X8_apart.2.1 4 = .ok (.iload_n 1, 1) := by decide +kernel
theorem dd_X8_apart_5 : decode X8_apart.2.1 5 = .ok (.invokevirtual 119, 3) := by decide +kernel
theorem dd_X8_apart_8 : decode X8_apart.2.1 8 = .ok (.ifCond .eq 14, 3) := by decide +kernel
theorem dd_X8_apart_11 : decode X8_apart.2.1 11 = .ok (.aload_n 0, 1) := by decide +kernel
theorem dd_X8_apart_12 : decode X8_apart.2.1 12 = .ok (.getfield 19, 3) := by decide +kernel
theorem dd_X8_apart_15 : decode X8_apart.2.1 15 = .ok (.iload_n 2, 1) := by decide +kernel
theorem dd_X8_apart_16 : decode X8_apart.2.1 16 = .ok (.invokevirtual 119, 3) := by decide +kernel
theorem dd_X8_apart_19 : decode X8_apart.2.1 19 = .ok (.ifCond .ne 6, 3) := by decide +kernel
theorem dd_X8_apart_22 : decode X8_apart.2.1 22 = .ok (.bipush (-2), 2) := by decide +kernel
theorem dd_X8_apart_24 : decode X8_apart.2.1 24 = .ok (.ireturn, 1) := by decide +kernel
theorem dd_X8_apart_25 : decode X8_apart.2.1 25 = .ok (.iconst 1, 1) := by decide +kernel
theorem dd_X8_apart_26 : decode X8_apart.2.1 26 = .ok (.istore_n 3, 1) := by decide +kernel
theorem dd_X8_apart_27 : decode X8_apart.2.1 27 = .ok (.iload_n 3, 1) := by decide +kernel
theorem dd_X8_apart_28 : decode X8_apart.2.1 28 = .ok (.aload_n 0, 1) := by decide +kernel
theorem dd_X8_apart_29 : decode X8_apart.2.1 29 = .ok (.getfield 19, 3) := by decide +kernel
theorem dd_X8_apart_32 : decode X8_apart.2.1 32 = .ok (.getfield 201, 3) := by decide +kernel
theorem dd_X8_apart_35 : decode X8_apart.2.1 35 = .ok (.if_icmp .gt 25, 3) := by decide +kernel
theorem dd_X8_apart_38 : decode X8_apart.2.1 38 = .ok (.aload_n 0, 1) := by decide +kernel
theorem dd_X8_apart_39 : decode X8_apart.2.1 39 = .ok (.getfield 19, 3) := by decide +kernel
theorem dd_X8_apart_42 : decode X8_apart.2.1 42 = .ok (.iload_n 1, 1) := by decide +kernel
theorem dd_X8_apart_43 : decode X8_apart.2.1 43 = .ok (.iload_n 2, 1) := by decide +kernel
theorem dd_X8_apart_44 : decode X8_apart.2.1 44 = .ok (.iload_n 3, 1) := by decide +kernel
theorem dd_X8_apart_45 : decode X8_apart.2.1 45 = .ok (.iconst 0, 1) := by decide +kernel
theorem dd_X8_apart_46 : decode X8_apart.2.1 46 = .ok (.invokevirtual 204, 3) := by decide +kernel
theorem dd_X8_apart_49 : decode X8_apart.2.1 49 = .ok (.ifCond .ne 5, 3) := by decide +kernel
theorem dd_X8_apart_52 : decode X8_apart.2.1 52 = .ok (.iload_n 3, 1) := by decide +kernel
theorem dd_X8_apart_53 : decode X8_apart.2.1 53 = .ok (.ireturn, 1) := by decide +kernel
theorem dd_X8_apart_54 : decode X8_apart.2.1 54 = .ok (.iinc 3 1, 3) := by decide +kernel
theorem dd_X8_apart_57 : decode X8_apart.2.1 57 = .ok (.goto (-30), 3) := by decide +kernel
theorem dd_X8_apart_60 : decode X8_apart.2.1 60 = .ok (.iconst (-1), 1) := by decide +kernel
theorem dd_X8_apart_61 : decode X8_apart.2.1 61 = .ok (.ireturn, 1) := by decide +kernel
theorem dd_X8_machine_0 : decode X8_machine.2.1 0 = .ok (.iload_n 1, 1) := by decide +kernel
theorem dd_X8_machine_1 : decode X8_machine.2.1 1 = .ok (.invokestatic 169, 3) := by decide +kernel
theorem dd_X8_machine_4 : decode X8_machine.2.1 4 = .ok (.ifCond .eq 12, 3) := by decide +kernel
theorem dd_X8_machine_7 : decode X8_machine.2.1 7 = .ok (.iload_n 2, 1) := by decide +kernel
theorem dd_X8_machine_8 : decode X8_machine.2.1 8 = .ok (.ifCond .lt 8, 3) := by decide +kernel
theorem dd_X8_machine_11 : decode X8_machine.2.1 11 = .ok (.iload_n 2, 1) := by decide +kernel
theorem dd_X8_machine_12 : decode X8_machine.2.1 12 = .ok (.iconst 1, 1) := by decide +kernel
theorem dd_X8_machine_13 : decode X8_machine.2.1 13 = .ok (.if_icmp .le 6, 3) := by decide +kernel
theorem dd_X8_machine_16 : decode X8_machine.2.1 16 = .ok (.bipush (-3), 2) := by decide +kernel
theorem dd_X8_machine_18 : decode X8_machine.2.1 18 = .ok (.ireturn, 1) := by decide +kernel
theorem dd_X8_machine_19 : decode X8_machine.2.1 19 = .ok (.aload_n 0, 1) := by decide +kernel
theorem dd_X8_machine_20 : decode X8_machine.2.1 20 = .ok (.getfield 56, 3) := by decide +kernel
theorem dd_X8_machine_23 : decode X8_machine.2.1 23 = .ok (.aload_n 0, 1) := by decide +kernel
theorem dd_X8_machine_24 : decode X8_machine.2.1 24 = .ok (.getfield 19, 3) := by decide +kernel
theorem dd_X8_machine_27 : decode X8_machine.2.1 27 = .ok (.aload_n 0, 1) := by decide +kernel
theorem dd_X8_machine_28 : decode X8_machine.2.1 28 = .ok (.getfield 29, 3) := by decide +kernel
theorem dd_X8_machine_31 : decode X8_machine.2.1 31 = .ok (.iload_n 1, 1) := by decide +kernel
theorem dd_X8_machine_32 : decode X8_machine.2.1 32 = .ok (.invokevirtual 208, 3) := by decide +kernel
theorem dd_X8_machine_35 : decode X8_machine.2.1 35 = .ok (.iload_n 2, 1) := by decide +kernel
theorem dd_X8_machine_36 : decode X8_machine.2.1 36 = .ok (.ifCond .ne 13, 3) := by decide +kernel
theorem dd_X8_machine_39 : decode X8_machine.2.1 39 = .ok (.aload_n 0, 1) := by decide +kernel
theorem dd_X8_machine_40 : decode X8_machine.2.1 40 = .ok (.getfield 56, 3) := by decide +kernel
theorem dd_X8_machine_43 : decode X8_machine.2.1 43 = .ok (.invokevirtual 212, 3) := by decide +kernel
theorem dd_X8_machine_46 : decode X8_machine.2.1 46 = .ok (.goto 10, 3) := by decide +kernel
theorem dd_X8_machine_49 : decode X8_machine.2.1 49 = .ok (.aload_n 0, 1) := by decide +kernel
theorem dd_X8_machine_50 : decode X8_machine.2.1 50 = .ok (.getfield 56, 3) := by decide +kernel
theorem dd_X8_machine_53 : decode X8_machine.2.1 53 = .ok (.invokevirtual 215, 3) := by decide +kernel
theorem dd_X8_machine_56 : decode X8_machine.2.1 56 = .ok (.ireturn, 1) := by decide +kernel
theorem dd_X8_watch_0 : decode X8_watch.2.1 0 = .ok (.iload_n 1, 1) := by decide +kernel
theorem dd_X8_watch_1 : decode X8_watch.2.1 1 = .ok (.invokestatic 169, 3) := by decide +kernel
theorem dd_X8_watch_4 : decode X8_watch.2.1 4 = .ok (.ifCond .eq 12, 3) := by decide +kernel
theorem dd_X8_watch_7 : decode X8_watch.2.1 7 = .ok (.iload_n 2, 1) := by decide +kernel
theorem dd_X8_watch_8 : decode X8_watch.2.1 8 = .ok (.ifCond .lt 8, 3) := by decide +kernel
theorem dd_X8_watch_11 : decode X8_watch.2.1 11 = .ok (.iload_n 2, 1) := by decide +kernel
theorem dd_X8_watch_12 : decode X8_watch.2.1 12 = .ok (.iconst 1, 1) := by decide +kernel
theorem dd_X8_watch_13 : decode X8_watch.2.1 13 = .ok (.if_icmp .le 6, 3) := by decide +kernel
theorem dd_X8_watch_16 : decode X8_watch.2.1 16 = .ok (.bipush (-3), 2) := by decide +kernel
theorem dd_X8_watch_18 : decode X8_watch.2.1 18 = .ok (.ireturn, 1) := by decide +kernel
theorem dd_X8_watch_19 : decode X8_watch.2.1 19 = .ok (.aload_n 0, 1) := by decide +kernel
theorem dd_X8_watch_20 : decode X8_watch.2.1 20 = .ok (.getfield 63, 3) := by decide +kernel
theorem dd_X8_watch_23 : decode X8_watch.2.1 23 = .ok (.aload_n 0, 1) := by decide +kernel
theorem dd_X8_watch_24 : decode X8_watch.2.1 24 = .ok (.getfield 29, 3) := by decide +kernel
theorem dd_X8_watch_27 : decode X8_watch.2.1 27 = .ok (.iload_n 1, 1) := by decide +kernel
theorem dd_X8_watch_28 : decode X8_watch.2.1 28 = .ok (.aload_n 0, 1) := by decide +kernel
theorem dd_X8_watch_29 : decode X8_watch.2.1 29 = .ok (.getfield 19, 3) := by decide +kernel
theorem dd_X8_watch_32 : decode X8_watch.2.1 32 = .ok (.invokevirtual 218, 3) := by decide +kernel
theorem dd_X8_watch_35 : decode X8_watch.2.1 35 = .ok (.iload_n 2, 1) := by decide +kernel
theorem dd_X8_watch_36 : decode X8_watch.2.1 36 = .ok (.iconst 1, 1) := by decide +kernel
theorem dd_X8_watch_37 : decode X8_watch.2.1 37 = .ok (.if_icmp .ne 7, 3) := by decide +kernel
theorem dd_X8_watch_40 : decode X8_watch.2.1 40 = .ok (.iconst 1, 1) := by decide +kernel
theorem dd_X8_watch_41 : decode X8_watch.2.1 41 = .ok (.goto 4, 3) := by decide +kernel
theorem dd_X8_watch_44 : decode X8_watch.2.1 44 = .ok (.iconst 0, 1) := by decide +kernel
theorem dd_X8_watch_45 : decode X8_watch.2.1 45 = .ok (.invokevirtual 222, 3) := by decide +kernel
theorem dd_X8_watch_48 : decode X8_watch.2.1 48 = .ok (.aload_n 0, 1) := by decide +kernel
theorem dd_X8_watch_49 : decode X8_watch.2.1 49 = .ok (.getfield 63, 3) := by decide +kernel
theorem dd_X8_watch_52 : decode X8_watch.2.1 52 = .ok (.invokevirtual 226, 3) := by decide +kernel
theorem dd_X8_watch_55 : decode X8_watch.2.1 55 = .ok (.ireturn, 1) := by decide +kernel
theorem dd_X8_see_0 : decode X8_see.2.1 0 = .ok (.iload_n 1, 1) := by decide +kernel
theorem dd_X8_see_1 : decode X8_see.2.1 1 = .ok (.ifCond .lt 8, 3) := by decide +kernel
theorem dd_X8_see_4 : decode X8_see.2.1 4 = .ok (.iload_n 1, 1) := by decide +kernel
theorem dd_X8_see_5 : decode X8_see.2.1 5 = .ok (.iconst 1, 1) := by decide +kernel
theorem dd_X8_see_6 : decode X8_see.2.1 6 = .ok (.if_icmp .le 6, 3) := by decide +kernel
theorem dd_X8_see_9 : decode X8_see.2.1 9 = .ok (.bipush (-3), 2) := by decide +kernel
theorem dd_X8_see_11 : decode X8_see.2.1 11 = .ok (.ireturn, 1) := by decide +kernel
theorem dd_X8_see_12 : decode X8_see.2.1 12 = .ok (.aload_n 0, 1) := by decide +kernel
theorem dd_X8_see_13 : decode X8_see.2.1 13 = .ok (.getfield 63, 3) := by decide +kernel
theorem dd_X8_see_16 : decode X8_see.2.1 16 = .ok (.getfield 228, 3) := by decide +kernel
theorem dd_X8_see_19 : decode X8_see.2.1 19 = .ok (.ifCond .ne 6, 3) := by decide +kernel
theorem dd_X8_see_22 : decode X8_see.2.1 22 = .ok (.bipush (-4), 2) := by decide +kernel
theorem dd_X8_see_24 : decode X8_see.2.1 24 = .ok (.ireturn, 1) := by decide +kernel
theorem dd_X8_see_25 : decode X8_see.2.1 25 = .ok (.aload_n 0, 1) := by decide +kernel
theorem dd_X8_see_26 : decode X8_see.2.1 26 = .ok (.getfield 63, 3) := by decide +kernel
theorem dd_X8_see_29 : decode X8_see.2.1 29 = .ok (.iload_n 1, 1) := by decide +kernel
theorem dd_X8_see_30 : decode X8_see.2.1 30 = .ok (.aload_n 0, 1) := by decide +kernel
theorem dd_X8_see_31 : decode X8_see.2.1 31 = .ok (.getfield 29, 3) := by decide +kernel
theorem dd_X8_see_34 : decode X8_see.2.1 34 = .ok (.aload_n 0, 1) := by decide +kernel
theorem dd_X8_see_35 : decode X8_see.2.1 35 = .ok (.getfield 19, 3) := by decide +kernel
theorem dd_X8_see_38 : decode X8_see.2.1 38 = .ok (.invokevirtual 231, 3) := by decide +kernel
theorem dd_X8_see_41 : decode X8_see.2.1 41 = .ok (.aload_n 0, 1) := by decide +kernel
theorem dd_X8_see_42 : decode X8_see.2.1 42 = .ok (.getfield 19, 3) := by decide +kernel
theorem dd_X8_see_45 : decode X8_see.2.1 45 = .ok (.getfield 201, 3) := by decide +kernel
theorem dd_X8_see_48 : decode X8_see.2.1 48 = .ok (.invokevirtual 235, 3) := by decide +kernel
theorem dd_X8_see_51 : decode X8_see.2.1 51 = .ok (.aload_n 0, 1) := by decide +kernel
theorem dd_X8_see_52 : decode X8_see.2.1 52 = .ok (.getfield 63, 3) := by decide +kernel
theorem dd_X8_see_55 : decode X8_see.2.1 55 = .ok (.invokevirtual 226, 3) := by decide +kernel
theorem dd_X8_see_58 : decode X8_see.2.1 58 = .ok (.ireturn, 1) := by decide +kernel
theorem dd_X8_left_0 : decode X8_left.2.1 0 = .ok (.iload_n 1, 1) := by decide +kernel
theorem dd_X8_left_1 : decode X8_left.2.1 1 = .ok (.ifCond .lt 12, 3) := by decide +kernel
theorem dd_X8_left_4 : decode X8_left.2.1 4 = .ok (.iload_n 1, 1) := by decide +kernel
theorem dd_X8_left_5 : decode X8_left.2.1 5 = .ok (.iconst 1, 1) := by decide +kernel
theorem dd_X8_left_6 : decode X8_left.2.1 6 = .ok (.if_icmp .gt 7, 3) := by decide +kernel
theorem dd_X8_left_9 : decode X8_left.2.1 9 = .ok (.iload_n 2, 1) := by decide +kernel
theorem dd_X8_left_10 : decode X8_left.2.1 10 = .ok (.ifCond .ge 6, 3) := by decide +kernel
theorem dd_X8_left_13 : decode X8_left.2.1 13 = .ok (.bipush (-3), 2) := by decide +kernel
theorem dd_X8_left_15 : decode X8_left.2.1 15 = .ok (.ireturn, 1) := by decide +kernel
theorem dd_X8_left_16 : decode X8_left.2.1 16 = .ok (.aload_n 0, 1) := by decide +kernel
theorem dd_X8_left_17 : decode X8_left.2.1 17 = .ok (.getfield 63, 3) := by decide +kernel
theorem dd_X8_left_20 : decode X8_left.2.1 20 = .ok (.getfield 228, 3) := by decide +kernel
theorem dd_X8_left_23 : decode X8_left.2.1 23 = .ok (.ifCond .ne 6, 3) := by decide +kernel
theorem dd_X8_left_26 : decode X8_left.2.1 26 = .ok (.bipush (-4), 2) := by decide +kernel
theorem dd_X8_left_28 : decode X8_left.2.1 28 = .ok (.ireturn, 1) := by decide +kernel
theorem dd_X8_left_29 : decode X8_left.2.1 29 = .ok (.iload_n 1, 1) := by decide +kernel
theorem dd_X8_left_30 : decode X8_left.2.1 30 = .ok (.ifCond .ne 13, 3) := by decide +kernel
theorem dd_X8_left_33 : decode X8_left.2.1 33 = .ok (.aload_n 0, 1) := by decide +kernel
theorem dd_X8_left_34 : decode X8_left.2.1 34 = .ok (.getfield 63, 3) := by decide +kernel
theorem dd_X8_left_37 : decode X8_left.2.1 37 = .ok (.invokevirtual 239, 3) := by decide +kernel
theorem dd_X8_left_40 : decode X8_left.2.1 40 = .ok (.goto 18, 3) := by decide +kernel
theorem dd_X8_left_43 : decode X8_left.2.1 43 = .ok (.aload_n 0, 1) := by decide +kernel
theorem dd_X8_left_44 : decode X8_left.2.1 44 = .ok (.getfield 63, 3) := by decide +kernel
theorem dd_X8_left_47 : decode X8_left.2.1 47 = .ok (.iload_n 2, 1) := by decide +kernel
theorem dd_X8_left_48 : decode X8_left.2.1 48 = .ok (.aload_n 0, 1) := by decide +kernel
theorem dd_X8_left_49 : decode X8_left.2.1 49 = .ok (.getfield 19, 3) := by decide +kernel
theorem dd_X8_left_52 : decode X8_left.2.1 52 = .ok (.getfield 201, 3) := by decide +kernel
theorem dd_X8_left_55 : decode X8_left.2.1 55 = .ok (.invokevirtual 241, 3) := by decide +kernel
theorem dd_X8_left_58 : decode X8_left.2.1 58 = .ok (.ireturn, 1) := by decide +kernel
theorem dd_X8_tape_0 : decode X8_tape.2.1 0 = .ok (.aload_n 0, 1) := by decide +kernel
theorem dd_X8_tape_1 : decode X8_tape.2.1 1 = .ok (.iload_n 1, 1) := by decide +kernel
theorem dd_X8_tape_2 : decode X8_tape.2.1 2 = .ok (.invokevirtual 112, 3) := by decide +kernel
theorem dd_X8_tape_5 : decode X8_tape.2.1 5 = .ok (.astore_n 2, 1) := by decide +kernel
theorem dd_X8_tape_6 : decode X8_tape.2.1 6 = .ok (.aload_n 2, 1) := by decide +kernel
theorem dd_X8_tape_7 : decode X8_tape.2.1 7 = .ok (.ifnonnull 6, 3) := by decide +kernel
theorem dd_X8_tape_10 : decode X8_tape.2.1 10 = .ok (.bipush (-2), 2) := by decide +kernel
theorem dd_X8_tape_12 : decode X8_tape.2.1 12 = .ok (.ireturn, 1) := by decide +kernel
theorem dd_X8_tape_13 : decode X8_tape.2.1 13 = .ok (.aload_n 2, 1) := by decide +kernel
theorem dd_X8_tape_14 : decode X8_tape.2.1 14 = .ok (.invokevirtual 244, 3) := by decide +kernel
theorem dd_X8_tape_17 : decode X8_tape.2.1 17 = .ok (.iconst 0, 1) := by decide +kernel
theorem dd_X8_tape_18 : decode X8_tape.2.1 18 = .ok (.ireturn, 1) := by decide +kernel
theorem dd_X8_put_0 : decode X8_put.2.1 0 = .ok (.aload_n 0, 1) := by decide +kernel
theorem dd_X8_put_1 : decode X8_put.2.1 1 = .ok (.iload_n 1, 1) := by decide +kernel
theorem dd_X8_put_2 : decode X8_put.2.1 2 = .ok (.invokevirtual 112, 3) := by decide +kernel
theorem dd_X8_put_5 : decode X8_put.2.1 5 = .ok (.astore 4, 2) := by decide +kernel
theorem dd_X8_put_7 : decode X8_put.2.1 7 = .ok (.aload 4, 2) := by decide +kernel
theorem dd_X8_put_9 : decode X8_put.2.1 9 = .ok (.ifnonnull 6, 3) := by decide +kernel
theorem dd_X8_put_12 : decode X8_put.2.1 12 = .ok (.bipush (-2), 2) := by decide +kernel
theorem dd_X8_put_14 : decode X8_put.2.1 14 = .ok (.ireturn, 1) := by decide +kernel
theorem dd_X8_put_15 : decode X8_put.2.1 15 = .ok (.iload_n 2, 1) := by decide +kernel
theorem dd_X8_put_16 : decode X8_put.2.1 16 = .ok (.invokestatic 246, 3) := by decide +kernel
theorem dd_X8_put_19 : decode X8_put.2.1 19 = .ok (.ifCond .eq 10, 3) := by decide +kernel
theorem dd_X8_put_22 : decode X8_put.2.1 22 = .ok (.iload_n 3, 1) := by decide +kernel
theorem dd_X8_put_23 : decode X8_put.2.1 23 = .ok (.invokestatic 249, 3) := by decide +kernel
theorem dd_X8_put_26 : decode X8_put.2.1 26 = .ok (.ifCond .ne 6, 3) := by decide +kernel
theorem dd_X8_put_29 : decode X8_put.2.1 29 = .ok (.bipush (-3), 2) := by decide +kernel
theorem dd_X8_put_31 : decode X8_put.2.1 31 = .ok (.ireturn, 1) := by decide +kernel
theorem dd_X8_put_32 : decode X8_put.2.1 32 = .ok (.aload 4, 2) := by decide +kernel
theorem dd_X8_put_34 : decode X8_put.2.1 34 = .ok (.getfield 252, 3) := by decide +kernel
theorem dd_X8_put_37 : decode X8_put.2.1 37 = .ok (.ifCond .ne 6, 3) := by decide +kernel
theorem dd_X8_put_40 : decode X8_put.2.1 40 = .ok (.bipush (-11), 2) := by decide +kernel
theorem dd_X8_put_42 : decode X8_put.2.1 42 = .ok (.ireturn, 1) := by decide +kernel
theorem dd_X8_put_43 : decode X8_put.2.1 43 = .ok (.aload 4, 2) := by decide +kernel
theorem dd_X8_put_45 : decode X8_put.2.1 45 = .ok (.getfield 255, 3) := by decide +kernel
theorem dd_X8_put_48 : decode X8_put.2.1 48 = .ok (.bipush 12, 2) := by decide +kernel
theorem dd_X8_put_50 : decode X8_put.2.1 50 = .ok (.if_icmp .lt 6, 3) := by decide +kernel
theorem dd_X8_put_53 : decode X8_put.2.1 53 = .ok (.bipush (-13), 2) := by decide +kernel
theorem dd_X8_put_55 : decode X8_put.2.1 55 = .ok (.ireturn, 1) := by decide +kernel
theorem dd_X8_put_56 : decode X8_put.2.1 56 = .ok (.iload_n 2, 1) := by decide +kernel
theorem dd_X8_put_57 : decode X8_put.2.1 57 = .ok (.ifCond .ne 12, 3) := by decide +kernel
theorem dd_X8_put_60 : decode X8_put.2.1 60 = .ok (.aload 4, 2) := by decide +kernel
theorem dd_X8_put_62 : decode X8_put.2.1 62 = .ok (.iload_n 3, 1) := by decide +kernel
theorem dd_X8_put_63 : decode X8_put.2.1 63 = .ok (.invokevirtual 256, 3) := by decide +kernel
theorem dd_X8_put_66 : decode X8_put.2.1 66 = .ok (.goto 9, 3) := by decide +kernel
theorem dd_X8_put_69 : decode X8_put.2.1 69 = .ok (.aload 4, 2) := by decide +kernel
theorem dd_X8_put_71 : decode X8_put.2.1 71 = .ok (.iload_n 3, 1) := by decide +kernel
theorem dd_X8_put_72 : decode X8_put.2.1 72 = .ok (.invokevirtual 259, 3) := by decide +kernel
theorem dd_X8_put_75 : decode X8_put.2.1 75 = .ok (.aload 4, 2) := by decide +kernel
theorem dd_X8_put_77 : decode X8_put.2.1 77 = .ok (.getfield 255, 3) := by decide +kernel
theorem dd_X8_put_80 : decode X8_put.2.1 80 = .ok (.ireturn, 1) := by decide +kernel
theorem dd_X8_draw_0 : decode X8_draw.2.1 0 = .ok (.aload_n 0, 1) := by decide +kernel
theorem dd_X8_draw_1 : decode X8_draw.2.1 1 = .ok (.iload_n 1, 1) := by decide +kernel
theorem dd_X8_draw_2 : decode X8_draw.2.1 2 = .ok (.invokevirtual 112, 3) := by decide +kernel
theorem dd_X8_draw_5 : decode X8_draw.2.1 5 = .ok (.astore_n 3, 1) := by decide +kernel
theorem dd_X8_draw_6 : decode X8_draw.2.1 6 = .ok (.aload_n 3, 1) := by decide +kernel
theorem dd_X8_draw_7 : decode X8_draw.2.1 7 = .ok (.ifnonnull 6, 3) := by decide +kernel
theorem dd_X8_draw_10 : decode X8_draw.2.1 10 = .ok (.bipush (-2), 2) := by decide +kernel
theorem dd_X8_draw_12 : decode X8_draw.2.1 12 = .ok (.ireturn, 1) := by decide +kernel
theorem dd_X8_draw_13 : decode X8_draw.2.1 13 = .ok (.iload_n 2, 1) := by decide +kernel
theorem dd_X8_draw_14 : decode X8_draw.2.1 14 = .ok (.invokestatic 246, 3) := by decide +kernel
theorem dd_X8_draw_17 : decode X8_draw.2.1 17 = .ok (.ifCond .ne 6, 3) := by decide +kernel
theorem dd_X8_draw_20 : decode X8_draw.2.1 20 = .ok (.bipush (-3), 2) := by decide +kernel
theorem dd_X8_draw_22 : decode X8_draw.2.1 22 = .ok (.ireturn, 1) := by decide +kernel
theorem dd_X8_draw_23 : decode X8_draw.2.1 23 = .ok (.aload_n 3, 1) := by decide +kernel
theorem dd_X8_draw_24 : decode X8_draw.2.1 24 = .ok (.getfield 252, 3) := by decide +kernel
theorem dd_X8_draw_27 : decode X8_draw.2.1 27 = .ok (.ifCond .ne 6, 3) := by decide +kernel
theorem dd_X8_draw_30 : decode X8_draw.2.1 30 = .ok (.bipush (-11), 2) := by decide +kernel
theorem dd_X8_draw_32 : decode X8_draw.2.1 32 = .ok (.ireturn, 1) := by decide +kernel
theorem dd_X8_draw_33 : decode X8_draw.2.1 33 = .ok (.aload_n 3, 1) := by decide +kernel
theorem dd_X8_draw_34 : decode X8_draw.2.1 34 = .ok (.getfield 255, 3) := by decide +kernel
theorem dd_X8_draw_37 : decode X8_draw.2.1 37 = .ok (.ifCond .ne 6, 3) := by decide +kernel
theorem dd_X8_draw_40 : decode X8_draw.2.1 40 = .ok (.bipush (-12), 2) := by decide +kernel
theorem dd_X8_draw_42 : decode X8_draw.2.1 42 = .ok (.ireturn, 1) := by decide +kernel
theorem dd_X8_draw_43 : decode X8_draw.2.1 43 = .ok (.iload_n 2, 1) := by decide +kernel
theorem dd_X8_draw_44 : decode X8_draw.2.1 44 = .ok (.ifCond .ne 10, 3) := by decide +kernel
theorem dd_X8_draw_47 : decode X8_draw.2.1 47 = .ok (.aload_n 3, 1) := by decide +kernel
theorem dd_X8_draw_48 : decode X8_draw.2.1 48 = .ok (.invokevirtual 262, 3) := by decide +kernel
theorem dd_X8_draw_51 : decode X8_draw.2.1 51 = .ok (.goto 7, 3) := by decide +kernel
theorem dd_X8_draw_54 : decode X8_draw.2.1 54 = .ok (.aload_n 3, 1) := by decide +kernel
theorem dd_X8_draw_55 : decode X8_draw.2.1 55 = .ok (.invokevirtual 265, 3) := by decide +kernel
theorem dd_X8_draw_58 : decode X8_draw.2.1 58 = .ok (.istore 4, 2) := by decide +kernel
theorem dd_X8_draw_60 : decode X8_draw.2.1 60 = .ok (.iload 4, 2) := by decide +kernel
theorem dd_X8_draw_62 : decode X8_draw.2.1 62 = .ok (.ldc_w 268, 3) := by decide +kernel
theorem dd_X8_draw_65 : decode X8_draw.2.1 65 = .ok (.iadd, 1) := by decide +kernel
theorem dd_X8_draw_66 : decode X8_draw.2.1 66 = .ok (.ireturn, 1) := by decide +kernel
theorem dd_X8_turn_0 : decode X8_turn.2.1 0 = .ok (.aload_n 0, 1) := by decide +kernel
theorem dd_X8_turn_1 : decode X8_turn.2.1 1 = .ok (.iload_n 1, 1) := by decide +kernel
theorem dd_X8_turn_2 : decode X8_turn.2.1 2 = .ok (.invokevirtual 112, 3) := by decide +kernel
theorem dd_X8_turn_5 : decode X8_turn.2.1 5 = .ok (.astore_n 3, 1) := by decide +kernel
theorem dd_X8_turn_6 : decode X8_turn.2.1 6 = .ok (.aload_n 3, 1) := by decide +kernel
theorem dd_X8_turn_7 : decode X8_turn.2.1 7 = .ok (.ifnonnull 6, 3) := by decide +kernel
theorem dd_X8_turn_10 : decode X8_turn.2.1 10 = .ok (.bipush (-2), 2) := by decide +kernel
theorem dd_X8_turn_12 : decode X8_turn.2.1 12 = .ok (.ireturn, 1) := by decide +kernel
theorem dd_X8_turn_13 : decode X8_turn.2.1 13 = .ok (.iload_n 2, 1) := by decide +kernel
theorem dd_X8_turn_14 : decode X8_turn.2.1 14 = .ok (.ifCond .lt 9, 3) := by decide +kernel
theorem dd_X8_turn_17 : decode X8_turn.2.1 17 = .ok (.iload_n 2, 1) := by decide +kernel
theorem dd_X8_turn_18 : decode X8_turn.2.1 18 = .ok (.bipush 99, 2) := by decide +kernel
theorem dd_X8_turn_20 : decode X8_turn.2.1 20 = .ok (.if_icmp .le 6, 3) := by decide +kernel
theorem dd_X8_turn_23 : decode X8_turn.2.1 23 = .ok (.bipush (-3), 2) := by decide +kernel
theorem dd_X8_turn_25 : decode X8_turn.2.1 25 = .ok (.ireturn, 1) := by decide +kernel
theorem dd_X8_turn_26 : decode X8_turn.2.1 26 = .ok (.aload_n 3, 1) := by decide +kernel
theorem dd_X8_turn_27 : decode X8_turn.2.1 27 = .ok (.getfield 252, 3) := by decide +kernel
theorem dd_X8_turn_30 : decode X8_turn.2.1 30 = .ok (.ifCond .ne 6, 3) := by decide +kernel
theorem dd_X8_turn_33 : decode X8_turn.2.1 33 = .ok (.bipush (-11), 2) := by decide +kernel
theorem dd_X8_turn_35 : decode X8_turn.2.1 35 = .ok (.ireturn, 1) := by decide +kernel
theorem dd_X8_turn_36 : decode X8_turn.2.1 36 = .ok (.aload_n 3, 1) := by decide +kernel
theorem dd_X8_turn_37 : decode X8_turn.2.1 37 = .ok (.getfield 255, 3) := by decide +kernel
theorem dd_X8_turn_40 : decode X8_turn.2.1 40 = .ok (.ifCond .ne 6, 3) := by decide +kernel
theorem dd_X8_turn_43 : decode X8_turn.2.1 43 = .ok (.bipush (-12), 2) := by decide +kernel
theorem dd_X8_turn_45 : decode X8_turn.2.1 45 = .ok (.ireturn, 1) := by decide +kernel
theorem dd_X8_turn_46 : decode X8_turn.2.1 46 = .ok (.iconst 0, 1) := by decide +kernel
theorem dd_X8_turn_47 : decode X8_turn.2.1 47 = .ok (.istore 4, 2) := by decide +kernel
theorem dd_X8_turn_49 : decode X8_turn.2.1 49 = .ok (.iload 4, 2) := by decide +kernel
theorem dd_X8_turn_51 : decode X8_turn.2.1 51 = .ok (.iload_n 2, 1) := by decide +kernel
theorem dd_X8_turn_52 : decode X8_turn.2.1 52 = .ok (.if_icmp .ge 17, 3) := by decide +kernel
theorem dd_X8_turn_55 : decode X8_turn.2.1 55 = .ok (.aload_n 3, 1) := by decide +kernel
theorem dd_X8_turn_56 : decode X8_turn.2.1 56 = .ok (.aload_n 3, 1) := by decide +kernel
theorem dd_X8_turn_57 : decode X8_turn.2.1 57 = .ok (.invokevirtual 262, 3) := by decide +kernel
theorem dd_X8_turn_60 : decode X8_turn.2.1 60 = .ok (.invokevirtual 259, 3) := by decide +kernel
theorem dd_X8_turn_63 : decode X8_turn.2.1 63 = .ok (.iinc 4 1, 3) := by decide +kernel
theorem dd_X8_turn_66 : decode X8_turn.2.1 66 = .ok (.goto (-17), 3) := by decide +kernel
theorem dd_X8_turn_69 : decode X8_turn.2.1 69 = .ok (.aload_n 3, 1) := by decide +kernel
theorem dd_X8_turn_70 : decode X8_turn.2.1 70 = .ok (.getfield 255, 3) := by decide +kernel
theorem dd_X8_turn_73 : decode X8_turn.2.1 73 = .ok (.ireturn, 1) := by decide +kernel
theorem dd_X8_find_0 : decode X8_find.2.1 0 = .ok (.aload_n 0, 1) := by decide +kernel
theorem dd_X8_find_1 : decode X8_find.2.1 1 = .ok (.iload_n 1, 1) := by decide +kernel
theorem dd_X8_find_2 : decode X8_find.2.1 2 = .ok (.invokevirtual 112, 3) := by decide +kernel
theorem dd_X8_find_5 : decode X8_find.2.1 5 = .ok (.astore 4, 2) := by decide +kernel
theorem dd_X8_find_7 : decode X8_find.2.1 7 = .ok (.aload 4, 2) := by decide +kernel
theorem dd_X8_find_9 : decode X8_find.2.1 9 = .ok (.ifnonnull 6, 3) := by decide +kernel
theorem dd_X8_find_12 : decode X8_find.2.1 12 = .ok (.bipush (-2), 2) := by decide +kernel
theorem dd_X8_find_14 : decode X8_find.2.1 14 = .ok (.ireturn, 1) := by decide +kernel
theorem dd_X8_find_15 : decode X8_find.2.1 15 = .ok (.iload_n 2, 1) := by decide +kernel
theorem dd_X8_find_16 : decode X8_find.2.1 16 = .ok (.ifCond .lt 15, 3) := by decide +kernel
theorem dd_X8_find_19 : decode X8_find.2.1 19 = .ok (.iload_n 2, 1) := by decide +kernel
theorem dd_X8_find_20 : decode X8_find.2.1 20 = .ok (.iconst 2, 1) := by decide +kernel
theorem dd_X8_find_21 : decode X8_find.2.1 21 = .ok (.if_icmp .gt 10, 3) := by decide +kernel
theorem dd_X8_find_24 : decode X8_find.2.1 24 = .ok (.iload_n 3, 1) := by decide +kernel
theorem dd_X8_find_25 : decode X8_find.2.1 25 = .ok (.invokestatic 249, 3) := by decide +kernel
theorem dd_X8_find_28 : decode X8_find.2.1 28 = .ok (.ifCond .ne 6, 3) := by decide +kernel
theorem dd_X8_find_31 : decode X8_find.2.1 31 = .ok (.bipush (-3), 2) := by decide +kernel
theorem dd_X8_find_33 : decode X8_find.2.1 33 = .ok (.ireturn, 1) := by decide +kernel
theorem dd_X8_find_34 : decode X8_find.2.1 34 = .ok (.aload 4, 2) := by decide +kernel
theorem dd_X8_find_36 : decode X8_find.2.1 36 = .ok (.getfield 252, 3) := by decide +kernel
theorem dd_X8_find_39 : decode X8_find.2.1 39 = .ok (.ifCond .ne 6, 3) := by decide +kernel
theorem dd_X8_find_42 : decode X8_find.2.1 42 = .ok (.bipush (-11), 2) := by decide +kernel
theorem dd_X8_find_44 : decode X8_find.2.1 44 = .ok (.ireturn, 1) := by decide +kernel
theorem dd_X8_find_45 : decode X8_find.2.1 45 = .ok (.iload_n 2, 1) := by decide +kernel
theorem dd_X8_find_46 : decode X8_find.2.1 46 = .ok (.iconst 2, 1) := by decide +kernel
theorem dd_X8_find_47 : decode X8_find.2.1 47 = .ok (.if_icmp .ne 10, 3) := by decide +kernel
theorem dd_X8_find_50 : decode X8_find.2.1 50 = .ok (.aload 4, 2) := by decide +kernel
theorem dd_X8_find_52 : decode X8_find.2.1 52 = .ok (.iload_n 3, 1) := by decide +kernel
theorem dd_X8_find_53 : decode X8_find.2.1 53 = .ok (.invokevirtual 269, 3) := by decide +kernel
theorem dd_X8_find_56 : decode X8_find.2.1 56 = .ok (.ireturn, 1) := by decide +kernel
theorem dd_X8_find_57 : decode X8_find.2.1 57 = .ok (.aload 4, 2) := by decide +kernel
theorem dd_X8_find_59 : decode X8_find.2.1 59 = .ok (.getfield 255, 3) := by decide +kernel
theorem dd_X8_find_62 : decode X8_find.2.1 62 = .ok (.ifCond .ne 6, 3) := by decide +kernel
theorem dd_X8_find_65 : decode X8_find.2.1 65 = .ok (.bipush (-12), 2) := by decide +kernel
theorem dd_X8_find_67 : decode X8_find.2.1 67 = .ok (.ireturn, 1) := by decide +kernel
theorem dd_X8_find_68 : decode X8_find.2.1 68 = .ok (.iload_n 2, 1) := by decide +kernel
theorem dd_X8_find_69 : decode X8_find.2.1 69 = .ok (.ifCond .ne 11, 3) := by decide +kernel
theorem dd_X8_find_72 : decode X8_find.2.1 72 = .ok (.aload 4, 2) := by decide +kernel
theorem dd_X8_find_74 : decode X8_find.2.1 74 = .ok (.invokevirtual 272, 3) := by decide +kernel
theorem dd_X8_find_77 : decode X8_find.2.1 77 = .ok (.goto 8, 3) := by decide +kernel
theorem dd_X8_find_80 : decode X8_find.2.1 80 = .ok (.aload 4, 2) := by decide +kernel
theorem dd_X8_find_82 : decode X8_find.2.1 82 = .ok (.invokevirtual 275, 3) := by decide +kernel
theorem dd_X8_find_85 : decode X8_find.2.1 85 = .ok (.istore 5, 2) := by decide +kernel
theorem dd_X8_find_87 : decode X8_find.2.1 87 = .ok (.iload 5, 2) := by decide +kernel
theorem dd_X8_find_89 : decode X8_find.2.1 89 = .ok (.ldc_w 268, 3) := by decide +kernel
theorem dd_X8_find_92 : decode X8_find.2.1 92 = .ok (.iadd, 1) := by decide +kernel
theorem dd_X8_find_93 : decode X8_find.2.1 93 = .ok (.ireturn, 1) := by decide +kernel
theorem dd_X8_strike_0 : decode X8_strike.2.1 0 = .ok (.aload_n 0, 1) := by decide +kernel
theorem dd_X8_strike_1 : decode X8_strike.2.1 1 = .ok (.iload_n 1, 1) := by decide +kernel
theorem dd_X8_strike_2 : decode X8_strike.2.1 2 = .ok (.invokevirtual 112, 3) := by decide +kernel
theorem dd_X8_strike_5 : decode X8_strike.2.1 5 = .ok (.astore_n 3, 1) := by decide +kernel
theorem dd_X8_strike_6 : decode X8_strike.2.1 6 = .ok (.aload_n 3, 1) := by decide +kernel
theorem dd_X8_strike_7 : decode X8_strike.2.1 7 = .ok (.ifnonnull 6, 3) := by decide +kernel
theorem dd_X8_strike_10 : decode X8_strike.2.1 10 = .ok (.bipush (-2), 2) := by decide +kernel
theorem dd_X8_strike_12 : decode X8_strike.2.1 12 = .ok (.ireturn, 1) := by decide +kernel
theorem dd_X8_strike_13 : decode X8_strike.2.1 13 = .ok (.iload_n 2, 1) := by decide +kernel
theorem dd_X8_strike_14 : decode X8_strike.2.1 14 = .ok (.invokestatic 249, 3) := by decide +kernel
theorem dd_X8_strike_17 : decode X8_strike.2.1 17 = .ok (.ifCond .ne 6, 3) := by decide +kernel
theorem dd_X8_strike_20 : decode X8_strike.2.1 20 = .ok (.bipush (-3), 2) := by decide +kernel
theorem dd_X8_strike_22 : decode X8_strike.2.1 22 = .ok (.ireturn, 1) := by decide +kernel
theorem dd_X8_strike_23 : decode X8_strike.2.1 23 = .ok (.aload_n 3, 1) := by decide +kernel
theorem dd_X8_strike_24 : decode X8_strike.2.1 24 = .ok (.getfield 252, 3) := by decide +kernel
theorem dd_X8_strike_27 : decode X8_strike.2.1 27 = .ok (.ifCond .ne 6, 3) := by decide +kernel
theorem dd_X8_strike_30 : decode X8_strike.2.1 30 = .ok (.bipush (-11), 2) := by decide +kernel
theorem dd_X8_strike_32 : decode X8_strike.2.1 32 = .ok (.ireturn, 1) := by decide +kernel
theorem dd_X8_strike_33 : decode X8_strike.2.1 33 = .ok (.aload_n 3, 1) := by decide +kernel
theorem dd_X8_strike_34 : decode X8_strike.2.1 34 = .ok (.iload_n 2, 1) := by decide +kernel
theorem dd_X8_strike_35 : decode X8_strike.2.1 35 = .ok (.invokevirtual 278, 3) := by decide +kernel
theorem dd_X8_strike_38 : decode X8_strike.2.1 38 = .ok (.ireturn, 1) := by decide +kernel
theorem dd_X8_load_0 : decode X8_load.2.1 0 = .ok (.aload_n 0, 1) := by decide +kernel
theorem dd_X8_load_1 : decode X8_load.2.1 1 = .ok (.iload_n 1, 1) := by decide +kernel
theorem dd_X8_load_2 : decode X8_load.2.1 2 = .ok (.invokevirtual 112, 3) := by decide +kernel
theorem dd_X8_load_5 : decode X8_load.2.1 5 = .ok (.astore 4, 2) := by decide +kernel
theorem dd_X8_load_7 : decode X8_load.2.1 7 = .ok (.aload 4, 2) := by decide +kernel
theorem dd_X8_load_9 : decode X8_load.2.1 9 = .ok (.ifnull 14, 3) := by decide +kernel
theorem dd_X8_load_12 : decode X8_load.2.1 12 = .ok (.aload_n 0, 1) := by decide +kernel
theorem dd_X8_load_13 : decode X8_load.2.1 13 = .ok (.getfield 19, 3) := by decide +kernel
theorem dd_X8_load_16 : decode X8_load.2.1 16 = .ok (.iload_n 2, 1) := by decide +kernel
theorem dd_X8_load_17 : decode X8_load.2.1 17 = .ok (.invokevirtual 119, 3) := by decide +kernel
theorem dd_X8_load_20 : decode X8_load.2.1 20 = .ok (.ifCond .ne 6, 3) := by decide +kernel
theorem dd_X8_load_23 : decode X8_load.2.1 23 = .ok (.bipush (-2), 2) := by decide +kernel
theorem dd_X8_load_25 : decode X8_load.2.1 25 = .ok (.ireturn, 1) := by decide +kernel
theorem dd_X8_load_26 : decode X8_load.2.1 26 = .ok (.iload_n 3, 1) := by decide +kernel
theorem dd_X8_load_27 : decode X8_load.2.1 27 = .ok (.ifCond .lt 14, 3) := by decide +kernel
theorem dd_X8_load_30 : decode X8_load.2.1 30 = .ok (.iload_n 3, 1) := by decide +kernel
theorem dd_X8_load_31 : decode X8_load.2.1 31 = .ok (.aload_n 0, 1) := by decide +kernel
theorem dd_X8_load_32 : decode X8_load.2.1 32 = .ok (.getfield 19, 3) := by decide +kernel
theorem dd_X8_load_35 : decode X8_load.2.1 35 = .ok (.getfield 201, 3) := by decide +kernel
theorem dd_X8_load_38 : decode X8_load.2.1 38 = .ok (.if_icmp .lt 6, 3) := by decide +kernel
theorem dd_X8_load_41 : decode X8_load.2.1 41 = .ok (.bipush (-3), 2) := by decide +kernel
theorem dd_X8_load_43 : decode X8_load.2.1 43 = .ok (.ireturn, 1) := by decide +kernel
theorem dd_X8_load_44 : decode X8_load.2.1 44 = .ok (.aload 4, 2) := by decide +kernel
theorem dd_X8_load_46 : decode X8_load.2.1 46 = .ok (.getfield 252, 3) := by decide +kernel
theorem dd_X8_load_49 : decode X8_load.2.1 49 = .ok (.ifCond .ne 6, 3) := by decide +kernel
theorem dd_X8_load_52 : decode X8_load.2.1 52 = .ok (.bipush (-11), 2) := by decide +kernel
theorem dd_X8_load_54 : decode X8_load.2.1 54 = .ok (.ireturn, 1) := by decide +kernel
theorem dd_X8_load_55 : decode X8_load.2.1 55 = .ok (.aload 4, 2) := by decide +kernel
theorem dd_X8_load_57 : decode X8_load.2.1 57 = .ok (.getfield 255, 3) := by decide +kernel
theorem dd_X8_load_60 : decode X8_load.2.1 60 = .ok (.aload_n 0, 1) := by decide +kernel
theorem dd_X8_load_61 : decode X8_load.2.1 61 = .ok (.getfield 19, 3) := by decide +kernel
theorem dd_X8_load_64 : decode X8_load.2.1 64 = .ok (.getfield 201, 3) := by decide +kernel
theorem dd_X8_load_67 : decode X8_load.2.1 67 = .ok (.iadd, 1) := by decide +kernel
theorem dd_X8_load_68 : decode X8_load.2.1 68 = .ok (.bipush 12, 2) := by decide +kernel
theorem dd_X8_load_70 : decode X8_load.2.1 70 = .ok (.if_icmp .le 6, 3) := by decide +kernel
theorem dd_X8_load_73 : decode X8_load.2.1 73 = .ok (.bipush (-13), 2) := by decide +kernel
theorem dd_X8_load_75 : decode X8_load.2.1 75 = .ok (.ireturn, 1) := by decide +kernel
theorem dd_X8_load_76 : decode X8_load.2.1 76 = .ok (.aload_n 0, 1) := by decide +kernel
theorem dd_X8_load_77 : decode X8_load.2.1 77 = .ok (.getfield 19, 3) := by decide +kernel
theorem dd_X8_load_80 : decode X8_load.2.1 80 = .ok (.iload_n 2, 1) := by decide +kernel
theorem dd_X8_load_81 : decode X8_load.2.1 81 = .ok (.iload_n 3, 1) := by decide +kernel
theorem dd_X8_load_82 : decode X8_load.2.1 82 = .ok (.invokevirtual 131, 3) := by decide +kernel
theorem dd_X8_load_85 : decode X8_load.2.1 85 = .ok (.istore 5, 2) := by decide +kernel
theorem dd_X8_load_87 : decode X8_load.2.1 87 = .ok (.aload_n 0, 1) := by decide +kernel
theorem dd_X8_load_88 : decode X8_load.2.1 88 = .ok (.getfield 19, 3) := by decide +kernel
theorem dd_X8_load_91 : decode X8_load.2.1 91 = .ok (.getfield 201, 3) := by decide +kernel
theorem dd_X8_load_94 : decode X8_load.2.1 94 = .ok (.iconst 1, 1) := by decide +kernel
theorem dd_X8_load_95 : decode X8_load.2.1 95 = .ok (.isub, 1) := by decide +kernel
theorem dd_X8_load_96 : decode X8_load.2.1 96 = .ok (.istore 6, 2) := by decide +kernel
theorem dd_X8_load_98 : decode X8_load.2.1 98 = .ok (.iload 6, 2) := by decide +kernel
theorem dd_X8_load_100 : decode X8_load.2.1 100 = .ok (.ifCond .lt 21, 3) := by decide +kernel
theorem dd_X8_load_103 : decode X8_load.2.1 103 = .ok (.aload 4, 2) := by decide +kernel
theorem dd_X8_load_105 : decode X8_load.2.1 105 = .ok (.iload 5, 2) := by decide +kernel
theorem dd_X8_load_107 : decode X8_load.2.1 107 = .ok (.iload 6, 2) := by decide +kernel
theorem dd_X8_load_109 : decode X8_load.2.1 109 = .ok (.ishr, 1) := by decide +kernel
theorem dd_X8_load_110 : decode X8_load.2.1 110 = .ok (.iconst 1, 1) := by decide +kernel
theorem dd_X8_load_111 : decode X8_load.2.1 111 = .ok (.iand, 1) := by decide +kernel
theorem dd_X8_load_112 : decode X8_load.2.1 112 = .ok (.invokevirtual 259, 3) := by decide +kernel
theorem dd_X8_load_115 : decode X8_load.2.1 115 = .ok (.iinc 6 (-1), 3) := by decide +kernel
theorem dd_X8_load_118 : decode X8_load.2.1 118 = .ok (.goto (-20), 3) := by decide +kernel
theorem dd_X8_load_121 : decode X8_load.2.1 121 = .ok (.aload 4, 2) := by decide +kernel
theorem dd_X8_load_123 : decode X8_load.2.1 123 = .ok (.getfield 255, 3) := by decide +kernel
theorem dd_X8_load_126 : decode X8_load.2.1 126 = .ok (.ireturn, 1) := by decide +kernel
theorem dd_X8_drop_0 : decode X8_drop.2.1 0 = .ok (.aload_n 0, 1) := by decide +kernel
theorem dd_X8_drop_1 : decode X8_drop.2.1 1 = .ok (.iload_n 1, 1) := by decide +kernel
theorem dd_X8_drop_2 : decode X8_drop.2.1 2 = .ok (.invokevirtual 112, 3) := by decide +kernel
theorem dd_X8_drop_5 : decode X8_drop.2.1 5 = .ok (.astore_n 2, 1) := by decide +kernel
theorem dd_X8_drop_6 : decode X8_drop.2.1 6 = .ok (.aload_n 2, 1) := by decide +kernel
theorem dd_X8_drop_7 : decode X8_drop.2.1 7 = .ok (.ifnonnull 6, 3) := by decide +kernel
theorem dd_X8_drop_10 : decode X8_drop.2.1 10 = .ok (.bipush (-2), 2) := by decide +kernel
theorem dd_X8_drop_12 : decode X8_drop.2.1 12 = .ok (.ireturn, 1) := by decide +kernel
theorem dd_X8_drop_13 : decode X8_drop.2.1 13 = .ok (.aload_n 2, 1) := by decide +kernel
theorem dd_X8_drop_14 : decode X8_drop.2.1 14 = .ok (.getfield 252, 3) := by decide +kernel
theorem dd_X8_drop_17 : decode X8_drop.2.1 17 = .ok (.ifCond .ne 6, 3) := by decide +kernel
theorem dd_X8_drop_20 : decode X8_drop.2.1 20 = .ok (.bipush (-11), 2) := by decide +kernel
theorem dd_X8_drop_22 : decode X8_drop.2.1 22 = .ok (.ireturn, 1) := by decide +kernel
theorem dd_X8_drop_23 : decode X8_drop.2.1 23 = .ok (.aload_n 2, 1) := by decide +kernel
theorem dd_X8_drop_24 : decode X8_drop.2.1 24 = .ok (.getfield 255, 3) := by decide +kernel
theorem dd_X8_drop_27 : decode X8_drop.2.1 27 = .ok (.istore_n 3, 1) := by decide +kernel
theorem dd_X8_drop_28 : decode X8_drop.2.1 28 = .ok (.aload_n 2, 1) := by decide +kernel
theorem dd_X8_drop_29 : decode X8_drop.2.1 29 = .ok (.invokevirtual 116, 3) := by decide +kernel
theorem dd_X8_drop_32 : decode X8_drop.2.1 32 = .ok (.iload_n 3, 1) := by decide +kernel
theorem dd_X8_drop_33 : decode X8_drop.2.1 33 = .ok (.ireturn, 1) := by decide +kernel
theorem dd_X8_count_0 : decode X8_count.2.1 0 = .ok (.iload_n 1, 1) := by decide +kernel
theorem dd_X8_count_1 : decode X8_count.2.1 1 = .ok (.tableswitch 141 0 10 #[59, 67, 75, 83, 91, 99, 107, 112, 120, 125, 133], 59) := by decide +kernel
theorem dd_X8_count_60 : decode X8_count.2.1 60 = .ok (.aload_n 0, 1) := by decide +kernel
theorem dd_X8_count_61 : decode X8_count.2.1 61 = .ok (.getfield 19, 3) := by decide +kernel
theorem dd_X8_count_64 : decode X8_count.2.1 64 = .ok (.getfield 201, 3) := by decide +kernel
theorem dd_X8_count_67 : decode X8_count.2.1 67 = .ok (.ireturn, 1) := by decide +kernel
theorem dd_X8_count_68 : decode X8_count.2.1 68 = .ok (.aload_n 0, 1) := by decide +kernel
theorem dd_X8_count_69 : decode X8_count.2.1 69 = .ok (.getfield 19, 3) := by decide +kernel
theorem dd_X8_count_72 : decode X8_count.2.1 72 = .ok (.getfield 281, 3) := by decide +kernel
theorem dd_X8_count_75 : decode X8_count.2.1 75 = .ok (.ireturn, 1) := by decide +kernel
theorem dd_X8_count_76 : decode X8_count.2.1 76 = .ok (.aload_n 0, 1) := by decide +kernel
theorem dd_X8_count_77 : decode X8_count.2.1 77 = .ok (.getfield 19, 3) := by decide +kernel
theorem dd_X8_count_80 : decode X8_count.2.1 80 = .ok (.getfield 152, 3) := by decide +kernel
theorem dd_X8_count_83 : decode X8_count.2.1 83 = .ok (.ireturn, 1) := by decide +kernel
theorem dd_X8_count_84 : decode X8_count.2.1 84 = .ok (.aload_n 0, 1) := by decide +kernel
theorem dd_X8_count_85 : decode X8_count.2.1 85 = .ok (.getfield 19, 3) := by decide +kernel
theorem dd_X8_count_88 : decode X8_count.2.1 88 = .ok (.getfield 284, 3) := by decide +kernel
theorem dd_X8_count_91 : decode X8_count.2.1 91 = .ok (.ireturn, 1) := by decide +kernel
theorem dd_X8_count_92 : decode X8_count.2.1 92 = .ok (.aload_n 0, 1) := by decide +kernel
theorem dd_X8_count_93 : decode X8_count.2.1 93 = .ok (.getfield 29, 3) := by decide +kernel
theorem dd_X8_count_96 : decode X8_count.2.1 96 = .ok (.getfield 161, 3) := by decide +kernel
theorem dd_X8_count_99 : decode X8_count.2.1 99 = .ok (.ireturn, 1) := by decide +kernel
theorem dd_X8_count_100 : decode X8_count.2.1 100 = .ok (.aload_n 0, 1) := by decide +kernel
theorem dd_X8_count_101 : decode X8_count.2.1 101 = .ok (.getfield 29, 3) := by decide +kernel
theorem dd_X8_count_104 : decode X8_count.2.1 104 = .ok (.invokevirtual 183, 3) := by decide +kernel
theorem dd_X8_count_107 : decode X8_count.2.1 107 = .ok (.ireturn, 1) := by decide +kernel
theorem dd_X8_count_108 : decode X8_count.2.1 108 = .ok (.aload_n 0, 1) := by decide +kernel
theorem dd_X8_count_109 : decode X8_count.2.1 109 = .ok (.invokevirtual 285, 3) := by decide +kernel
theorem dd_X8_count_112 : decode X8_count.2.1 112 = .ok (.ireturn, 1) := by decide +kernel
theorem dd_X8_count_113 : decode X8_count.2.1 113 = .ok (.aload_n 0, 1) := by decide +kernel
theorem dd_X8_count_114 : decode X8_count.2.1 114 = .ok (.getfield 63, 3) := by decide +kernel
theorem dd_X8_count_117 : decode X8_count.2.1 117 = .ok (.invokevirtual 226, 3) := by decide +kernel
theorem dd_X8_count_120 : decode X8_count.2.1 120 = .ok (.ireturn, 1) := by decide +kernel
theorem dd_X8_count_121 : decode X8_count.2.1 121 = .ok (.aload_n 0, 1) := by decide +kernel
theorem dd_X8_count_122 : decode X8_count.2.1 122 = .ok (.invokevirtual 288, 3) := by decide +kernel
theorem dd_X8_count_125 : decode X8_count.2.1 125 = .ok (.ireturn, 1) := by decide +kernel
theorem dd_X8_count_126 : decode X8_count.2.1 126 = .ok (.aload_n 0, 1) := by decide +kernel
theorem dd_X8_count_127 : decode X8_count.2.1 127 = .ok (.getfield 36, 3) := by decide +kernel
theorem dd_X8_count_130 : decode X8_count.2.1 130 = .ok (.getfield 105, 3) := by decide +kernel
theorem dd_X8_count_133 : decode X8_count.2.1 133 = .ok (.ireturn, 1) := by decide +kernel
theorem dd_X8_count_134 : decode X8_count.2.1 134 = .ok (.aload_n 0, 1) := by decide +kernel
theorem dd_X8_count_135 : decode X8_count.2.1 135 = .ok (.getfield 12, 3) := by decide +kernel
theorem dd_X8_count_138 : decode X8_count.2.1 138 = .ok (.getfield 74, 3) := by decide +kernel
theorem dd_X8_count_141 : decode X8_count.2.1 141 = .ok (.ireturn, 1) := by decide +kernel
theorem dd_X8_count_142 : decode X8_count.2.1 142 = .ok (.bipush (-3), 2) := by decide +kernel
theorem dd_X8_count_144 : decode X8_count.2.1 144 = .ok (.ireturn, 1) := by decide +kernel
theorem dd_X8_clashes_0 : decode X8_clashes.2.1 0 = .ok (.iconst 0, 1) := by decide +kernel
theorem dd_X8_clashes_1 : decode X8_clashes.2.1 1 = .ok (.istore_n 1, 1) := by decide +kernel
theorem dd_X8_clashes_2 : decode X8_clashes.2.1 2 = .ok (.iconst 0, 1) := by decide +kernel
theorem dd_X8_clashes_3 : decode X8_clashes.2.1 3 = .ok (.istore_n 2, 1) := by decide +kernel
theorem dd_X8_clashes_4 : decode X8_clashes.2.1 4 = .ok (.iload_n 2, 1) := by decide +kernel
theorem dd_X8_clashes_5 : decode X8_clashes.2.1 5 = .ok (.aload_n 0, 1) := by decide +kernel
theorem dd_X8_clashes_6 : decode X8_clashes.2.1 6 = .ok (.getfield 29, 3) := by decide +kernel
theorem dd_X8_clashes_9 : decode X8_clashes.2.1 9 = .ok (.getfield 161, 3) := by decide +kernel
theorem dd_X8_clashes_12 : decode X8_clashes.2.1 12 = .ok (.if_icmp .ge 20, 3) := by decide +kernel
theorem dd_X8_clashes_15 : decode X8_clashes.2.1 15 = .ok (.iload_n 1, 1) := by decide +kernel
theorem dd_X8_clashes_16 : decode X8_clashes.2.1 16 = .ok (.aload_n 0, 1) := by decide +kernel
theorem dd_X8_clashes_17 : decode X8_clashes.2.1 17 = .ok (.iload_n 2, 1) := by decide +kernel
theorem dd_X8_clashes_18 : decode X8_clashes.2.1 18 = .ok (.invokevirtual 158, 3) := by decide +kernel
theorem dd_X8_clashes_21 : decode X8_clashes.2.1 21 = .ok (.invokestatic 138, 3) := by decide +kernel
theorem dd_X8_clashes_24 : decode X8_clashes.2.1 24 = .ok (.iadd, 1) := by decide +kernel
theorem dd_X8_clashes_25 : decode X8_clashes.2.1 25 = .ok (.istore_n 1, 1) := by decide +kernel
theorem dd_X8_clashes_26 : decode X8_clashes.2.1 26 = .ok (.iinc 2 1, 3) := by decide +kernel
theorem dd_X8_clashes_29 : decode X8_clashes.2.1 29 = .ok (.goto (-25), 3) := by decide +kernel
theorem dd_X8_clashes_32 : decode X8_clashes.2.1 32 = .ok (.iload_n 1, 1) := by decide +kernel
theorem dd_X8_clashes_33 : decode X8_clashes.2.1 33 = .ok (.iconst 1, 1) := by decide +kernel
theorem dd_X8_clashes_34 : decode X8_clashes.2.1 34 = .ok (.ishr, 1) := by decide +kernel
theorem dd_X8_clashes_35 : decode X8_clashes.2.1 35 = .ok (.ireturn, 1) := by decide +kernel
theorem dd_X8_numbersOnTapes_0 : decode X8_numbersOnTapes.2.1 0 = .ok (.iconst 0, 1) := by decide +kernel
theorem dd_X8_numbersOnTapes_1 : decode X8_numbersOnTapes.2.1 1 = .ok (.istore_n 1, 1) := by decide +kernel
theorem dd_X8_numbersOnTapes_2 : decode X8_numbersOnTapes.2.1 2 = .ok (.iconst 0, 1) := by decide +kernel
theorem dd_X8_numbersOnTapes_3 : decode X8_numbersOnTapes.2.1 3 = .ok (.istore_n 2, 1) := by decide +kernel
theorem dd_X8_numbersOnTapes_4 : decode X8_numbersOnTapes.2.1 4 = .ok (.iload_n 2, 1) := by decide +kernel
theorem dd_X8_numbersOnTapes_5 : decode X8_numbersOnTapes.2.1 5 = .ok (.iconst 3, 1) := by decide +kernel
theorem dd_X8_numbersOnTapes_6 : decode X8_numbersOnTapes.2.1 6 = .ok (.if_icmp .ge 26, 3) := by decide +kernel
theorem dd_X8_numbersOnTapes_9 : decode X8_numbersOnTapes.2.1 9 = .ok (.aload_n 0, 1) := by decide +kernel
theorem dd_X8_numbersOnTapes_10 : decode X8_numbersOnTapes.2.1 10 = .ok (.iload_n 2, 1) := by decide +kernel
theorem dd_X8_numbersOnTapes_11 : decode X8_numbersOnTapes.2.1 11 = .ok (.invokevirtual 112, 3) := by decide +kernel
theorem dd_X8_numbersOnTapes_14 : decode X8_numbersOnTapes.2.1 14 = .ok (.astore_n 3, 1) := by decide +kernel
theorem dd_X8_numbersOnTapes_15 : decode X8_numbersOnTapes.2.1 15 = .ok (.aload_n 3, 1) := by decide +kernel
theorem dd_X8_numbersOnTapes_16 : decode X8_numbersOnTapes.2.1 16 = .ok (.ifnull 10, 3) := by decide +kernel
theorem dd_X8_numbersOnTapes_19 : decode X8_numbersOnTapes.2.1 19 = .ok (.iload_n 1, 1) := by decide +kernel
theorem dd_X8_numbersOnTapes_20 : decode X8_numbersOnTapes.2.1 20 = .ok (.aload_n 3, 1) := by decide +kernel
theorem dd_X8_numbersOnTapes_21 : decode X8_numbersOnTapes.2.1 21 = .ok (.getfield 255, 3) := by decide +kernel
theorem dd_X8_numbersOnTapes_24 : decode X8_numbersOnTapes.2.1 24 = .ok (.iadd, 1) := by decide +kernel
theorem dd_X8_numbersOnTapes_25 : decode X8_numbersOnTapes.2.1 25 = .ok (.istore_n 1, 1) := by decide +kernel
theorem dd_X8_numbersOnTapes_26 : decode X8_numbersOnTapes.2.1 26 = .ok (.iinc 2 1, 3) := by decide +kernel
theorem dd_X8_numbersOnTapes_29 : decode X8_numbersOnTapes.2.1 29 = .ok (.goto (-25), 3) := by decide +kernel
theorem dd_X8_numbersOnTapes_32 : decode X8_numbersOnTapes.2.1 32 = .ok (.iload_n 1, 1) := by decide +kernel
theorem dd_X8_numbersOnTapes_33 : decode X8_numbersOnTapes.2.1 33 = .ok (.ireturn, 1) := by decide +kernel
theorem dd_X8_tapeAt_0 : decode X8_tapeAt.2.1 0 = .ok (.iload_n 1, 1) := by decide +kernel
theorem dd_X8_tapeAt_1 : decode X8_tapeAt.2.1 1 = .ok (.ifCond .lt 8, 3) := by decide +kernel
theorem dd_X8_tapeAt_4 : decode X8_tapeAt.2.1 4 = .ok (.iload_n 1, 1) := by decide +kernel
theorem dd_X8_tapeAt_5 : decode X8_tapeAt.2.1 5 = .ok (.iconst 3, 1) := by decide +kernel
theorem dd_X8_tapeAt_6 : decode X8_tapeAt.2.1 6 = .ok (.if_icmp .lt 7, 3) := by decide +kernel
theorem dd_X8_tapeAt_9 : decode X8_tapeAt.2.1 9 = .ok (.aconst_null, 1) := by decide +kernel
theorem dd_X8_tapeAt_10 : decode X8_tapeAt.2.1 10 = .ok (.goto 9, 3) := by decide +kernel
theorem dd_X8_tapeAt_13 : decode X8_tapeAt.2.1 13 = .ok (.aload_n 0, 1) := by decide +kernel
theorem dd_X8_tapeAt_14 : decode X8_tapeAt.2.1 14 = .ok (.getfield 69, 3) := by decide +kernel
theorem dd_X8_tapeAt_17 : decode X8_tapeAt.2.1 17 = .ok (.iload_n 1, 1) := by decide +kernel
theorem dd_X8_tapeAt_18 : decode X8_tapeAt.2.1 18 = .ok (.aaload, 1) := by decide +kernel
theorem dd_X8_tapeAt_19 : decode X8_tapeAt.2.1 19 = .ok (.areturn, 1) := by decide +kernel
theorem dd_X8_isPlace_0 : decode X8_isPlace.2.1 0 = .ok (.iload_n 0, 1) := by decide +kernel
theorem dd_X8_isPlace_1 : decode X8_isPlace.2.1 1 = .ok (.ifCond .lt 13, 3) := by decide +kernel
theorem dd_X8_isPlace_4 : decode X8_isPlace.2.1 4 = .ok (.iload_n 0, 1) := by decide +kernel
theorem dd_X8_isPlace_5 : decode X8_isPlace.2.1 5 = .ok (.bipush 99, 2) := by decide +kernel
theorem dd_X8_isPlace_7 : decode X8_isPlace.2.1 7 = .ok (.if_icmp .gt 7, 3) := by decide +kernel
theorem dd_X8_isPlace_10 : decode X8_isPlace.2.1 10 = .ok (.iconst 1, 1) := by decide +kernel
theorem dd_X8_isPlace_11 : decode X8_isPlace.2.1 11 = .ok (.goto 4, 3) := by decide +kernel
theorem dd_X8_isPlace_14 : decode X8_isPlace.2.1 14 = .ok (.iconst 0, 1) := by decide +kernel
theorem dd_X8_isPlace_15 : decode X8_isPlace.2.1 15 = .ok (.ireturn, 1) := by decide +kernel
theorem dd_X8_isEnd_0 : decode X8_isEnd.2.1 0 = .ok (.iload_n 0, 1) := by decide +kernel
theorem dd_X8_isEnd_1 : decode X8_isEnd.2.1 1 = .ok (.ifCond .eq 8, 3) := by decide +kernel
theorem dd_X8_isEnd_4 : decode X8_isEnd.2.1 4 = .ok (.iload_n 0, 1) := by decide +kernel
theorem dd_X8_isEnd_5 : decode X8_isEnd.2.1 5 = .ok (.iconst 1, 1) := by decide +kernel
theorem dd_X8_isEnd_6 : decode X8_isEnd.2.1 6 = .ok (.if_icmp .ne 7, 3) := by decide +kernel
theorem dd_X8_isEnd_9 : decode X8_isEnd.2.1 9 = .ok (.iconst 1, 1) := by decide +kernel
theorem dd_X8_isEnd_10 : decode X8_isEnd.2.1 10 = .ok (.goto 4, 3) := by decide +kernel
theorem dd_X8_isEnd_13 : decode X8_isEnd.2.1 13 = .ok (.iconst 0, 1) := by decide +kernel
theorem dd_X8_isEnd_14 : decode X8_isEnd.2.1 14 = .ok (.ireturn, 1) := by decide +kernel
theorem dd_X8_isNumber_0 : decode X8_isNumber.2.1 0 = .ok (.iload_n 0, 1) := by decide +kernel
theorem dd_X8_isNumber_1 : decode X8_isNumber.2.1 1 = .ok (.sipush (-9999), 3) := by decide +kernel
theorem dd_X8_isNumber_4 : decode X8_isNumber.2.1 4 = .ok (.if_icmp .lt 14, 3) := by decide +kernel
theorem dd_X8_isNumber_7 : decode X8_isNumber.2.1 7 = .ok (.iload_n 0, 1) := by decide +kernel
theorem dd_X8_isNumber_8 : decode X8_isNumber.2.1 8 = .ok (.sipush 9999, 3) := by decide +kernel
theorem dd_X8_isNumber_11 : decode X8_isNumber.2.1 11 = .ok (.if_icmp .gt 7, 3) := by decide +kernel
theorem dd_X8_isNumber_14 : decode X8_isNumber.2.1 14 = .ok (.iconst 1, 1) := by decide +kernel
theorem dd_X8_isNumber_15 : decode X8_isNumber.2.1 15 = .ok (.goto 4, 3) := by decide +kernel
theorem dd_X8_isNumber_18 : decode X8_isNumber.2.1 18 = .ok (.iconst 0, 1) := by decide +kernel
theorem dd_X8_isNumber_19 : decode X8_isNumber.2.1 19 = .ok (.ireturn, 1) := by decide +kernel
theorem dd_X8_lightsIn_0 : decode X8_lightsIn.2.1 0 = .ok (.ldc2_w 291, 3) := by decide +kernel
theorem dd_X8_lightsIn_3 : decode X8_lightsIn.2.1 3 = .ok (.lstore_n 2, 1) := by decide +kernel
theorem dd_X8_lightsIn_4 : decode X8_lightsIn.2.1 4 = .ok (.iconst 0, 1) := by decide +kernel
theorem dd_X8_lightsIn_5 : decode X8_lightsIn.2.1 5 = .ok (.istore 4, 2) := by decide +kernel
theorem dd_X8_lightsIn_7 : decode X8_lightsIn.2.1 7 = .ok (.iconst 0, 1) := by decide +kernel
theorem dd_X8_lightsIn_8 : decode X8_lightsIn.2.1 8 = .ok (.istore 5, 2) := by decide +kernel
theorem dd_X8_lightsIn_10 : decode X8_lightsIn.2.1 10 = .ok (.iload 5, 2) := by decide +kernel
theorem dd_X8_lightsIn_12 : decode X8_lightsIn.2.1 12 = .ok (.bipush 6, 2) := by decide +kernel
theorem dd_X8_lightsIn_14 : decode X8_lightsIn.2.1 14 = .ok (.if_icmp .ge 32, 3) := by decide +kernel
theorem dd_X8_lightsIn_17 : decode X8_lightsIn.2.1 17 = .ok (.lload_n 0, 1) := by decide +kernel
theorem dd_X8_lightsIn_18 : decode X8_lightsIn.2.1 18 = .ok (.lload_n 2, 1) := by decide +kernel
theorem dd_X8_lightsIn_19 : decode X8_lightsIn.2.1 19 = .ok (.iload 5, 2) := by decide +kernel
theorem dd_X8_lightsIn_21 : decode X8_lightsIn.2.1 21 = .ok (.bipush 8, 2) := by decide +kernel
theorem dd_X8_lightsIn_23 : decode X8_lightsIn.2.1 23 = .ok (.imul, 1) := by decide +kernel
theorem dd_X8_lightsIn_24 : decode X8_lightsIn.2.1 24 = .ok (.lshl, 1) := by decide +kernel
theorem dd_X8_lightsIn_25 : decode X8_lightsIn.2.1 25 = .ok (.land, 1) := by decide +kernel
theorem dd_X8_lightsIn_26 : decode X8_lightsIn.2.1 26 = .ok (.lconst 0, 1) := by decide +kernel
theorem dd_X8_lightsIn_27 : decode X8_lightsIn.2.1 27 = .ok (.lcmp, 1) := by decide +kernel
theorem dd_X8_lightsIn_28 : decode X8_lightsIn.2.1 28 = .ok (.ifCond .eq 12, 3) := by decide +kernel
theorem dd_X8_lightsIn_31 : decode X8_lightsIn.2.1 31 = .ok (.iload 4, 2) := by decide +kernel
theorem dd_X8_lightsIn_33 : decode X8_lightsIn.2.1 33 = .ok (.iconst 1, 1) := by decide +kernel
theorem dd_X8_lightsIn_34 : decode X8_lightsIn.2.1 34 = .ok (.iload 5, 2) := by decide +kernel
theorem dd_X8_lightsIn_36 : decode X8_lightsIn.2.1 36 = .ok (.ishl, 1) := by decide +kernel
theorem dd_X8_lightsIn_37 : decode X8_lightsIn.2.1 37 = .ok (.ior, 1) := by decide +kernel
theorem dd_X8_lightsIn_38 : decode X8_lightsIn.2.1 38 = .ok (.istore 4, 2) := by decide +kernel
theorem dd_X8_lightsIn_40 : decode X8_lightsIn.2.1 40 = .ok (.iinc 5 1, 3) := by decide +kernel
theorem dd_X8_lightsIn_43 : decode X8_lightsIn.2.1 43 = .ok (.goto (-33), 3) := by decide +kernel
theorem dd_X8_lightsIn_46 : decode X8_lightsIn.2.1 46 = .ok (.iload 4, 2) := by decide +kernel
theorem dd_X8_lightsIn_48 : decode X8_lightsIn.2.1 48 = .ok (.ireturn, 1) := by decide +kernel
theorem dd_J6_bitCount_0f7a4_0 : decode J6_bitCount_0f7a4.2.1 0 = .ok (.iload_n 0, 1) := by decide +kernel
theorem dd_J6_bitCount_0f7a4_1 : decode J6_bitCount_0f7a4.2.1 1 = .ok (.iload_n 0, 1) := by decide +kernel
theorem dd_J6_bitCount_0f7a4_2 : decode J6_bitCount_0f7a4.2.1 2 = .ok (.iconst 1, 1) := by decide +kernel
theorem dd_J6_bitCount_0f7a4_3 : decode J6_bitCount_0f7a4.2.1 3 = .ok (.iushr, 1) := by decide +kernel
theorem dd_J6_bitCount_0f7a4_4 : decode J6_bitCount_0f7a4.2.1 4 = .ok (.ldc_w 265, 3) := by decide +kernel
theorem dd_J6_bitCount_0f7a4_7 : decode J6_bitCount_0f7a4.2.1 7 = .ok (.iand, 1) := by decide +kernel
theorem dd_J6_bitCount_0f7a4_8 : decode J6_bitCount_0f7a4.2.1 8 = .ok (.isub, 1) := by decide +kernel
theorem dd_J6_bitCount_0f7a4_9 : decode J6_bitCount_0f7a4.2.1 9 = .ok (.istore_n 0, 1) := by decide +kernel
theorem dd_J6_bitCount_0f7a4_10 : decode J6_bitCount_0f7a4.2.1 10 = .ok (.iload_n 0, 1) := by decide +kernel
theorem dd_J6_bitCount_0f7a4_11 : decode J6_bitCount_0f7a4.2.1 11 = .ok (.ldc_w 266, 3) := by decide +kernel
theorem dd_J6_bitCount_0f7a4_14 : decode J6_bitCount_0f7a4.2.1 14 = .ok (.iand, 1) := by decide +kernel
theorem dd_J6_bitCount_0f7a4_15 : decode J6_bitCount_0f7a4.2.1 15 = .ok (.iload_n 0, 1) := by decide +kernel
theorem dd_J6_bitCount_0f7a4_16 : decode J6_bitCount_0f7a4.2.1 16 = .ok (.iconst 2, 1) := by decide +kernel
theorem dd_J6_bitCount_0f7a4_17 : decode J6_bitCount_0f7a4.2.1 17 = .ok (.iushr, 1) := by decide +kernel
theorem dd_J6_bitCount_0f7a4_18 : decode J6_bitCount_0f7a4.2.1 18 = .ok (.ldc_w 266, 3) := by decide +kernel
theorem dd_J6_bitCount_0f7a4_21 : decode J6_bitCount_0f7a4.2.1 21 = .ok (.iand, 1) := by decide +kernel
theorem dd_J6_bitCount_0f7a4_22 : decode J6_bitCount_0f7a4.2.1 22 = .ok (.iadd, 1) := by decide +kernel
theorem dd_J6_bitCount_0f7a4_23 : decode J6_bitCount_0f7a4.2.1 23 = .ok (.istore_n 0, 1) := by decide +kernel
theorem dd_J6_bitCount_0f7a4_24 : decode J6_bitCount_0f7a4.2.1 24 = .ok (.iload_n 0, 1) := by decide +kernel
theorem dd_J6_bitCount_0f7a4_25 : decode J6_bitCount_0f7a4.2.1 25 = .ok (.iload_n 0, 1) := by decide +kernel
theorem dd_J6_bitCount_0f7a4_26 : decode J6_bitCount_0f7a4.2.1 26 = .ok (.iconst 4, 1) := by decide +kernel
theorem dd_J6_bitCount_0f7a4_27 : decode J6_bitCount_0f7a4.2.1 27 = .ok (.iushr, 1) := by decide +kernel
theorem dd_J6_bitCount_0f7a4_28 : decode J6_bitCount_0f7a4.2.1 28 = .ok (.iadd, 1) := by decide +kernel
theorem dd_J6_bitCount_0f7a4_29 : decode J6_bitCount_0f7a4.2.1 29 = .ok (.ldc_w 267, 3) := by decide +kernel
theorem dd_J6_bitCount_0f7a4_32 : decode J6_bitCount_0f7a4.2.1 32 = .ok (.iand, 1) := by decide +kernel
theorem dd_J6_bitCount_0f7a4_33 : decode J6_bitCount_0f7a4.2.1 33 = .ok (.istore_n 0, 1) := by decide +kernel
theorem dd_J6_bitCount_0f7a4_34 : decode J6_bitCount_0f7a4.2.1 34 = .ok (.iload_n 0, 1) := by decide +kernel
theorem dd_J6_bitCount_0f7a4_35 : decode J6_bitCount_0f7a4.2.1 35 = .ok (.iload_n 0, 1) := by decide +kernel
theorem dd_J6_bitCount_0f7a4_36 : decode J6_bitCount_0f7a4.2.1 36 = .ok (.bipush 8, 2) := by decide +kernel
theorem dd_J6_bitCount_0f7a4_38 : decode J6_bitCount_0f7a4.2.1 38 = .ok (.iushr, 1) := by decide +kernel
theorem dd_J6_bitCount_0f7a4_39 : decode J6_bitCount_0f7a4.2.1 39 = .ok (.iadd, 1) := by decide +kernel
theorem dd_J6_bitCount_0f7a4_40 : decode J6_bitCount_0f7a4.2.1 40 = .ok (.istore_n 0, 1) := by decide +kernel
theorem dd_J6_bitCount_0f7a4_41 : decode J6_bitCount_0f7a4.2.1 41 = .ok (.iload_n 0, 1) := by decide +kernel
theorem dd_J6_bitCount_0f7a4_42 : decode J6_bitCount_0f7a4.2.1 42 = .ok (.iload_n 0, 1) := by decide +kernel
theorem dd_J6_bitCount_0f7a4_43 : decode J6_bitCount_0f7a4.2.1 43 = .ok (.bipush 16, 2) := by decide +kernel
theorem dd_J6_bitCount_0f7a4_45 : decode J6_bitCount_0f7a4.2.1 45 = .ok (.iushr, 1) := by decide +kernel
theorem dd_J6_bitCount_0f7a4_46 : decode J6_bitCount_0f7a4.2.1 46 = .ok (.iadd, 1) := by decide +kernel
theorem dd_J6_bitCount_0f7a4_47 : decode J6_bitCount_0f7a4.2.1 47 = .ok (.istore_n 0, 1) := by decide +kernel
theorem dd_J6_bitCount_0f7a4_48 : decode J6_bitCount_0f7a4.2.1 48 = .ok (.iload_n 0, 1) := by decide +kernel
theorem dd_J6_bitCount_0f7a4_49 : decode J6_bitCount_0f7a4.2.1 49 = .ok (.bipush 63, 2) := by decide +kernel
theorem dd_J6_bitCount_0f7a4_51 : decode J6_bitCount_0f7a4.2.1 51 = .ok (.iand, 1) := by decide +kernel
theorem dd_J6_bitCount_0f7a4_52 : decode J6_bitCount_0f7a4.2.1 52 = .ok (.ireturn, 1) := by decide +kernel
theorem dd_J13_bitCount_95d88_0 : decode J13_bitCount_95d88.2.1 0 = .ok (.lload_n 0, 1) := by decide +kernel
theorem dd_J13_bitCount_95d88_1 : decode J13_bitCount_95d88.2.1 1 = .ok (.lload_n 0, 1) := by decide +kernel
theorem dd_J13_bitCount_95d88_2 : decode J13_bitCount_95d88.2.1 2 = .ok (.iconst 1, 1) := by decide +kernel
theorem dd_J13_bitCount_95d88_3 : decode J13_bitCount_95d88.2.1 3 = .ok (.lushr, 1) := by decide +kernel
theorem dd_J13_bitCount_95d88_4 : decode J13_bitCount_95d88.2.1 4 = .ok (.ldc2_w 314, 3) := by decide +kernel
theorem dd_J13_bitCount_95d88_7 : decode J13_bitCount_95d88.2.1 7 = .ok (.land, 1) := by decide +kernel
theorem dd_J13_bitCount_95d88_8 : decode J13_bitCount_95d88.2.1 8 = .ok (.lsub, 1) := by decide +kernel
theorem dd_J13_bitCount_95d88_9 : decode J13_bitCount_95d88.2.1 9 = .ok (.lstore_n 0, 1) := by decide +kernel
theorem dd_J13_bitCount_95d88_10 : decode J13_bitCount_95d88.2.1 10 = .ok (.lload_n 0, 1) := by decide +kernel
theorem dd_J13_bitCount_95d88_11 : decode J13_bitCount_95d88.2.1 11 = .ok (.ldc2_w 316, 3) := by decide +kernel
theorem dd_J13_bitCount_95d88_14 : decode J13_bitCount_95d88.2.1 14 = .ok (.land, 1) := by decide +kernel
theorem dd_J13_bitCount_95d88_15 : decode J13_bitCount_95d88.2.1 15 = .ok (.lload_n 0, 1) := by decide +kernel
theorem dd_J13_bitCount_95d88_16 : decode J13_bitCount_95d88.2.1 16 = .ok (.iconst 2, 1) := by decide +kernel
theorem dd_J13_bitCount_95d88_17 : decode J13_bitCount_95d88.2.1 17 = .ok (.lushr, 1) := by decide +kernel
theorem dd_J13_bitCount_95d88_18 : decode J13_bitCount_95d88.2.1 18 = .ok (.ldc2_w 316, 3) := by decide +kernel
theorem dd_J13_bitCount_95d88_21 : decode J13_bitCount_95d88.2.1 21 = .ok (.land, 1) := by decide +kernel
theorem dd_J13_bitCount_95d88_22 : decode J13_bitCount_95d88.2.1 22 = .ok (.ladd, 1) := by decide +kernel
theorem dd_J13_bitCount_95d88_23 : decode J13_bitCount_95d88.2.1 23 = .ok (.lstore_n 0, 1) := by decide +kernel
theorem dd_J13_bitCount_95d88_24 : decode J13_bitCount_95d88.2.1 24 = .ok (.lload_n 0, 1) := by decide +kernel
theorem dd_J13_bitCount_95d88_25 : decode J13_bitCount_95d88.2.1 25 = .ok (.lload_n 0, 1) := by decide +kernel
theorem dd_J13_bitCount_95d88_26 : decode J13_bitCount_95d88.2.1 26 = .ok (.iconst 4, 1) := by decide +kernel
theorem dd_J13_bitCount_95d88_27 : decode J13_bitCount_95d88.2.1 27 = .ok (.lushr, 1) := by decide +kernel
theorem dd_J13_bitCount_95d88_28 : decode J13_bitCount_95d88.2.1 28 = .ok (.ladd, 1) := by decide +kernel
theorem dd_J13_bitCount_95d88_29 : decode J13_bitCount_95d88.2.1 29 = .ok (.ldc2_w 318, 3) := by decide +kernel
theorem dd_J13_bitCount_95d88_32 : decode J13_bitCount_95d88.2.1 32 = .ok (.land, 1) := by decide +kernel
theorem dd_J13_bitCount_95d88_33 : decode J13_bitCount_95d88.2.1 33 = .ok (.lstore_n 0, 1) := by decide +kernel
theorem dd_J13_bitCount_95d88_34 : decode J13_bitCount_95d88.2.1 34 = .ok (.lload_n 0, 1) := by decide +kernel
theorem dd_J13_bitCount_95d88_35 : decode J13_bitCount_95d88.2.1 35 = .ok (.lload_n 0, 1) := by decide +kernel
theorem dd_J13_bitCount_95d88_36 : decode J13_bitCount_95d88.2.1 36 = .ok (.bipush 8, 2) := by decide +kernel
theorem dd_J13_bitCount_95d88_38 : decode J13_bitCount_95d88.2.1 38 = .ok (.lushr, 1) := by decide +kernel
theorem dd_J13_bitCount_95d88_39 : decode J13_bitCount_95d88.2.1 39 = .ok (.ladd, 1) := by decide +kernel
theorem dd_J13_bitCount_95d88_40 : decode J13_bitCount_95d88.2.1 40 = .ok (.lstore_n 0, 1) := by decide +kernel
theorem dd_J13_bitCount_95d88_41 : decode J13_bitCount_95d88.2.1 41 = .ok (.lload_n 0, 1) := by decide +kernel
theorem dd_J13_bitCount_95d88_42 : decode J13_bitCount_95d88.2.1 42 = .ok (.lload_n 0, 1) := by decide +kernel
theorem dd_J13_bitCount_95d88_43 : decode J13_bitCount_95d88.2.1 43 = .ok (.bipush 16, 2) := by decide +kernel
theorem dd_J13_bitCount_95d88_45 : decode J13_bitCount_95d88.2.1 45 = .ok (.lushr, 1) := by decide +kernel
theorem dd_J13_bitCount_95d88_46 : decode J13_bitCount_95d88.2.1 46 = .ok (.ladd, 1) := by decide +kernel
theorem dd_J13_bitCount_95d88_47 : decode J13_bitCount_95d88.2.1 47 = .ok (.lstore_n 0, 1) := by decide +kernel
theorem dd_J13_bitCount_95d88_48 : decode J13_bitCount_95d88.2.1 48 = .ok (.lload_n 0, 1) := by decide +kernel
theorem dd_J13_bitCount_95d88_49 : decode J13_bitCount_95d88.2.1 49 = .ok (.lload_n 0, 1) := by decide +kernel
theorem dd_J13_bitCount_95d88_50 : decode J13_bitCount_95d88.2.1 50 = .ok (.bipush 32, 2) := by decide +kernel
theorem dd_J13_bitCount_95d88_52 : decode J13_bitCount_95d88.2.1 52 = .ok (.lushr, 1) := by decide +kernel
theorem dd_J13_bitCount_95d88_53 : decode J13_bitCount_95d88.2.1 53 = .ok (.ladd, 1) := by decide +kernel
theorem dd_J13_bitCount_95d88_54 : decode J13_bitCount_95d88.2.1 54 = .ok (.lstore_n 0, 1) := by decide +kernel
theorem dd_J13_bitCount_95d88_55 : decode J13_bitCount_95d88.2.1 55 = .ok (.lload_n 0, 1) := by decide +kernel
theorem dd_J13_bitCount_95d88_56 : decode J13_bitCount_95d88.2.1 56 = .ok (.l2i, 1) := by decide +kernel
theorem dd_J13_bitCount_95d88_57 : decode J13_bitCount_95d88.2.1 57 = .ok (.bipush 127, 2) := by decide +kernel
theorem dd_J13_bitCount_95d88_59 : decode J13_bitCount_95d88.2.1 59 = .ok (.iand, 1) := by decide +kernel
theorem dd_J13_bitCount_95d88_60 : decode J13_bitCount_95d88.2.1 60 = .ok (.ireturn, 1) := by decide +kernel
theorem dd_J0_length_8abf5_0 : decode J0_length_8abf5.2.1 0 = .ok (.aload_n 0, 1) := by decide +kernel
theorem dd_J0_length_8abf5_1 : decode J0_length_8abf5.2.1 1 = .ok (.getfield 9, 3) := by decide +kernel
theorem dd_J0_length_8abf5_4 : decode J0_length_8abf5.2.1 4 = .ok (.arraylength, 1) := by decide +kernel
theorem dd_J0_length_8abf5_5 : decode J0_length_8abf5.2.1 5 = .ok (.aload_n 0, 1) := by decide +kernel
theorem dd_J0_length_8abf5_6 : decode J0_length_8abf5.2.1 6 = .ok (.invokevirtual 335, 3) := by decide +kernel
theorem dd_J0_length_8abf5_9 : decode J0_length_8abf5.2.1 9 = .ok (.ishr, 1) := by decide +kernel
theorem dd_J0_length_8abf5_10 : decode J0_length_8abf5.2.1 10 = .ok (.ireturn, 1) := by decide +kernel
theorem dd_J0_charAt_5068e_0 : decode J0_charAt_5068e.2.1 0 = .ok (.aload_n 0, 1) := by decide +kernel
theorem dd_J0_charAt_5068e_1 : decode J0_charAt_5068e.2.1 1 = .ok (.invokevirtual 492, 3) := by decide +kernel
theorem dd_J0_charAt_5068e_4 : decode J0_charAt_5068e.2.1 4 = .ok (.ifCond .eq 12, 3) := by decide +kernel
theorem dd_J0_charAt_5068e_7 : decode J0_charAt_5068e.2.1 7 = .ok (.aload_n 0, 1) := by decide +kernel
theorem dd_J0_charAt_5068e_8 : decode J0_charAt_5068e.2.1 8 = .ok (.getfield 9, 3) := by decide +kernel
theorem dd_J0_charAt_5068e_11 : decode J0_charAt_5068e.2.1 11 = .ok (.iload_n 1, 1) := by decide +kernel
theorem dd_J0_charAt_5068e_12 : decode J0_charAt_5068e.2.1 12 = .ok (.invokestatic 495, 3) := by decide +kernel
theorem dd_J0_charAt_5068e_15 : decode J0_charAt_5068e.2.1 15 = .ok (.ireturn, 1) := by decide +kernel
theorem dd_J0_charAt_5068e_16 : decode J0_charAt_5068e.2.1 16 = .ok (.aload_n 0, 1) := by decide +kernel
theorem dd_J0_charAt_5068e_17 : decode J0_charAt_5068e.2.1 17 = .ok (.getfield 9, 3) := by decide +kernel
theorem dd_J0_charAt_5068e_20 : decode J0_charAt_5068e.2.1 20 = .ok (.iload_n 1, 1) := by decide +kernel
theorem dd_J0_charAt_5068e_21 : decode J0_charAt_5068e.2.1 21 = .ok (.invokestatic 498, 3) := by decide +kernel
theorem dd_J0_charAt_5068e_24 : decode J0_charAt_5068e.2.1 24 = .ok (.ireturn, 1) := by decide +kernel
theorem dd_J0_coder_7d493_0 : decode J0_coder_7d493.2.1 0 = .ok (.getstatic 38, 3) := by decide +kernel
theorem dd_J0_coder_7d493_3 : decode J0_coder_7d493.2.1 3 = .ok (.ifCond .eq 10, 3) := by decide +kernel
theorem dd_J0_coder_7d493_6 : decode J0_coder_7d493.2.1 6 = .ok (.aload_n 0, 1) := by decide +kernel
theorem dd_J0_coder_7d493_7 : decode J0_coder_7d493.2.1 7 = .ok (.getfield 15, 3) := by decide +kernel
theorem dd_J0_coder_7d493_10 : decode J0_coder_7d493.2.1 10 = .ok (.goto 4, 3) := by decide +kernel
theorem dd_J0_coder_7d493_13 : decode J0_coder_7d493.2.1 13 = .ok (.iconst 1, 1) := by decide +kernel
theorem dd_J0_coder_7d493_14 : decode J0_coder_7d493.2.1 14 = .ok (.ireturn, 1) := by decide +kernel
theorem dd_J0_isLatin1_aae02_0 : decode J0_isLatin1_aae02.2.1 0 = .ok (.getstatic 38, 3) := by decide +kernel
theorem dd_J0_isLatin1_aae02_3 : decode J0_isLatin1_aae02.2.1 3 = .ok (.ifCond .eq 14, 3) := by decide +kernel
theorem dd_J0_isLatin1_aae02_6 : decode J0_isLatin1_aae02.2.1 6 = .ok (.aload_n 0, 1) := by decide +kernel
theorem dd_J0_isLatin1_aae02_7 : decode J0_isLatin1_aae02.2.1 7 = .ok (.getfield 15, 3) := by decide +kernel
theorem dd_J0_isLatin1_aae02_10 : decode J0_isLatin1_aae02.2.1 10 = .ok (.ifCond .ne 7, 3) := by decide +kernel
theorem dd_J0_isLatin1_aae02_13 : decode J0_isLatin1_aae02.2.1 13 = .ok (.iconst 1, 1) := by decide +kernel
theorem dd_J0_isLatin1_aae02_14 : decode J0_isLatin1_aae02.2.1 14 = .ok (.goto 4, 3) := by decide +kernel
theorem dd_J0_isLatin1_aae02_17 : decode J0_isLatin1_aae02.2.1 17 = .ok (.iconst 0, 1) := by decide +kernel
theorem dd_J0_isLatin1_aae02_18 : decode J0_isLatin1_aae02.2.1 18 = .ok (.ireturn, 1) := by decide +kernel
theorem dd_J0_checkIndex_df160_0 : decode J0_checkIndex_df160.2.1 0 = .ok (.iload_n 0, 1) := by decide +kernel
theorem dd_J0_checkIndex_df160_1 : decode J0_checkIndex_df160.2.1 1 = .ok (.iload_n 1, 1) := by decide +kernel
theorem dd_J0_checkIndex_df160_2 : decode J0_checkIndex_df160.2.1 2 = .ok (.getstatic 1053, 3) := by decide +kernel
theorem dd_J0_checkIndex_df160_5 : decode J0_checkIndex_df160.2.1 5 = .ok (.invokestatic 1059, 3) := by decide +kernel
theorem dd_J0_checkIndex_df160_8 : decode J0_checkIndex_df160.2.1 8 = .ok (.pop, 1) := by decide +kernel
theorem dd_J0_checkIndex_df160_9 : decode J0_checkIndex_df160.2.1 9 = .ok (.return_, 1) := by decide +kernel
theorem dd_J1_charAt_3b067_0 : decode J1_charAt_3b067.2.1 0 = .ok (.iload_n 1, 1) := by decide +kernel
theorem dd_J1_charAt_3b067_1 : decode J1_charAt_3b067.2.1 1 = .ok (.aload_n 0, 1) := by decide +kernel
theorem dd_J1_charAt_3b067_2 : decode J1_charAt_3b067.2.1 2 = .ok (.arraylength, 1) := by decide +kernel
theorem dd_J1_charAt_3b067_3 : decode J1_charAt_3b067.2.1 3 = .ok (.invokestatic 9, 3) := by decide +kernel
theorem dd_J1_charAt_3b067_6 : decode J1_charAt_3b067.2.1 6 = .ok (.aload_n 0, 1) := by decide +kernel
theorem dd_J1_charAt_3b067_7 : decode J1_charAt_3b067.2.1 7 = .ok (.iload_n 1, 1) := by decide +kernel
theorem dd_J1_charAt_3b067_8 : decode J1_charAt_3b067.2.1 8 = .ok (.baload, 1) := by decide +kernel
theorem dd_J1_charAt_3b067_9 : decode J1_charAt_3b067.2.1 9 = .ok (.sipush 255, 3) := by decide +kernel
theorem dd_J1_charAt_3b067_12 : decode J1_charAt_3b067.2.1 12 = .ok (.iand, 1) := by decide +kernel
theorem dd_J1_charAt_3b067_13 : decode J1_charAt_3b067.2.1 13 = .ok (.i2c, 1) := by decide +kernel
theorem dd_J1_charAt_3b067_14 : decode J1_charAt_3b067.2.1 14 = .ok (.ireturn, 1) := by decide +kernel
theorem dd_J3_checkIndex_8e157_0 : decode J3_checkIndex_8e157.2.1 0 = .ok (.iload_n 0, 1) := by decide +kernel
theorem dd_J3_checkIndex_8e157_1 : decode J3_checkIndex_8e157.2.1 1 = .ok (.ifCond .lt 8, 3) := by decide +kernel
theorem dd_J3_checkIndex_8e157_4 : decode J3_checkIndex_8e157.2.1 4 = .ok (.iload_n 0, 1) := by decide +kernel
theorem dd_J3_checkIndex_8e157_5 : decode J3_checkIndex_8e157.2.1 5 = .ok (.iload_n 1, 1) := by decide +kernel
theorem dd_J3_checkIndex_8e157_6 : decode J3_checkIndex_8e157.2.1 6 = .ok (.if_icmp .lt 10, 3) := by decide +kernel
theorem dd_J3_checkIndex_8e157_9 : decode J3_checkIndex_8e157.2.1 9 = .ok (.aload_n 2, 1) := by decide +kernel
theorem dd_J3_checkIndex_8e157_10 : decode J3_checkIndex_8e157.2.1 10 = .ok (.iload_n 0, 1) := by decide +kernel
theorem dd_J3_checkIndex_8e157_11 : decode J3_checkIndex_8e157.2.1 11 = .ok (.iload_n 1, 1) := by decide +kernel
theorem dd_J3_checkIndex_8e157_12 : decode J3_checkIndex_8e157.2.1 12 = .ok (.invokestatic 95, 3) := by decide +kernel
theorem dd_J3_checkIndex_8e157_15 : decode J3_checkIndex_8e157.2.1 15 = .ok (.athrow, 1) := by decide +kernel
theorem dd_J3_checkIndex_8e157_16 : decode J3_checkIndex_8e157.2.1 16 = .ok (.iload_n 0, 1) := by decide +kernel
theorem dd_J3_checkIndex_8e157_17 : decode J3_checkIndex_8e157.2.1 17 = .ok (.ireturn, 1) := by decide +kernel
