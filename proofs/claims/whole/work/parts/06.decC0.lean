/-! DECODE ROWS, by program. -/
theorem dd_X0_beginAnew_0 : decode X0_beginAnew.2.1 0 = .ok (.aload_n 0, 1) := by decide +kernel
theorem dd_X0_beginAnew_1 : decode X0_beginAnew.2.1 1 = .ok (.iload_n 1, 1) := by decide +kernel
theorem dd_X0_beginAnew_2 : decode X0_beginAnew.2.1 2 = .ok (.putfield 26, 3) := by decide +kernel
theorem dd_X0_beginAnew_5 : decode X0_beginAnew.2.1 5 = .ok (.aload_n 0, 1) := by decide +kernel
theorem dd_X0_beginAnew_6 : decode X0_beginAnew.2.1 6 = .ok (.iconst 2, 1) := by decide +kernel
theorem dd_X0_beginAnew_7 : decode X0_beginAnew.2.1 7 = .ok (.putfield 30, 3) := by decide +kernel
theorem dd_X0_beginAnew_10 : decode X0_beginAnew.2.1 10 = .ok (.aload_n 0, 1) := by decide +kernel
theorem dd_X0_beginAnew_11 : decode X0_beginAnew.2.1 11 = .ok (.bipush 20, 2) := by decide +kernel
theorem dd_X0_beginAnew_13 : decode X0_beginAnew.2.1 13 = .ok (.putfield 33, 3) := by decide +kernel
theorem dd_X0_beginAnew_16 : decode X0_beginAnew.2.1 16 = .ok (.aload_n 0, 1) := by decide +kernel
theorem dd_X0_beginAnew_17 : decode X0_beginAnew.2.1 17 = .ok (.iconst 0, 1) := by decide +kernel
theorem dd_X0_beginAnew_18 : decode X0_beginAnew.2.1 18 = .ok (.putfield 36, 3) := by decide +kernel
theorem dd_X0_beginAnew_21 : decode X0_beginAnew.2.1 21 = .ok (.aload_n 0, 1) := by decide +kernel
theorem dd_X0_beginAnew_22 : decode X0_beginAnew.2.1 22 = .ok (.getfield 18, 3) := by decide +kernel
theorem dd_X0_beginAnew_25 : decode X0_beginAnew.2.1 25 = .ok (.iconst 0, 1) := by decide +kernel
theorem dd_X0_beginAnew_26 : decode X0_beginAnew.2.1 26 = .ok (.putfield 39, 3) := by decide +kernel
theorem dd_X0_beginAnew_29 : decode X0_beginAnew.2.1 29 = .ok (.return_, 1) := by decide +kernel
theorem dd_X0_become_0 : decode X0_become.2.1 0 = .ok (.aload_n 0, 1) := by decide +kernel
theorem dd_X0_become_1 : decode X0_become.2.1 1 = .ok (.aload_n 1, 1) := by decide +kernel
theorem dd_X0_become_2 : decode X0_become.2.1 2 = .ok (.getfield 26, 3) := by decide +kernel
theorem dd_X0_become_5 : decode X0_become.2.1 5 = .ok (.putfield 26, 3) := by decide +kernel
theorem dd_X0_become_8 : decode X0_become.2.1 8 = .ok (.aload_n 0, 1) := by decide +kernel
theorem dd_X0_become_9 : decode X0_become.2.1 9 = .ok (.aload_n 1, 1) := by decide +kernel
theorem dd_X0_become_10 : decode X0_become.2.1 10 = .ok (.getfield 30, 3) := by decide +kernel
theorem dd_X0_become_13 : decode X0_become.2.1 13 = .ok (.putfield 30, 3) := by decide +kernel
theorem dd_X0_become_16 : decode X0_become.2.1 16 = .ok (.aload_n 0, 1) := by decide +kernel
theorem dd_X0_become_17 : decode X0_become.2.1 17 = .ok (.aload_n 1, 1) := by decide +kernel
theorem dd_X0_become_18 : decode X0_become.2.1 18 = .ok (.getfield 33, 3) := by decide +kernel
theorem dd_X0_become_21 : decode X0_become.2.1 21 = .ok (.putfield 33, 3) := by decide +kernel
theorem dd_X0_become_24 : decode X0_become.2.1 24 = .ok (.aload_n 0, 1) := by decide +kernel
theorem dd_X0_become_25 : decode X0_become.2.1 25 = .ok (.aload_n 1, 1) := by decide +kernel
theorem dd_X0_become_26 : decode X0_become.2.1 26 = .ok (.getfield 36, 3) := by decide +kernel
theorem dd_X0_become_29 : decode X0_become.2.1 29 = .ok (.putfield 36, 3) := by decide +kernel
theorem dd_X0_become_32 : decode X0_become.2.1 32 = .ok (.aload_n 1, 1) := by decide +kernel
theorem dd_X0_become_33 : decode X0_become.2.1 33 = .ok (.getfield 9, 3) := by decide +kernel
theorem dd_X0_become_36 : decode X0_become.2.1 36 = .ok (.iconst 0, 1) := by decide +kernel
theorem dd_X0_become_37 : decode X0_become.2.1 37 = .ok (.aload_n 0, 1) := by decide +kernel
theorem dd_X0_become_38 : decode X0_become.2.1 38 = .ok (.getfield 9, 3) := by decide +kernel
theorem dd_X0_become_41 : decode X0_become.2.1 41 = .ok (.iconst 0, 1) := by decide +kernel
theorem dd_X0_become_42 : decode X0_become.2.1 42 = .ok (.bipush 8, 2) := by decide +kernel
theorem dd_X0_become_44 : decode X0_become.2.1 44 = .ok (.invokestatic 40, 3) := by decide +kernel
theorem dd_X0_become_47 : decode X0_become.2.1 47 = .ok (.aload_n 0, 1) := by decide +kernel
theorem dd_X0_become_48 : decode X0_become.2.1 48 = .ok (.getfield 18, 3) := by decide +kernel
theorem dd_X0_become_51 : decode X0_become.2.1 51 = .ok (.aload_n 1, 1) := by decide +kernel
theorem dd_X0_become_52 : decode X0_become.2.1 52 = .ok (.getfield 18, 3) := by decide +kernel
theorem dd_X0_become_55 : decode X0_become.2.1 55 = .ok (.invokevirtual 46, 3) := by decide +kernel
theorem dd_X0_become_58 : decode X0_become.2.1 58 = .ok (.return_, 1) := by decide +kernel
theorem dd_X0_hasRhythm_0 : decode X0_hasRhythm.2.1 0 = .ok (.iload_n 1, 1) := by decide +kernel
theorem dd_X0_hasRhythm_1 : decode X0_hasRhythm.2.1 1 = .ok (.ifCond .lt 15, 3) := by decide +kernel
theorem dd_X0_hasRhythm_4 : decode X0_hasRhythm.2.1 4 = .ok (.iload_n 1, 1) := by decide +kernel
theorem dd_X0_hasRhythm_5 : decode X0_hasRhythm.2.1 5 = .ok (.aload_n 0, 1) := by decide +kernel
theorem dd_X0_hasRhythm_6 : decode X0_hasRhythm.2.1 6 = .ok (.getfield 36, 3) := by decide +kernel
theorem dd_X0_hasRhythm_9 : decode X0_hasRhythm.2.1 9 = .ok (.if_icmp .ge 7, 3) := by decide +kernel
theorem dd_X0_hasRhythm_12 : decode X0_hasRhythm.2.1 12 = .ok (.iconst 1, 1) := by decide +kernel
theorem dd_X0_hasRhythm_13 : decode X0_hasRhythm.2.1 13 = .ok (.goto 4, 3) := by decide +kernel
theorem dd_X0_hasRhythm_16 : decode X0_hasRhythm.2.1 16 = .ok (.iconst 0, 1) := by decide +kernel
theorem dd_X0_hasRhythm_17 : decode X0_hasRhythm.2.1 17 = .ok (.ireturn, 1) := by decide +kernel
theorem dd_X0_addRhythm_0 : decode X0_addRhythm.2.1 0 = .ok (.aload_n 0, 1) := by decide +kernel
theorem dd_X0_addRhythm_1 : decode X0_addRhythm.2.1 1 = .ok (.getfield 36, 3) := by decide +kernel
theorem dd_X0_addRhythm_4 : decode X0_addRhythm.2.1 4 = .ok (.bipush 8, 2) := by decide +kernel
theorem dd_X0_addRhythm_6 : decode X0_addRhythm.2.1 6 = .ok (.if_icmp .ge 23, 3) := by decide +kernel
theorem dd_X0_addRhythm_9 : decode X0_addRhythm.2.1 9 = .ok (.aload_n 0, 1) := by decide +kernel
theorem dd_X0_addRhythm_10 : decode X0_addRhythm.2.1 10 = .ok (.getfield 9, 3) := by decide +kernel
theorem dd_X0_addRhythm_13 : decode X0_addRhythm.2.1 13 = .ok (.aload_n 0, 1) := by decide +kernel
theorem dd_X0_addRhythm_14 : decode X0_addRhythm.2.1 14 = .ok (.getfield 36, 3) := by decide +kernel
theorem dd_X0_addRhythm_17 : decode X0_addRhythm.2.1 17 = .ok (.iload_n 1, 1) := by decide +kernel
theorem dd_X0_addRhythm_18 : decode X0_addRhythm.2.1 18 = .ok (.iastore, 1) := by decide +kernel
theorem dd_X0_addRhythm_19 : decode X0_addRhythm.2.1 19 = .ok (.aload_n 0, 1) := by decide +kernel
theorem dd_X0_addRhythm_20 : decode X0_addRhythm.2.1 20 = .ok (.dup, 1) := by decide +kernel
theorem dd_X0_addRhythm_21 : decode X0_addRhythm.2.1 21 = .ok (.getfield 36, 3) := by decide +kernel
theorem dd_X0_addRhythm_24 : decode X0_addRhythm.2.1 24 = .ok (.iconst 1, 1) := by decide +kernel
theorem dd_X0_addRhythm_25 : decode X0_addRhythm.2.1 25 = .ok (.iadd, 1) := by decide +kernel
theorem dd_X0_addRhythm_26 : decode X0_addRhythm.2.1 26 = .ok (.putfield 36, 3) := by decide +kernel
theorem dd_X0_addRhythm_29 : decode X0_addRhythm.2.1 29 = .ok (.return_, 1) := by decide +kernel
theorem dd_X0_hasFlash_0 : decode X0_hasFlash.2.1 0 = .ok (.aload_n 0, 1) := by decide +kernel
theorem dd_X0_hasFlash_1 : decode X0_hasFlash.2.1 1 = .ok (.iload_n 1, 1) := by decide +kernel
theorem dd_X0_hasFlash_2 : decode X0_hasFlash.2.1 2 = .ok (.invokevirtual 50, 3) := by decide +kernel
theorem dd_X0_hasFlash_5 : decode X0_hasFlash.2.1 5 = .ok (.ifCond .eq 28, 3) := by decide +kernel
theorem dd_X0_hasFlash_8 : decode X0_hasFlash.2.1 8 = .ok (.aload_n 0, 1) := by decide +kernel
theorem dd_X0_hasFlash_9 : decode X0_hasFlash.2.1 9 = .ok (.getfield 9, 3) := by decide +kernel
theorem dd_X0_hasFlash_12 : decode X0_hasFlash.2.1 12 = .ok (.iload_n 1, 1) := by decide +kernel
theorem dd_X0_hasFlash_13 : decode X0_hasFlash.2.1 13 = .ok (.iaload, 1) := by decide +kernel
theorem dd_X0_hasFlash_14 : decode X0_hasFlash.2.1 14 = .ok (.aload_n 0, 1) := by decide +kernel
theorem dd_X0_hasFlash_15 : decode X0_hasFlash.2.1 15 = .ok (.getfield 26, 3) := by decide +kernel
theorem dd_X0_hasFlash_18 : decode X0_hasFlash.2.1 18 = .ok (.iconst 1, 1) := by decide +kernel
theorem dd_X0_hasFlash_19 : decode X0_hasFlash.2.1 19 = .ok (.isub, 1) := by decide +kernel
theorem dd_X0_hasFlash_20 : decode X0_hasFlash.2.1 20 = .ok (.iload_n 2, 1) := by decide +kernel
theorem dd_X0_hasFlash_21 : decode X0_hasFlash.2.1 21 = .ok (.isub, 1) := by decide +kernel
theorem dd_X0_hasFlash_22 : decode X0_hasFlash.2.1 22 = .ok (.ishr, 1) := by decide +kernel
theorem dd_X0_hasFlash_23 : decode X0_hasFlash.2.1 23 = .ok (.iconst 1, 1) := by decide +kernel
theorem dd_X0_hasFlash_24 : decode X0_hasFlash.2.1 24 = .ok (.iand, 1) := by decide +kernel
theorem dd_X0_hasFlash_25 : decode X0_hasFlash.2.1 25 = .ok (.iconst 1, 1) := by decide +kernel
theorem dd_X0_hasFlash_26 : decode X0_hasFlash.2.1 26 = .ok (.if_icmp .ne 7, 3) := by decide +kernel
theorem dd_X0_hasFlash_29 : decode X0_hasFlash.2.1 29 = .ok (.iconst 1, 1) := by decide +kernel
theorem dd_X0_hasFlash_30 : decode X0_hasFlash.2.1 30 = .ok (.goto 4, 3) := by decide +kernel
theorem dd_X0_hasFlash_33 : decode X0_hasFlash.2.1 33 = .ok (.iconst 0, 1) := by decide +kernel
theorem dd_X0_hasFlash_34 : decode X0_hasFlash.2.1 34 = .ok (.ireturn, 1) := by decide +kernel
theorem dd_X0_turned_0 : decode X0_turned.2.1 0 = .ok (.aload_n 0, 1) := by decide +kernel
theorem dd_X0_turned_1 : decode X0_turned.2.1 1 = .ok (.getfield 9, 3) := by decide +kernel
theorem dd_X0_turned_4 : decode X0_turned.2.1 4 = .ok (.iload_n 1, 1) := by decide +kernel
theorem dd_X0_turned_5 : decode X0_turned.2.1 5 = .ok (.iaload, 1) := by decide +kernel
theorem dd_X0_turned_6 : decode X0_turned.2.1 6 = .ok (.istore_n 3, 1) := by decide +kernel
theorem dd_X0_turned_7 : decode X0_turned.2.1 7 = .ok (.iconst 1, 1) := by decide +kernel
theorem dd_X0_turned_8 : decode X0_turned.2.1 8 = .ok (.aload_n 0, 1) := by decide +kernel
theorem dd_X0_turned_9 : decode X0_turned.2.1 9 = .ok (.getfield 26, 3) := by decide +kernel
theorem dd_X0_turned_12 : decode X0_turned.2.1 12 = .ok (.ishl, 1) := by decide +kernel
theorem dd_X0_turned_13 : decode X0_turned.2.1 13 = .ok (.iconst 1, 1) := by decide +kernel
theorem dd_X0_turned_14 : decode X0_turned.2.1 14 = .ok (.isub, 1) := by decide +kernel
theorem dd_X0_turned_15 : decode X0_turned.2.1 15 = .ok (.istore 4, 2) := by decide +kernel
theorem dd_X0_turned_17 : decode X0_turned.2.1 17 = .ok (.iload_n 3, 1) := by decide +kernel
theorem dd_X0_turned_18 : decode X0_turned.2.1 18 = .ok (.iload_n 2, 1) := by decide +kernel
theorem dd_X0_turned_19 : decode X0_turned.2.1 19 = .ok (.ishl, 1) := by decide +kernel
theorem dd_X0_turned_20 : decode X0_turned.2.1 20 = .ok (.iload_n 3, 1) := by decide +kernel
theorem dd_X0_turned_21 : decode X0_turned.2.1 21 = .ok (.aload_n 0, 1) := by decide +kernel
theorem dd_X0_turned_22 : decode X0_turned.2.1 22 = .ok (.getfield 26, 3) := by decide +kernel
theorem dd_X0_turned_25 : decode X0_turned.2.1 25 = .ok (.iload_n 2, 1) := by decide +kernel
theorem dd_X0_turned_26 : decode X0_turned.2.1 26 = .ok (.isub, 1) := by decide +kernel
theorem dd_X0_turned_27 : decode X0_turned.2.1 27 = .ok (.ishr, 1) := by decide +kernel
theorem dd_X0_turned_28 : decode X0_turned.2.1 28 = .ok (.ior, 1) := by decide +kernel
theorem dd_X0_turned_29 : decode X0_turned.2.1 29 = .ok (.iload 4, 2) := by decide +kernel
theorem dd_X0_turned_31 : decode X0_turned.2.1 31 = .ok (.iand, 1) := by decide +kernel
theorem dd_X0_turned_32 : decode X0_turned.2.1 32 = .ok (.ireturn, 1) := by decide +kernel
theorem dd_X0_turnsToLeast_0 : decode X0_turnsToLeast.2.1 0 = .ok (.iconst 0, 1) := by decide +kernel
theorem dd_X0_turnsToLeast_1 : decode X0_turnsToLeast.2.1 1 = .ok (.istore_n 2, 1) := by decide +kernel
theorem dd_X0_turnsToLeast_2 : decode X0_turnsToLeast.2.1 2 = .ok (.iconst 1, 1) := by decide +kernel
theorem dd_X0_turnsToLeast_3 : decode X0_turnsToLeast.2.1 3 = .ok (.istore_n 3, 1) := by decide +kernel
theorem dd_X0_turnsToLeast_4 : decode X0_turnsToLeast.2.1 4 = .ok (.iload_n 3, 1) := by decide +kernel
theorem dd_X0_turnsToLeast_5 : decode X0_turnsToLeast.2.1 5 = .ok (.aload_n 0, 1) := by decide +kernel
theorem dd_X0_turnsToLeast_6 : decode X0_turnsToLeast.2.1 6 = .ok (.getfield 26, 3) := by decide +kernel
theorem dd_X0_turnsToLeast_9 : decode X0_turnsToLeast.2.1 9 = .ok (.if_icmp .ge 26, 3) := by decide +kernel
theorem dd_X0_turnsToLeast_12 : decode X0_turnsToLeast.2.1 12 = .ok (.aload_n 0, 1) := by decide +kernel
theorem dd_X0_turnsToLeast_13 : decode X0_turnsToLeast.2.1 13 = .ok (.iload_n 1, 1) := by decide +kernel
theorem dd_X0_turnsToLeast_14 : decode X0_turnsToLeast.2.1 14 = .ok (.iload_n 3, 1) := by decide +kernel
theorem dd_X0_turnsToLeast_15 : decode X0_turnsToLeast.2.1 15 = .ok (.invokevirtual 54, 3) := by decide +kernel
theorem dd_X0_turnsToLeast_18 : decode X0_turnsToLeast.2.1 18 = .ok (.aload_n 0, 1) := by decide +kernel
theorem dd_X0_turnsToLeast_19 : decode X0_turnsToLeast.2.1 19 = .ok (.iload_n 1, 1) := by decide +kernel
theorem dd_X0_turnsToLeast_20 : decode X0_turnsToLeast.2.1 20 = .ok (.iload_n 2, 1) := by decide +kernel
theorem dd_X0_turnsToLeast_21 : decode X0_turnsToLeast.2.1 21 = .ok (.invokevirtual 54, 3) := by decide +kernel
theorem dd_X0_turnsToLeast_24 : decode X0_turnsToLeast.2.1 24 = .ok (.if_icmp .ge 5, 3) := by decide +kernel
theorem dd_X0_turnsToLeast_27 : decode X0_turnsToLeast.2.1 27 = .ok (.iload_n 3, 1) := by decide +kernel
theorem dd_X0_turnsToLeast_28 : decode X0_turnsToLeast.2.1 28 = .ok (.istore_n 2, 1) := by decide +kernel
theorem dd_X0_turnsToLeast_29 : decode X0_turnsToLeast.2.1 29 = .ok (.iinc 3 1, 3) := by decide +kernel
theorem dd_X0_turnsToLeast_32 : decode X0_turnsToLeast.2.1 32 = .ok (.goto (-28), 3) := by decide +kernel
theorem dd_X0_turnsToLeast_35 : decode X0_turnsToLeast.2.1 35 = .ok (.iload_n 2, 1) := by decide +kernel
theorem dd_X0_turnsToLeast_36 : decode X0_turnsToLeast.2.1 36 = .ok (.ireturn, 1) := by decide +kernel
theorem dd_X0_repeats_0 : decode X0_repeats.2.1 0 = .ok (.iconst 1, 1) := by decide +kernel
theorem dd_X0_repeats_1 : decode X0_repeats.2.1 1 = .ok (.istore_n 2, 1) := by decide +kernel
theorem dd_X0_repeats_2 : decode X0_repeats.2.1 2 = .ok (.iload_n 2, 1) := by decide +kernel
theorem dd_X0_repeats_3 : decode X0_repeats.2.1 3 = .ok (.aload_n 0, 1) := by decide +kernel
theorem dd_X0_repeats_4 : decode X0_repeats.2.1 4 = .ok (.getfield 26, 3) := by decide +kernel
theorem dd_X0_repeats_7 : decode X0_repeats.2.1 7 = .ok (.if_icmp .ge 26, 3) := by decide +kernel
theorem dd_X0_repeats_10 : decode X0_repeats.2.1 10 = .ok (.aload_n 0, 1) := by decide +kernel
theorem dd_X0_repeats_11 : decode X0_repeats.2.1 11 = .ok (.iload_n 1, 1) := by decide +kernel
theorem dd_X0_repeats_12 : decode X0_repeats.2.1 12 = .ok (.iload_n 2, 1) := by decide +kernel
theorem dd_X0_repeats_13 : decode X0_repeats.2.1 13 = .ok (.invokevirtual 54, 3) := by decide +kernel
theorem dd_X0_repeats_16 : decode X0_repeats.2.1 16 = .ok (.aload_n 0, 1) := by decide +kernel
theorem dd_X0_repeats_17 : decode X0_repeats.2.1 17 = .ok (.getfield 9, 3) := by decide +kernel
theorem dd_X0_repeats_20 : decode X0_repeats.2.1 20 = .ok (.iload_n 1, 1) := by decide +kernel
theorem dd_X0_repeats_21 : decode X0_repeats.2.1 21 = .ok (.iaload, 1) := by decide +kernel
theorem dd_X0_repeats_22 : decode X0_repeats.2.1 22 = .ok (.if_icmp .ne 5, 3) := by decide +kernel
theorem dd_X0_repeats_25 : decode X0_repeats.2.1 25 = .ok (.iload_n 2, 1) := by decide +kernel
theorem dd_X0_repeats_26 : decode X0_repeats.2.1 26 = .ok (.ireturn, 1) := by decide +kernel
theorem dd_X0_repeats_27 : decode X0_repeats.2.1 27 = .ok (.iinc 2 1, 3) := by decide +kernel
theorem dd_X0_repeats_30 : decode X0_repeats.2.1 30 = .ok (.goto (-28), 3) := by decide +kernel
theorem dd_X0_repeats_33 : decode X0_repeats.2.1 33 = .ok (.aload_n 0, 1) := by decide +kernel
theorem dd_X0_repeats_34 : decode X0_repeats.2.1 34 = .ok (.getfield 26, 3) := by decide +kernel
theorem dd_X0_repeats_37 : decode X0_repeats.2.1 37 = .ok (.ireturn, 1) := by decide +kernel
theorem dd_X0_areSuch_0 : decode X0_areSuch.2.1 0 = .ok (.aload_n 0, 1) := by decide +kernel
theorem dd_X0_areSuch_1 : decode X0_areSuch.2.1 1 = .ok (.iload_n 1, 1) := by decide +kernel
theorem dd_X0_areSuch_2 : decode X0_areSuch.2.1 2 = .ok (.invokevirtual 50, 3) := by decide +kernel
theorem dd_X0_areSuch_5 : decode X0_areSuch.2.1 5 = .ok (.ifCond .eq 29, 3) := by decide +kernel
theorem dd_X0_areSuch_8 : decode X0_areSuch.2.1 8 = .ok (.aload_n 0, 1) := by decide +kernel
theorem dd_X0_areSuch_9 : decode X0_areSuch.2.1 9 = .ok (.iload_n 2, 1) := by decide +kernel
theorem dd_X0_areSuch_10 : decode X0_areSuch.2.1 10 = .ok (.invokevirtual 50, 3) := by decide +kernel
theorem dd_X0_areSuch_13 : decode X0_areSuch.2.1 13 = .ok (.ifCond .eq 21, 3) := by decide +kernel
theorem dd_X0_areSuch_16 : decode X0_areSuch.2.1 16 = .ok (.aload_n 0, 1) := by decide +kernel
theorem dd_X0_areSuch_17 : decode X0_areSuch.2.1 17 = .ok (.iload_n 1, 1) := by decide +kernel
theorem dd_X0_areSuch_18 : decode X0_areSuch.2.1 18 = .ok (.iload_n 2, 1) := by decide +kernel
theorem dd_X0_areSuch_19 : decode X0_areSuch.2.1 19 = .ok (.aload_n 0, 1) := by decide +kernel
theorem dd_X0_areSuch_20 : decode X0_areSuch.2.1 20 = .ok (.getfield 30, 3) := by decide +kernel
theorem dd_X0_areSuch_23 : decode X0_areSuch.2.1 23 = .ok (.iload_n 3, 1) := by decide +kernel
theorem dd_X0_areSuch_24 : decode X0_areSuch.2.1 24 = .ok (.invokevirtual 58, 3) := by decide +kernel
theorem dd_X0_areSuch_27 : decode X0_areSuch.2.1 27 = .ok (.ifCond .eq 7, 3) := by decide +kernel
theorem dd_X0_areSuch_30 : decode X0_areSuch.2.1 30 = .ok (.iconst 1, 1) := by decide +kernel
theorem dd_X0_areSuch_31 : decode X0_areSuch.2.1 31 = .ok (.goto 4, 3) := by decide +kernel
theorem dd_X0_areSuch_34 : decode X0_areSuch.2.1 34 = .ok (.iconst 0, 1) := by decide +kernel
theorem dd_X0_areSuch_35 : decode X0_areSuch.2.1 35 = .ok (.ireturn, 1) := by decide +kernel
theorem dd_X0_shareRow_0 : decode X0_shareRow.2.1 0 = .ok (.aload_n 0, 1) := by decide +kernel
theorem dd_X0_shareRow_1 : decode X0_shareRow.2.1 1 = .ok (.getfield 26, 3) := by decide +kernel
theorem dd_X0_shareRow_4 : decode X0_shareRow.2.1 4 = .ok (.iload_n 3, 1) := by decide +kernel
theorem dd_X0_shareRow_5 : decode X0_shareRow.2.1 5 = .ok (.isub, 1) := by decide +kernel
theorem dd_X0_shareRow_6 : decode X0_shareRow.2.1 6 = .ok (.istore 5, 2) := by decide +kernel
theorem dd_X0_shareRow_8 : decode X0_shareRow.2.1 8 = .ok (.iconst 0, 1) := by decide +kernel
theorem dd_X0_shareRow_9 : decode X0_shareRow.2.1 9 = .ok (.istore 6, 2) := by decide +kernel
theorem dd_X0_shareRow_11 : decode X0_shareRow.2.1 11 = .ok (.iload 6, 2) := by decide +kernel
theorem dd_X0_shareRow_13 : decode X0_shareRow.2.1 13 = .ok (.aload_n 0, 1) := by decide +kernel
theorem dd_X0_shareRow_14 : decode X0_shareRow.2.1 14 = .ok (.getfield 26, 3) := by decide +kernel
theorem dd_X0_shareRow_17 : decode X0_shareRow.2.1 17 = .ok (.if_icmp .ge 62, 3) := by decide +kernel
theorem dd_X0_shareRow_20 : decode X0_shareRow.2.1 20 = .ok (.aload_n 0, 1) := by decide +kernel
theorem dd_X0_shareRow_21 : decode X0_shareRow.2.1 21 = .ok (.iload_n 1, 1) := by decide +kernel
theorem dd_X0_shareRow_22 : decode X0_shareRow.2.1 22 = .ok (.iload 6, 2) := by decide +kernel
theorem dd_X0_shareRow_24 : decode X0_shareRow.2.1 24 = .ok (.invokevirtual 54, 3) := by decide +kernel
theorem dd_X0_shareRow_27 : decode X0_shareRow.2.1 27 = .ok (.iload 5, 2) := by decide +kernel
theorem dd_X0_shareRow_29 : decode X0_shareRow.2.1 29 = .ok (.ishr, 1) := by decide +kernel
theorem dd_X0_shareRow_30 : decode X0_shareRow.2.1 30 = .ok (.istore 7, 2) := by decide +kernel
theorem dd_X0_shareRow_32 : decode X0_shareRow.2.1 32 = .ok (.iconst 0, 1) := by decide +kernel
theorem dd_X0_shareRow_33 : decode X0_shareRow.2.1 33 = .ok (.istore 8, 2) := by decide +kernel
theorem dd_X0_shareRow_35 : decode X0_shareRow.2.1 35 = .ok (.iload 8, 2) := by decide +kernel
theorem dd_X0_shareRow_37 : decode X0_shareRow.2.1 37 = .ok (.aload_n 0, 1) := by decide +kernel
theorem dd_X0_shareRow_38 : decode X0_shareRow.2.1 38 = .ok (.getfield 26, 3) := by decide +kernel
theorem dd_X0_shareRow_41 : decode X0_shareRow.2.1 41 = .ok (.if_icmp .ge 32, 3) := by decide +kernel
theorem dd_X0_shareRow_44 : decode X0_shareRow.2.1 44 = .ok (.iload 7, 2) := by decide +kernel
theorem dd_X0_shareRow_46 : decode X0_shareRow.2.1 46 = .ok (.aload_n 0, 1) := by decide +kernel
theorem dd_X0_shareRow_47 : decode X0_shareRow.2.1 47 = .ok (.iload_n 2, 1) := by decide +kernel
theorem dd_X0_shareRow_48 : decode X0_shareRow.2.1 48 = .ok (.iload 8, 2) := by decide +kernel
theorem dd_X0_shareRow_50 : decode X0_shareRow.2.1 50 = .ok (.invokevirtual 54, 3) := by decide +kernel
theorem dd_X0_shareRow_53 : decode X0_shareRow.2.1 53 = .ok (.iload 5, 2) := by decide +kernel
theorem dd_X0_shareRow_55 : decode X0_shareRow.2.1 55 = .ok (.ishr, 1) := by decide +kernel
theorem dd_X0_shareRow_56 : decode X0_shareRow.2.1 56 = .ok (.ixor, 1) := by decide +kernel
theorem dd_X0_shareRow_57 : decode X0_shareRow.2.1 57 = .ok (.invokestatic 62, 3) := by decide +kernel
theorem dd_X0_shareRow_60 : decode X0_shareRow.2.1 60 = .ok (.iload 4, 2) := by decide +kernel
theorem dd_X0_shareRow_62 : decode X0_shareRow.2.1 62 = .ok (.if_icmp .gt 5, 3) := by decide +kernel
theorem dd_X0_shareRow_65 : decode X0_shareRow.2.1 65 = .ok (.iconst 1, 1) := by decide +kernel
theorem dd_X0_shareRow_66 : decode X0_shareRow.2.1 66 = .ok (.ireturn, 1) := by decide +kernel
theorem dd_X0_shareRow_67 : decode X0_shareRow.2.1 67 = .ok (.iinc 8 1, 3) := by decide +kernel
theorem dd_X0_shareRow_70 : decode X0_shareRow.2.1 70 = .ok (.goto (-35), 3) := by decide +kernel
theorem dd_X0_shareRow_73 : decode X0_shareRow.2.1 73 = .ok (.iinc 6 1, 3) := by decide +kernel
theorem dd_X0_shareRow_76 : decode X0_shareRow.2.1 76 = .ok (.goto (-65), 3) := by decide +kernel
theorem dd_X0_shareRow_79 : decode X0_shareRow.2.1 79 = .ok (.iconst 0, 1) := by decide +kernel
theorem dd_X0_shareRow_80 : decode X0_shareRow.2.1 80 = .ok (.ireturn, 1) := by decide +kernel
theorem dd_X0_suchOnes_0 : decode X0_suchOnes.2.1 0 = .ok (.iconst 0, 1) := by decide +kernel
theorem dd_X0_suchOnes_1 : decode X0_suchOnes.2.1 1 = .ok (.istore_n 3, 1) := by decide +kernel
theorem dd_X0_suchOnes_2 : decode X0_suchOnes.2.1 2 = .ok (.iconst 0, 1) := by decide +kernel
theorem dd_X0_suchOnes_3 : decode X0_suchOnes.2.1 3 = .ok (.istore 4, 2) := by decide +kernel
theorem dd_X0_suchOnes_5 : decode X0_suchOnes.2.1 5 = .ok (.iload 4, 2) := by decide +kernel
theorem dd_X0_suchOnes_7 : decode X0_suchOnes.2.1 7 = .ok (.aload_n 0, 1) := by decide +kernel
theorem dd_X0_suchOnes_8 : decode X0_suchOnes.2.1 8 = .ok (.getfield 36, 3) := by decide +kernel
theorem dd_X0_suchOnes_11 : decode X0_suchOnes.2.1 11 = .ok (.if_icmp .ge 27, 3) := by decide +kernel
theorem dd_X0_suchOnes_14 : decode X0_suchOnes.2.1 14 = .ok (.aload_n 0, 1) := by decide +kernel
theorem dd_X0_suchOnes_15 : decode X0_suchOnes.2.1 15 = .ok (.iload_n 1, 1) := by decide +kernel
theorem dd_X0_suchOnes_16 : decode X0_suchOnes.2.1 16 = .ok (.iload 4, 2) := by decide +kernel
theorem dd_X0_suchOnes_18 : decode X0_suchOnes.2.1 18 = .ok (.iload_n 2, 1) := by decide +kernel
theorem dd_X0_suchOnes_19 : decode X0_suchOnes.2.1 19 = .ok (.invokevirtual 68, 3) := by decide +kernel
theorem dd_X0_suchOnes_22 : decode X0_suchOnes.2.1 22 = .ok (.ifCond .eq 10, 3) := by decide +kernel
theorem dd_X0_suchOnes_25 : decode X0_suchOnes.2.1 25 = .ok (.iload_n 3, 1) := by decide +kernel
theorem dd_X0_suchOnes_26 : decode X0_suchOnes.2.1 26 = .ok (.iconst 1, 1) := by decide +kernel
theorem dd_X0_suchOnes_27 : decode X0_suchOnes.2.1 27 = .ok (.iload 4, 2) := by decide +kernel
theorem dd_X0_suchOnes_29 : decode X0_suchOnes.2.1 29 = .ok (.ishl, 1) := by decide +kernel
theorem dd_X0_suchOnes_30 : decode X0_suchOnes.2.1 30 = .ok (.ior, 1) := by decide +kernel
theorem dd_X0_suchOnes_31 : decode X0_suchOnes.2.1 31 = .ok (.istore_n 3, 1) := by decide +kernel
theorem dd_X0_suchOnes_32 : decode X0_suchOnes.2.1 32 = .ok (.iinc 4 1, 3) := by decide +kernel
theorem dd_X0_suchOnes_35 : decode X0_suchOnes.2.1 35 = .ok (.goto (-30), 3) := by decide +kernel
theorem dd_X0_suchOnes_38 : decode X0_suchOnes.2.1 38 = .ok (.iload_n 3, 1) := by decide +kernel
theorem dd_X0_suchOnes_39 : decode X0_suchOnes.2.1 39 = .ok (.ireturn, 1) := by decide +kernel
theorem dd_X1_remember_0 : decode X1_remember.2.1 0 = .ok (.aload_n 0, 1) := by decide +kernel
theorem dd_X1_remember_1 : decode X1_remember.2.1 1 = .ok (.getfield 21, 3) := by decide +kernel
theorem dd_X1_remember_4 : decode X1_remember.2.1 4 = .ok (.bipush 8, 2) := by decide +kernel
theorem dd_X1_remember_6 : decode X1_remember.2.1 6 = .ok (.if_icmp .lt 7, 3) := by decide +kernel
theorem dd_X1_remember_9 : decode X1_remember.2.1 9 = .ok (.aload_n 0, 1) := by decide +kernel
theorem dd_X1_remember_10 : decode X1_remember.2.1 10 = .ok (.invokevirtual 25, 3) := by decide +kernel
theorem dd_X1_remember_13 : decode X1_remember.2.1 13 = .ok (.aload_n 0, 1) := by decide +kernel
theorem dd_X1_remember_14 : decode X1_remember.2.1 14 = .ok (.getfield 9, 3) := by decide +kernel
theorem dd_X1_remember_17 : decode X1_remember.2.1 17 = .ok (.aload_n 0, 1) := by decide +kernel
theorem dd_X1_remember_18 : decode X1_remember.2.1 18 = .ok (.getfield 21, 3) := by decide +kernel
theorem dd_X1_remember_21 : decode X1_remember.2.1 21 = .ok (.iload_n 2, 1) := by decide +kernel
theorem dd_X1_remember_22 : decode X1_remember.2.1 22 = .ok (.iastore, 1) := by decide +kernel
theorem dd_X1_remember_23 : decode X1_remember.2.1 23 = .ok (.aload_n 0, 1) := by decide +kernel
theorem dd_X1_remember_24 : decode X1_remember.2.1 24 = .ok (.getfield 15, 3) := by decide +kernel
theorem dd_X1_remember_27 : decode X1_remember.2.1 27 = .ok (.aload_n 0, 1) := by decide +kernel
theorem dd_X1_remember_28 : decode X1_remember.2.1 28 = .ok (.getfield 21, 3) := by decide +kernel
theorem dd_X1_remember_31 : decode X1_remember.2.1 31 = .ok (.aload_n 1, 1) := by decide +kernel
theorem dd_X1_remember_32 : decode X1_remember.2.1 32 = .ok (.getfield 28, 3) := by decide +kernel
theorem dd_X1_remember_35 : decode X1_remember.2.1 35 = .ok (.iload_n 2, 1) := by decide +kernel
theorem dd_X1_remember_36 : decode X1_remember.2.1 36 = .ok (.iaload, 1) := by decide +kernel
theorem dd_X1_remember_37 : decode X1_remember.2.1 37 = .ok (.iastore, 1) := by decide +kernel
theorem dd_X1_remember_38 : decode X1_remember.2.1 38 = .ok (.aload_n 0, 1) := by decide +kernel
theorem dd_X1_remember_39 : decode X1_remember.2.1 39 = .ok (.getfield 18, 3) := by decide +kernel
theorem dd_X1_remember_42 : decode X1_remember.2.1 42 = .ok (.aload_n 0, 1) := by decide +kernel
theorem dd_X1_remember_43 : decode X1_remember.2.1 43 = .ok (.getfield 21, 3) := by decide +kernel
theorem dd_X1_remember_46 : decode X1_remember.2.1 46 = .ok (.aload_n 1, 1) := by decide +kernel
theorem dd_X1_remember_47 : decode X1_remember.2.1 47 = .ok (.getfield 33, 3) := by decide +kernel
theorem dd_X1_remember_50 : decode X1_remember.2.1 50 = .ok (.iload_n 2, 1) := by decide +kernel
theorem dd_X1_remember_51 : decode X1_remember.2.1 51 = .ok (.iaload, 1) := by decide +kernel
theorem dd_X1_remember_52 : decode X1_remember.2.1 52 = .ok (.iastore, 1) := by decide +kernel
theorem dd_X1_remember_53 : decode X1_remember.2.1 53 = .ok (.aload_n 0, 1) := by decide +kernel
theorem dd_X1_remember_54 : decode X1_remember.2.1 54 = .ok (.dup, 1) := by decide +kernel
theorem dd_X1_remember_55 : decode X1_remember.2.1 55 = .ok (.getfield 21, 3) := by decide +kernel
theorem dd_X1_remember_58 : decode X1_remember.2.1 58 = .ok (.iconst 1, 1) := by decide +kernel
theorem dd_X1_remember_59 : decode X1_remember.2.1 59 = .ok (.iadd, 1) := by decide +kernel
theorem dd_X1_remember_60 : decode X1_remember.2.1 60 = .ok (.putfield 21, 3) := by decide +kernel
theorem dd_X1_remember_63 : decode X1_remember.2.1 63 = .ok (.return_, 1) := by decide +kernel
theorem dd_X1_forgetOldest_0 : decode X1_forgetOldest.2.1 0 = .ok (.aload_n 0, 1) := by decide +kernel
theorem dd_X1_forgetOldest_1 : decode X1_forgetOldest.2.1 1 = .ok (.bipush 7, 2) := by decide +kernel
theorem dd_X1_forgetOldest_3 : decode X1_forgetOldest.2.1 3 = .ok (.putfield 21, 3) := by decide +kernel
theorem dd_X1_forgetOldest_6 : decode X1_forgetOldest.2.1 6 = .ok (.aload_n 0, 1) := by decide +kernel
theorem dd_X1_forgetOldest_7 : decode X1_forgetOldest.2.1 7 = .ok (.getfield 9, 3) := by decide +kernel
theorem dd_X1_forgetOldest_10 : decode X1_forgetOldest.2.1 10 = .ok (.iconst 1, 1) := by decide +kernel
theorem dd_X1_forgetOldest_11 : decode X1_forgetOldest.2.1 11 = .ok (.aload_n 0, 1) := by decide +kernel
theorem dd_X1_forgetOldest_12 : decode X1_forgetOldest.2.1 12 = .ok (.getfield 9, 3) := by decide +kernel
theorem dd_X1_forgetOldest_15 : decode X1_forgetOldest.2.1 15 = .ok (.iconst 0, 1) := by decide +kernel
theorem dd_X1_forgetOldest_16 : decode X1_forgetOldest.2.1 16 = .ok (.aload_n 0, 1) := by decide +kernel
theorem dd_X1_forgetOldest_17 : decode X1_forgetOldest.2.1 17 = .ok (.getfield 21, 3) := by decide +kernel
theorem dd_X1_forgetOldest_20 : decode X1_forgetOldest.2.1 20 = .ok (.invokestatic 36, 3) := by decide +kernel
theorem dd_X1_forgetOldest_23 : decode X1_forgetOldest.2.1 23 = .ok (.aload_n 0, 1) := by decide +kernel
theorem dd_X1_forgetOldest_24 : decode X1_forgetOldest.2.1 24 = .ok (.getfield 15, 3) := by decide +kernel
theorem dd_X1_forgetOldest_27 : decode X1_forgetOldest.2.1 27 = .ok (.iconst 1, 1) := by decide +kernel
theorem dd_X1_forgetOldest_28 : decode X1_forgetOldest.2.1 28 = .ok (.aload_n 0, 1) := by decide +kernel
theorem dd_X1_forgetOldest_29 : decode X1_forgetOldest.2.1 29 = .ok (.getfield 15, 3) := by decide +kernel
theorem dd_X1_forgetOldest_32 : decode X1_forgetOldest.2.1 32 = .ok (.iconst 0, 1) := by decide +kernel
theorem dd_X1_forgetOldest_33 : decode X1_forgetOldest.2.1 33 = .ok (.aload_n 0, 1) := by decide +kernel
theorem dd_X1_forgetOldest_34 : decode X1_forgetOldest.2.1 34 = .ok (.getfield 21, 3) := by decide +kernel
theorem dd_X1_forgetOldest_37 : decode X1_forgetOldest.2.1 37 = .ok (.invokestatic 36, 3) := by decide +kernel
theorem dd_X1_forgetOldest_40 : decode X1_forgetOldest.2.1 40 = .ok (.aload_n 0, 1) := by decide +kernel
theorem dd_X1_forgetOldest_41 : decode X1_forgetOldest.2.1 41 = .ok (.getfield 18, 3) := by decide +kernel
theorem dd_X1_forgetOldest_44 : decode X1_forgetOldest.2.1 44 = .ok (.iconst 1, 1) := by decide +kernel
theorem dd_X1_forgetOldest_45 : decode X1_forgetOldest.2.1 45 = .ok (.aload_n 0, 1) := by decide +kernel
theorem dd_X1_forgetOldest_46 : decode X1_forgetOldest.2.1 46 = .ok (.getfield 18, 3) := by decide +kernel
theorem dd_X1_forgetOldest_49 : decode X1_forgetOldest.2.1 49 = .ok (.iconst 0, 1) := by decide +kernel
theorem dd_X1_forgetOldest_50 : decode X1_forgetOldest.2.1 50 = .ok (.aload_n 0, 1) := by decide +kernel
theorem dd_X1_forgetOldest_51 : decode X1_forgetOldest.2.1 51 = .ok (.getfield 21, 3) := by decide +kernel
theorem dd_X1_forgetOldest_54 : decode X1_forgetOldest.2.1 54 = .ok (.invokestatic 36, 3) := by decide +kernel
theorem dd_X1_forgetOldest_57 : decode X1_forgetOldest.2.1 57 = .ok (.return_, 1) := by decide +kernel
theorem dd_X1_takeBack_0 : decode X1_takeBack.2.1 0 = .ok (.aload_n 0, 1) := by decide +kernel
theorem dd_X1_takeBack_1 : decode X1_takeBack.2.1 1 = .ok (.getfield 21, 3) := by decide +kernel
theorem dd_X1_takeBack_4 : decode X1_takeBack.2.1 4 = .ok (.ifCond .le 59, 3) := by decide +kernel
theorem dd_X1_takeBack_7 : decode X1_takeBack.2.1 7 = .ok (.aload_n 0, 1) := by decide +kernel
theorem dd_X1_takeBack_8 : decode X1_takeBack.2.1 8 = .ok (.dup, 1) := by decide +kernel
theorem dd_X1_takeBack_9 : decode X1_takeBack.2.1 9 = .ok (.getfield 21, 3) := by decide +kernel
theorem dd_X1_takeBack_12 : decode X1_takeBack.2.1 12 = .ok (.iconst 1, 1) := by decide +kernel
theorem dd_X1_takeBack_13 : decode X1_takeBack.2.1 13 = .ok (.isub, 1) := by decide +kernel
theorem dd_X1_takeBack_14 : decode X1_takeBack.2.1 14 = .ok (.putfield 21, 3) := by decide +kernel
theorem dd_X1_takeBack_17 : decode X1_takeBack.2.1 17 = .ok (.aload_n 1, 1) := by decide +kernel
theorem dd_X1_takeBack_18 : decode X1_takeBack.2.1 18 = .ok (.getfield 28, 3) := by decide +kernel
theorem dd_X1_takeBack_21 : decode X1_takeBack.2.1 21 = .ok (.aload_n 0, 1) := by decide +kernel
theorem dd_X1_takeBack_22 : decode X1_takeBack.2.1 22 = .ok (.getfield 9, 3) := by decide +kernel
theorem dd_X1_takeBack_25 : decode X1_takeBack.2.1 25 = .ok (.aload_n 0, 1) := by decide +kernel
theorem dd_X1_takeBack_26 : decode X1_takeBack.2.1 26 = .ok (.getfield 21, 3) := by decide +kernel
theorem dd_X1_takeBack_29 : decode X1_takeBack.2.1 29 = .ok (.iaload, 1) := by decide +kernel
theorem dd_X1_takeBack_30 : decode X1_takeBack.2.1 30 = .ok (.aload_n 0, 1) := by decide +kernel
theorem dd_X1_takeBack_31 : decode X1_takeBack.2.1 31 = .ok (.getfield 15, 3) := by decide +kernel
theorem dd_X1_takeBack_34 : decode X1_takeBack.2.1 34 = .ok (.aload_n 0, 1) := by decide +kernel
theorem dd_X1_takeBack_35 : decode X1_takeBack.2.1 35 = .ok (.getfield 21, 3) := by decide +kernel
theorem dd_X1_takeBack_38 : decode X1_takeBack.2.1 38 = .ok (.iaload, 1) := by decide +kernel
theorem dd_X1_takeBack_39 : decode X1_takeBack.2.1 39 = .ok (.iastore, 1) := by decide +kernel
theorem dd_X1_takeBack_40 : decode X1_takeBack.2.1 40 = .ok (.aload_n 1, 1) := by decide +kernel
theorem dd_X1_takeBack_41 : decode X1_takeBack.2.1 41 = .ok (.getfield 33, 3) := by decide +kernel
theorem dd_X1_takeBack_44 : decode X1_takeBack.2.1 44 = .ok (.aload_n 0, 1) := by decide +kernel
theorem dd_X1_takeBack_45 : decode X1_takeBack.2.1 45 = .ok (.getfield 9, 3) := by decide +kernel
theorem dd_X1_takeBack_48 : decode X1_takeBack.2.1 48 = .ok (.aload_n 0, 1) := by decide +kernel
theorem dd_X1_takeBack_49 : decode X1_takeBack.2.1 49 = .ok (.getfield 21, 3) := by decide +kernel
theorem dd_X1_takeBack_52 : decode X1_takeBack.2.1 52 = .ok (.iaload, 1) := by decide +kernel
theorem dd_X1_takeBack_53 : decode X1_takeBack.2.1 53 = .ok (.aload_n 0, 1) := by decide +kernel
theorem dd_X1_takeBack_54 : decode X1_takeBack.2.1 54 = .ok (.getfield 18, 3) := by decide +kernel
theorem dd_X1_takeBack_57 : decode X1_takeBack.2.1 57 = .ok (.aload_n 0, 1) := by decide +kernel
theorem dd_X1_takeBack_58 : decode X1_takeBack.2.1 58 = .ok (.getfield 21, 3) := by decide +kernel
theorem dd_X1_takeBack_61 : decode X1_takeBack.2.1 61 = .ok (.iaload, 1) := by decide +kernel
theorem dd_X1_takeBack_62 : decode X1_takeBack.2.1 62 = .ok (.iastore, 1) := by decide +kernel
theorem dd_X1_takeBack_63 : decode X1_takeBack.2.1 63 = .ok (.return_, 1) := by decide +kernel
theorem dd_X2_become_0 : decode X2_become.2.1 0 = .ok (.aload_n 0, 1) := by decide +kernel
theorem dd_X2_become_1 : decode X2_become.2.1 1 = .ok (.aload_n 1, 1) := by decide +kernel
theorem dd_X2_become_2 : decode X2_become.2.1 2 = .ok (.getfield 18, 3) := by decide +kernel
theorem dd_X2_become_5 : decode X2_become.2.1 5 = .ok (.putfield 18, 3) := by decide +kernel
theorem dd_X2_become_8 : decode X2_become.2.1 8 = .ok (.aload_n 1, 1) := by decide +kernel
theorem dd_X2_become_9 : decode X2_become.2.1 9 = .ok (.getfield 9, 3) := by decide +kernel
theorem dd_X2_become_12 : decode X2_become.2.1 12 = .ok (.iconst 0, 1) := by decide +kernel
theorem dd_X2_become_13 : decode X2_become.2.1 13 = .ok (.aload_n 0, 1) := by decide +kernel
theorem dd_X2_become_14 : decode X2_become.2.1 14 = .ok (.getfield 9, 3) := by decide +kernel
theorem dd_X2_become_17 : decode X2_become.2.1 17 = .ok (.iconst 0, 1) := by decide +kernel
theorem dd_X2_become_18 : decode X2_become.2.1 18 = .ok (.bipush 6, 2) := by decide +kernel
theorem dd_X2_become_20 : decode X2_become.2.1 20 = .ok (.invokestatic 22, 3) := by decide +kernel
theorem dd_X2_become_23 : decode X2_become.2.1 23 = .ok (.aload_n 1, 1) := by decide +kernel
theorem dd_X2_become_24 : decode X2_become.2.1 24 = .ok (.getfield 15, 3) := by decide +kernel
theorem dd_X2_become_27 : decode X2_become.2.1 27 = .ok (.iconst 0, 1) := by decide +kernel
theorem dd_X2_become_28 : decode X2_become.2.1 28 = .ok (.aload_n 0, 1) := by decide +kernel
theorem dd_X2_become_29 : decode X2_become.2.1 29 = .ok (.getfield 15, 3) := by decide +kernel
theorem dd_X2_become_32 : decode X2_become.2.1 32 = .ok (.iconst 0, 1) := by decide +kernel
theorem dd_X2_become_33 : decode X2_become.2.1 33 = .ok (.bipush 6, 2) := by decide +kernel
theorem dd_X2_become_35 : decode X2_become.2.1 35 = .ok (.invokestatic 22, 3) := by decide +kernel
theorem dd_X2_become_38 : decode X2_become.2.1 38 = .ok (.return_, 1) := by decide +kernel
theorem dd_X2_hasLight_0 : decode X2_hasLight.2.1 0 = .ok (.iload_n 1, 1) := by decide +kernel
theorem dd_X2_hasLight_1 : decode X2_hasLight.2.1 1 = .ok (.ifCond .lt 15, 3) := by decide +kernel
theorem dd_X2_hasLight_4 : decode X2_hasLight.2.1 4 = .ok (.iload_n 1, 1) := by decide +kernel
theorem dd_X2_hasLight_5 : decode X2_hasLight.2.1 5 = .ok (.aload_n 0, 1) := by decide +kernel
theorem dd_X2_hasLight_6 : decode X2_hasLight.2.1 6 = .ok (.getfield 18, 3) := by decide +kernel
theorem dd_X2_hasLight_9 : decode X2_hasLight.2.1 9 = .ok (.if_icmp .ge 7, 3) := by decide +kernel
theorem dd_X2_hasLight_12 : decode X2_hasLight.2.1 12 = .ok (.iconst 1, 1) := by decide +kernel
theorem dd_X2_hasLight_13 : decode X2_hasLight.2.1 13 = .ok (.goto 4, 3) := by decide +kernel
theorem dd_X2_hasLight_16 : decode X2_hasLight.2.1 16 = .ok (.iconst 0, 1) := by decide +kernel
theorem dd_X2_hasLight_17 : decode X2_hasLight.2.1 17 = .ok (.ireturn, 1) := by decide +kernel
theorem dd_X2_addAt_0 : decode X2_addAt.2.1 0 = .ok (.aload_n 0, 1) := by decide +kernel
theorem dd_X2_addAt_1 : decode X2_addAt.2.1 1 = .ok (.getfield 18, 3) := by decide +kernel
theorem dd_X2_addAt_4 : decode X2_addAt.2.1 4 = .ok (.bipush 6, 2) := by decide +kernel
theorem dd_X2_addAt_6 : decode X2_addAt.2.1 6 = .ok (.if_icmp .ge 33, 3) := by decide +kernel
theorem dd_X2_addAt_9 : decode X2_addAt.2.1 9 = .ok (.aload_n 0, 1) := by decide +kernel
theorem dd_X2_addAt_10 : decode X2_addAt.2.1 10 = .ok (.getfield 9, 3) := by decide +kernel
theorem dd_X2_addAt_13 : decode X2_addAt.2.1 13 = .ok (.aload_n 0, 1) := by decide +kernel
theorem dd_X2_addAt_14 : decode X2_addAt.2.1 14 = .ok (.getfield 18, 3) := by decide +kernel
theorem dd_X2_addAt_17 : decode X2_addAt.2.1 17 = .ok (.iload_n 1, 1) := by decide +kernel
theorem dd_X2_addAt_18 : decode X2_addAt.2.1 18 = .ok (.iastore, 1) := by decide +kernel
theorem dd_X2_addAt_19 : decode X2_addAt.2.1 19 = .ok (.aload_n 0, 1) := by decide +kernel
theorem dd_X2_addAt_20 : decode X2_addAt.2.1 20 = .ok (.getfield 15, 3) := by decide +kernel
theorem dd_X2_addAt_23 : decode X2_addAt.2.1 23 = .ok (.aload_n 0, 1) := by decide +kernel
theorem dd_X2_addAt_24 : decode X2_addAt.2.1 24 = .ok (.getfield 18, 3) := by decide +kernel
theorem dd_X2_addAt_27 : decode X2_addAt.2.1 27 = .ok (.iconst (-1), 1) := by decide +kernel
theorem dd_X2_addAt_28 : decode X2_addAt.2.1 28 = .ok (.iastore, 1) := by decide +kernel
theorem dd_X2_addAt_29 : decode X2_addAt.2.1 29 = .ok (.aload_n 0, 1) := by decide +kernel
theorem dd_X2_addAt_30 : decode X2_addAt.2.1 30 = .ok (.dup, 1) := by decide +kernel
theorem dd_X2_addAt_31 : decode X2_addAt.2.1 31 = .ok (.getfield 18, 3) := by decide +kernel
theorem dd_X2_addAt_34 : decode X2_addAt.2.1 34 = .ok (.iconst 1, 1) := by decide +kernel
theorem dd_X2_addAt_35 : decode X2_addAt.2.1 35 = .ok (.iadd, 1) := by decide +kernel
theorem dd_X2_addAt_36 : decode X2_addAt.2.1 36 = .ok (.putfield 18, 3) := by decide +kernel
theorem dd_X2_addAt_39 : decode X2_addAt.2.1 39 = .ok (.return_, 1) := by decide +kernel
theorem dd_X2_neighbours_0 : decode X2_neighbours.2.1 0 = .ok (.iconst 0, 1) := by decide +kernel
theorem dd_X2_neighbours_1 : decode X2_neighbours.2.1 1 = .ok (.istore_n 3, 1) := by decide +kernel
theorem dd_X2_neighbours_2 : decode X2_neighbours.2.1 2 = .ok (.iconst 0, 1) := by decide +kernel
theorem dd_X2_neighbours_3 : decode X2_neighbours.2.1 3 = .ok (.istore 4, 2) := by decide +kernel
theorem dd_X2_neighbours_5 : decode X2_neighbours.2.1 5 = .ok (.iload 4, 2) := by decide +kernel
theorem dd_X2_neighbours_7 : decode X2_neighbours.2.1 7 = .ok (.aload_n 0, 1) := by decide +kernel
theorem dd_X2_neighbours_8 : decode X2_neighbours.2.1 8 = .ok (.getfield 18, 3) := by decide +kernel
theorem dd_X2_neighbours_11 : decode X2_neighbours.2.1 11 = .ok (.if_icmp .ge 43, 3) := by decide +kernel
theorem dd_X2_neighbours_14 : decode X2_neighbours.2.1 14 = .ok (.iload 4, 2) := by decide +kernel
theorem dd_X2_neighbours_16 : decode X2_neighbours.2.1 16 = .ok (.iload_n 1, 1) := by decide +kernel
theorem dd_X2_neighbours_17 : decode X2_neighbours.2.1 17 = .ok (.if_icmp .eq 31, 3) := by decide +kernel
theorem dd_X2_neighbours_20 : decode X2_neighbours.2.1 20 = .ok (.aload_n 0, 1) := by decide +kernel
theorem dd_X2_neighbours_21 : decode X2_neighbours.2.1 21 = .ok (.getfield 9, 3) := by decide +kernel
theorem dd_X2_neighbours_24 : decode X2_neighbours.2.1 24 = .ok (.iload 4, 2) := by decide +kernel
theorem dd_X2_neighbours_26 : decode X2_neighbours.2.1 26 = .ok (.iaload, 1) := by decide +kernel
theorem dd_X2_neighbours_27 : decode X2_neighbours.2.1 27 = .ok (.aload_n 0, 1) := by decide +kernel
theorem dd_X2_neighbours_28 : decode X2_neighbours.2.1 28 = .ok (.getfield 9, 3) := by decide +kernel
theorem dd_X2_neighbours_31 : decode X2_neighbours.2.1 31 = .ok (.iload_n 1, 1) := by decide +kernel
theorem dd_X2_neighbours_32 : decode X2_neighbours.2.1 32 = .ok (.iaload, 1) := by decide +kernel
theorem dd_X2_neighbours_33 : decode X2_neighbours.2.1 33 = .ok (.isub, 1) := by decide +kernel
theorem dd_X2_neighbours_34 : decode X2_neighbours.2.1 34 = .ok (.invokestatic 28, 3) := by decide +kernel
theorem dd_X2_neighbours_37 : decode X2_neighbours.2.1 37 = .ok (.iload_n 2, 1) := by decide +kernel
theorem dd_X2_neighbours_38 : decode X2_neighbours.2.1 38 = .ok (.if_icmp .gt 10, 3) := by decide +kernel
theorem dd_X2_neighbours_41 : decode X2_neighbours.2.1 41 = .ok (.iload_n 3, 1) := by decide +kernel
theorem dd_X2_neighbours_42 : decode X2_neighbours.2.1 42 = .ok (.iconst 1, 1) := by decide +kernel
theorem dd_X2_neighbours_43 : decode X2_neighbours.2.1 43 = .ok (.iload 4, 2) := by decide +kernel
theorem dd_X2_neighbours_45 : decode X2_neighbours.2.1 45 = .ok (.ishl, 1) := by decide +kernel
theorem dd_X2_neighbours_46 : decode X2_neighbours.2.1 46 = .ok (.ior, 1) := by decide +kernel
theorem dd_X2_neighbours_47 : decode X2_neighbours.2.1 47 = .ok (.istore_n 3, 1) := by decide +kernel
theorem dd_X2_neighbours_48 : decode X2_neighbours.2.1 48 = .ok (.iinc 4 1, 3) := by decide +kernel
theorem dd_X2_neighbours_51 : decode X2_neighbours.2.1 51 = .ok (.goto (-46), 3) := by decide +kernel
theorem dd_X2_neighbours_54 : decode X2_neighbours.2.1 54 = .ok (.iload_n 3, 1) := by decide +kernel
theorem dd_X2_neighbours_55 : decode X2_neighbours.2.1 55 = .ok (.ireturn, 1) := by decide +kernel
theorem dd_X2_litOnes_0 : decode X2_litOnes.2.1 0 = .ok (.iconst 0, 1) := by decide +kernel
theorem dd_X2_litOnes_1 : decode X2_litOnes.2.1 1 = .ok (.istore_n 1, 1) := by decide +kernel
theorem dd_X2_litOnes_2 : decode X2_litOnes.2.1 2 = .ok (.iconst 0, 1) := by decide +kernel
theorem dd_X2_litOnes_3 : decode X2_litOnes.2.1 3 = .ok (.istore_n 2, 1) := by decide +kernel
theorem dd_X2_litOnes_4 : decode X2_litOnes.2.1 4 = .ok (.iload_n 2, 1) := by decide +kernel
theorem dd_X2_litOnes_5 : decode X2_litOnes.2.1 5 = .ok (.aload_n 0, 1) := by decide +kernel
theorem dd_X2_litOnes_6 : decode X2_litOnes.2.1 6 = .ok (.getfield 18, 3) := by decide +kernel
theorem dd_X2_litOnes_9 : decode X2_litOnes.2.1 9 = .ok (.if_icmp .ge 25, 3) := by decide +kernel
theorem dd_X2_litOnes_12 : decode X2_litOnes.2.1 12 = .ok (.aload_n 0, 1) := by decide +kernel
theorem dd_X2_litOnes_13 : decode X2_litOnes.2.1 13 = .ok (.getfield 15, 3) := by decide +kernel
theorem dd_X2_litOnes_16 : decode X2_litOnes.2.1 16 = .ok (.iload_n 2, 1) := by decide +kernel
theorem dd_X2_litOnes_17 : decode X2_litOnes.2.1 17 = .ok (.iaload, 1) := by decide +kernel
theorem dd_X2_litOnes_18 : decode X2_litOnes.2.1 18 = .ok (.iconst (-1), 1) := by decide +kernel
theorem dd_X2_litOnes_19 : decode X2_litOnes.2.1 19 = .ok (.if_icmp .eq 9, 3) := by decide +kernel
theorem dd_X2_litOnes_22 : decode X2_litOnes.2.1 22 = .ok (.iload_n 1, 1) := by decide +kernel
theorem dd_X2_litOnes_23 : decode X2_litOnes.2.1 23 = .ok (.iconst 1, 1) := by decide +kernel
theorem dd_X2_litOnes_24 : decode X2_litOnes.2.1 24 = .ok (.iload_n 2, 1) := by decide +kernel
theorem dd_X2_litOnes_25 : decode X2_litOnes.2.1 25 = .ok (.ishl, 1) := by decide +kernel
theorem dd_X2_litOnes_26 : decode X2_litOnes.2.1 26 = .ok (.ior, 1) := by decide +kernel
theorem dd_X2_litOnes_27 : decode X2_litOnes.2.1 27 = .ok (.istore_n 1, 1) := by decide +kernel
theorem dd_X2_litOnes_28 : decode X2_litOnes.2.1 28 = .ok (.iinc 2 1, 3) := by decide +kernel
theorem dd_X2_litOnes_31 : decode X2_litOnes.2.1 31 = .ok (.goto (-27), 3) := by decide +kernel
theorem dd_X2_litOnes_34 : decode X2_litOnes.2.1 34 = .ok (.iload_n 1, 1) := by decide +kernel
theorem dd_X2_litOnes_35 : decode X2_litOnes.2.1 35 = .ok (.ireturn, 1) := by decide +kernel
theorem dd_X2_pairsSeenFrom_0 : decode X2_pairsSeenFrom.2.1 0 = .ok (.lconst 1, 1) := by decide +kernel
theorem dd_X2_pairsSeenFrom_1 : decode X2_pairsSeenFrom.2.1 1 = .ok (.aload_n 2, 1) := by decide +kernel
theorem dd_X2_pairsSeenFrom_2 : decode X2_pairsSeenFrom.2.1 2 = .ok (.getfield 34, 3) := by decide +kernel
theorem dd_X2_pairsSeenFrom_5 : decode X2_pairsSeenFrom.2.1 5 = .ok (.lshl, 1) := by decide +kernel
theorem dd_X2_pairsSeenFrom_6 : decode X2_pairsSeenFrom.2.1 6 = .ok (.lconst 1, 1) := by decide +kernel
theorem dd_X2_pairsSeenFrom_7 : decode X2_pairsSeenFrom.2.1 7 = .ok (.lsub, 1) := by decide +kernel
theorem dd_X2_pairsSeenFrom_8 : decode X2_pairsSeenFrom.2.1 8 = .ok (.lstore_n 3, 1) := by decide +kernel
theorem dd_X2_pairsSeenFrom_9 : decode X2_pairsSeenFrom.2.1 9 = .ok (.lconst 0, 1) := by decide +kernel
theorem dd_X2_pairsSeenFrom_10 : decode X2_pairsSeenFrom.2.1 10 = .ok (.lstore 5, 2) := by decide +kernel
theorem dd_X2_pairsSeenFrom_12 : decode X2_pairsSeenFrom.2.1 12 = .ok (.iconst 0, 1) := by decide +kernel
theorem dd_X2_pairsSeenFrom_13 : decode X2_pairsSeenFrom.2.1 13 = .ok (.istore 7, 2) := by decide +kernel
theorem dd_X2_pairsSeenFrom_15 : decode X2_pairsSeenFrom.2.1 15 = .ok (.iload 7, 2) := by decide +kernel
theorem dd_X2_pairsSeenFrom_17 : decode X2_pairsSeenFrom.2.1 17 = .ok (.aload_n 0, 1) := by decide +kernel
theorem dd_X2_pairsSeenFrom_18 : decode X2_pairsSeenFrom.2.1 18 = .ok (.getfield 18, 3) := by decide +kernel
theorem dd_X2_pairsSeenFrom_21 : decode X2_pairsSeenFrom.2.1 21 = .ok (.if_icmp .ge 51, 3) := by decide +kernel
theorem dd_X2_pairsSeenFrom_24 : decode X2_pairsSeenFrom.2.1 24 = .ok (.aload_n 0, 1) := by decide +kernel
theorem dd_X2_pairsSeenFrom_25 : decode X2_pairsSeenFrom.2.1 25 = .ok (.getfield 15, 3) := by decide +kernel
theorem dd_X2_pairsSeenFrom_28 : decode X2_pairsSeenFrom.2.1 28 = .ok (.iload 7, 2) := by decide +kernel
theorem dd_X2_pairsSeenFrom_30 : decode X2_pairsSeenFrom.2.1 30 = .ok (.iaload, 1) := by decide +kernel
theorem dd_X2_pairsSeenFrom_31 : decode X2_pairsSeenFrom.2.1 31 = .ok (.iconst (-1), 1) := by decide +kernel
theorem dd_X2_pairsSeenFrom_32 : decode X2_pairsSeenFrom.2.1 32 = .ok (.if_icmp .eq 34, 3) := by decide +kernel
theorem dd_X2_pairsSeenFrom_35 : decode X2_pairsSeenFrom.2.1 35 = .ok (.aload_n 0, 1) := by decide +kernel
theorem dd_X2_pairsSeenFrom_36 : decode X2_pairsSeenFrom.2.1 36 = .ok (.getfield 9, 3) := by decide +kernel
theorem dd_X2_pairsSeenFrom_39 : decode X2_pairsSeenFrom.2.1 39 = .ok (.iload 7, 2) := by decide +kernel
theorem dd_X2_pairsSeenFrom_41 : decode X2_pairsSeenFrom.2.1 41 = .ok (.iaload, 1) := by decide +kernel
theorem dd_X2_pairsSeenFrom_42 : decode X2_pairsSeenFrom.2.1 42 = .ok (.iload_n 1, 1) := by decide +kernel
theorem dd_X2_pairsSeenFrom_43 : decode X2_pairsSeenFrom.2.1 43 = .ok (.isub, 1) := by decide +kernel
theorem dd_X2_pairsSeenFrom_44 : decode X2_pairsSeenFrom.2.1 44 = .ok (.invokestatic 28, 3) := by decide +kernel
theorem dd_X2_pairsSeenFrom_47 : decode X2_pairsSeenFrom.2.1 47 = .ok (.aload_n 2, 1) := by decide +kernel
theorem dd_X2_pairsSeenFrom_48 : decode X2_pairsSeenFrom.2.1 48 = .ok (.getfield 39, 3) := by decide +kernel
theorem dd_X2_pairsSeenFrom_51 : decode X2_pairsSeenFrom.2.1 51 = .ok (.if_icmp .gt 15, 3) := by decide +kernel
theorem dd_X2_pairsSeenFrom_54 : decode X2_pairsSeenFrom.2.1 54 = .ok (.lload 5, 2) := by decide +kernel
theorem dd_X2_pairsSeenFrom_56 : decode X2_pairsSeenFrom.2.1 56 = .ok (.lload_n 3, 1) := by decide +kernel
theorem dd_X2_pairsSeenFrom_57 : decode X2_pairsSeenFrom.2.1 57 = .ok (.iload 7, 2) := by decide +kernel
theorem dd_X2_pairsSeenFrom_59 : decode X2_pairsSeenFrom.2.1 59 = .ok (.bipush 8, 2) := by decide +kernel
theorem dd_X2_pairsSeenFrom_61 : decode X2_pairsSeenFrom.2.1 61 = .ok (.imul, 1) := by decide +kernel
theorem dd_X2_pairsSeenFrom_62 : decode X2_pairsSeenFrom.2.1 62 = .ok (.lshl, 1) := by decide +kernel
theorem dd_X2_pairsSeenFrom_63 : decode X2_pairsSeenFrom.2.1 63 = .ok (.lor, 1) := by decide +kernel
theorem dd_X2_pairsSeenFrom_64 : decode X2_pairsSeenFrom.2.1 64 = .ok (.lstore 5, 2) := by decide +kernel
theorem dd_X2_pairsSeenFrom_66 : decode X2_pairsSeenFrom.2.1 66 = .ok (.iinc 7 1, 3) := by decide +kernel
theorem dd_X2_pairsSeenFrom_69 : decode X2_pairsSeenFrom.2.1 69 = .ok (.goto (-54), 3) := by decide +kernel
theorem dd_X2_pairsSeenFrom_72 : decode X2_pairsSeenFrom.2.1 72 = .ok (.lload 5, 2) := by decide +kernel
theorem dd_X2_pairsSeenFrom_74 : decode X2_pairsSeenFrom.2.1 74 = .ok (.lreturn, 1) := by decide +kernel
theorem dd_X2_pairsThatFlash_0 : decode X2_pairsThatFlash.2.1 0 = .ok (.lconst 0, 1) := by decide +kernel
theorem dd_X2_pairsThatFlash_1 : decode X2_pairsThatFlash.2.1 1 = .ok (.lstore_n 2, 1) := by decide +kernel
theorem dd_X2_pairsThatFlash_2 : decode X2_pairsThatFlash.2.1 2 = .ok (.iconst 0, 1) := by decide +kernel
theorem dd_X2_pairsThatFlash_3 : decode X2_pairsThatFlash.2.1 3 = .ok (.istore 4, 2) := by decide +kernel
theorem dd_X2_pairsThatFlash_5 : decode X2_pairsThatFlash.2.1 5 = .ok (.iload 4, 2) := by decide +kernel
theorem dd_X2_pairsThatFlash_7 : decode X2_pairsThatFlash.2.1 7 = .ok (.aload_n 0, 1) := by decide +kernel
theorem dd_X2_pairsThatFlash_8 : decode X2_pairsThatFlash.2.1 8 = .ok (.getfield 18, 3) := by decide +kernel
theorem dd_X2_pairsThatFlash_11 : decode X2_pairsThatFlash.2.1 11 = .ok (.if_icmp .ge 56, 3) := by decide +kernel
theorem dd_X2_pairsThatFlash_14 : decode X2_pairsThatFlash.2.1 14 = .ok (.iconst 0, 1) := by decide +kernel
theorem dd_X2_pairsThatFlash_15 : decode X2_pairsThatFlash.2.1 15 = .ok (.istore 5, 2) := by decide +kernel
theorem dd_X2_pairsThatFlash_17 : decode X2_pairsThatFlash.2.1 17 = .ok (.iload 5, 2) := by decide +kernel
theorem dd_X2_pairsThatFlash_19 : decode X2_pairsThatFlash.2.1 19 = .ok (.aload_n 1, 1) := by decide +kernel
theorem dd_X2_pairsThatFlash_20 : decode X2_pairsThatFlash.2.1 20 = .ok (.getfield 34, 3) := by decide +kernel
theorem dd_X2_pairsThatFlash_23 : decode X2_pairsThatFlash.2.1 23 = .ok (.if_icmp .ge 38, 3) := by decide +kernel
theorem dd_X2_pairsThatFlash_26 : decode X2_pairsThatFlash.2.1 26 = .ok (.aload_n 1, 1) := by decide +kernel
theorem dd_X2_pairsThatFlash_27 : decode X2_pairsThatFlash.2.1 27 = .ok (.aload_n 0, 1) := by decide +kernel
theorem dd_X2_pairsThatFlash_28 : decode X2_pairsThatFlash.2.1 28 = .ok (.getfield 15, 3) := by decide +kernel
theorem dd_X2_pairsThatFlash_31 : decode X2_pairsThatFlash.2.1 31 = .ok (.iload 4, 2) := by decide +kernel
theorem dd_X2_pairsThatFlash_33 : decode X2_pairsThatFlash.2.1 33 = .ok (.iaload, 1) := by decide +kernel
theorem dd_X2_pairsThatFlash_34 : decode X2_pairsThatFlash.2.1 34 = .ok (.iload 5, 2) := by decide +kernel
theorem dd_X2_pairsThatFlash_36 : decode X2_pairsThatFlash.2.1 36 = .ok (.invokevirtual 42, 3) := by decide +kernel
theorem dd_X2_pairsThatFlash_39 : decode X2_pairsThatFlash.2.1 39 = .ok (.ifCond .eq 16, 3) := by decide +kernel
theorem dd_X2_pairsThatFlash_42 : decode X2_pairsThatFlash.2.1 42 = .ok (.lload_n 2, 1) := by decide +kernel
theorem dd_X2_pairsThatFlash_43 : decode X2_pairsThatFlash.2.1 43 = .ok (.lconst 1, 1) := by decide +kernel
theorem dd_X2_pairsThatFlash_44 : decode X2_pairsThatFlash.2.1 44 = .ok (.iload 4, 2) := by decide +kernel
theorem dd_X2_pairsThatFlash_46 : decode X2_pairsThatFlash.2.1 46 = .ok (.bipush 8, 2) := by decide +kernel
theorem dd_X2_pairsThatFlash_48 : decode X2_pairsThatFlash.2.1 48 = .ok (.imul, 1) := by decide +kernel
theorem dd_X2_pairsThatFlash_49 : decode X2_pairsThatFlash.2.1 49 = .ok (.iload 5, 2) := by decide +kernel
theorem dd_X2_pairsThatFlash_51 : decode X2_pairsThatFlash.2.1 51 = .ok (.iadd, 1) := by decide +kernel
theorem dd_X2_pairsThatFlash_52 : decode X2_pairsThatFlash.2.1 52 = .ok (.lshl, 1) := by decide +kernel
theorem dd_X2_pairsThatFlash_53 : decode X2_pairsThatFlash.2.1 53 = .ok (.lor, 1) := by decide +kernel
theorem dd_X2_pairsThatFlash_54 : decode X2_pairsThatFlash.2.1 54 = .ok (.lstore_n 2, 1) := by decide +kernel
theorem dd_X2_pairsThatFlash_55 : decode X2_pairsThatFlash.2.1 55 = .ok (.iinc 5 1, 3) := by decide +kernel
theorem dd_X2_pairsThatFlash_58 : decode X2_pairsThatFlash.2.1 58 = .ok (.goto (-41), 3) := by decide +kernel
theorem dd_X2_pairsThatFlash_61 : decode X2_pairsThatFlash.2.1 61 = .ok (.iinc 4 1, 3) := by decide +kernel
theorem dd_X2_pairsThatFlash_64 : decode X2_pairsThatFlash.2.1 64 = .ok (.goto (-59), 3) := by decide +kernel
theorem dd_X2_pairsThatFlash_67 : decode X2_pairsThatFlash.2.1 67 = .ok (.lload_n 2, 1) := by decide +kernel
theorem dd_X2_pairsThatFlash_68 : decode X2_pairsThatFlash.2.1 68 = .ok (.lreturn, 1) := by decide +kernel
theorem dd_X3_prepare_0 : decode X3_prepare.2.1 0 = .ok (.aload_n 0, 1) := by decide +kernel
theorem dd_X3_prepare_1 : decode X3_prepare.2.1 1 = .ok (.aload_n 1, 1) := by decide +kernel
theorem dd_X3_prepare_2 : decode X3_prepare.2.1 2 = .ok (.getfield 18, 3) := by decide +kernel
theorem dd_X3_prepare_5 : decode X3_prepare.2.1 5 = .ok (.putfield 24, 3) := by decide +kernel
theorem dd_X3_prepare_8 : decode X3_prepare.2.1 8 = .ok (.aload_n 0, 1) := by decide +kernel
theorem dd_X3_prepare_9 : decode X3_prepare.2.1 9 = .ok (.aload_n 2, 1) := by decide +kernel
theorem dd_X3_prepare_10 : decode X3_prepare.2.1 10 = .ok (.iload_n 3, 1) := by decide +kernel
theorem dd_X3_prepare_11 : decode X3_prepare.2.1 11 = .ok (.aload_n 1, 1) := by decide +kernel
theorem dd_X3_prepare_12 : decode X3_prepare.2.1 12 = .ok (.invokevirtual 25, 3) := by decide +kernel
theorem dd_X3_prepare_15 : decode X3_prepare.2.1 15 = .ok (.putfield 31, 3) := by decide +kernel
theorem dd_X3_prepare_18 : decode X3_prepare.2.1 18 = .ok (.aload_n 0, 1) := by decide +kernel
theorem dd_X3_prepare_19 : decode X3_prepare.2.1 19 = .ok (.aload_n 2, 1) := by decide +kernel
theorem dd_X3_prepare_20 : decode X3_prepare.2.1 20 = .ok (.aload_n 1, 1) := by decide +kernel
theorem dd_X3_prepare_21 : decode X3_prepare.2.1 21 = .ok (.invokevirtual 35, 3) := by decide +kernel
theorem dd_X3_prepare_24 : decode X3_prepare.2.1 24 = .ok (.putfield 39, 3) := by decide +kernel
theorem dd_X3_prepare_27 : decode X3_prepare.2.1 27 = .ok (.aload_n 0, 1) := by decide +kernel
theorem dd_X3_prepare_28 : decode X3_prepare.2.1 28 = .ok (.lconst 0, 1) := by decide +kernel
theorem dd_X3_prepare_29 : decode X3_prepare.2.1 29 = .ok (.putfield 42, 3) := by decide +kernel
theorem dd_X3_prepare_32 : decode X3_prepare.2.1 32 = .ok (.iconst 0, 1) := by decide +kernel
theorem dd_X3_prepare_33 : decode X3_prepare.2.1 33 = .ok (.istore 4, 2) := by decide +kernel
theorem dd_X3_prepare_35 : decode X3_prepare.2.1 35 = .ok (.iload 4, 2) := by decide +kernel
theorem dd_X3_prepare_37 : decode X3_prepare.2.1 37 = .ok (.bipush 6, 2) := by decide +kernel
theorem dd_X3_prepare_39 : decode X3_prepare.2.1 39 = .ok (.if_icmp .ge 32, 3) := by decide +kernel
theorem dd_X3_prepare_42 : decode X3_prepare.2.1 42 = .ok (.aload_n 0, 1) := by decide +kernel
theorem dd_X3_prepare_43 : decode X3_prepare.2.1 43 = .ok (.dup, 1) := by decide +kernel
theorem dd_X3_prepare_44 : decode X3_prepare.2.1 44 = .ok (.getfield 42, 3) := by decide +kernel
theorem dd_X3_prepare_47 : decode X3_prepare.2.1 47 = .ok (.lconst 1, 1) := by decide +kernel
theorem dd_X3_prepare_48 : decode X3_prepare.2.1 48 = .ok (.iload 4, 2) := by decide +kernel
theorem dd_X3_prepare_50 : decode X3_prepare.2.1 50 = .ok (.bipush 8, 2) := by decide +kernel
theorem dd_X3_prepare_52 : decode X3_prepare.2.1 52 = .ok (.imul, 1) := by decide +kernel
theorem dd_X3_prepare_53 : decode X3_prepare.2.1 53 = .ok (.aload_n 0, 1) := by decide +kernel
theorem dd_X3_prepare_54 : decode X3_prepare.2.1 54 = .ok (.getfield 24, 3) := by decide +kernel
theorem dd_X3_prepare_57 : decode X3_prepare.2.1 57 = .ok (.iadd, 1) := by decide +kernel
theorem dd_X3_prepare_58 : decode X3_prepare.2.1 58 = .ok (.iconst 1, 1) := by decide +kernel
theorem dd_X3_prepare_59 : decode X3_prepare.2.1 59 = .ok (.isub, 1) := by decide +kernel
theorem dd_X3_prepare_60 : decode X3_prepare.2.1 60 = .ok (.lshl, 1) := by decide +kernel
theorem dd_X3_prepare_61 : decode X3_prepare.2.1 61 = .ok (.lor, 1) := by decide +kernel
theorem dd_X3_prepare_62 : decode X3_prepare.2.1 62 = .ok (.putfield 42, 3) := by decide +kernel
theorem dd_X3_prepare_65 : decode X3_prepare.2.1 65 = .ok (.iinc 4 1, 3) := by decide +kernel
theorem dd_X3_prepare_68 : decode X3_prepare.2.1 68 = .ok (.goto (-33), 3) := by decide +kernel
theorem dd_X3_prepare_71 : decode X3_prepare.2.1 71 = .ok (.aload_n 0, 1) := by decide +kernel
theorem dd_X3_prepare_72 : decode X3_prepare.2.1 72 = .ok (.getfield 11, 3) := by decide +kernel
theorem dd_X3_prepare_75 : decode X3_prepare.2.1 75 = .ok (.iconst 0, 1) := by decide +kernel
theorem dd_X3_prepare_76 : decode X3_prepare.2.1 76 = .ok (.aload_n 0, 1) := by decide +kernel
theorem dd_X3_prepare_77 : decode X3_prepare.2.1 77 = .ok (.getfield 31, 3) := by decide +kernel
theorem dd_X3_prepare_80 : decode X3_prepare.2.1 80 = .ok (.lastore, 1) := by decide +kernel
theorem dd_X3_prepare_81 : decode X3_prepare.2.1 81 = .ok (.aload_n 0, 1) := by decide +kernel
theorem dd_X3_prepare_82 : decode X3_prepare.2.1 82 = .ok (.aload_n 0, 1) := by decide +kernel
theorem dd_X3_prepare_83 : decode X3_prepare.2.1 83 = .ok (.getfield 31, 3) := by decide +kernel
theorem dd_X3_prepare_86 : decode X3_prepare.2.1 86 = .ok (.lconst 0, 1) := by decide +kernel
theorem dd_X3_prepare_87 : decode X3_prepare.2.1 87 = .ok (.lcmp, 1) := by decide +kernel
theorem dd_X3_prepare_88 : decode X3_prepare.2.1 88 = .ok (.ifCond .ne 7, 3) := by decide +kernel
theorem dd_X3_prepare_91 : decode X3_prepare.2.1 91 = .ok (.iconst 0, 1) := by decide +kernel
theorem dd_X3_prepare_92 : decode X3_prepare.2.1 92 = .ok (.goto 4, 3) := by decide +kernel
theorem dd_X3_prepare_95 : decode X3_prepare.2.1 95 = .ok (.iconst 1, 1) := by decide +kernel
theorem dd_X3_prepare_96 : decode X3_prepare.2.1 96 = .ok (.putfield 45, 3) := by decide +kernel
theorem dd_X3_prepare_99 : decode X3_prepare.2.1 99 = .ok (.return_, 1) := by decide +kernel
theorem dd_X3_states_0 : decode X3_states.2.1 0 = .ok (.iconst 0, 1) := by decide +kernel
theorem dd_X3_states_1 : decode X3_states.2.1 1 = .ok (.istore_n 1, 1) := by decide +kernel
theorem dd_X3_states_2 : decode X3_states.2.1 2 = .ok (.iload_n 1, 1) := by decide +kernel
theorem dd_X3_states_3 : decode X3_states.2.1 3 = .ok (.aload_n 0, 1) := by decide +kernel
theorem dd_X3_states_4 : decode X3_states.2.1 4 = .ok (.getfield 45, 3) := by decide +kernel
theorem dd_X3_states_7 : decode X3_states.2.1 7 = .ok (.if_icmp .ge 46, 3) := by decide +kernel
theorem dd_X3_states_10 : decode X3_states.2.1 10 = .ok (.iload_n 1, 1) := by decide +kernel
theorem dd_X3_states_11 : decode X3_states.2.1 11 = .ok (.sipush 256, 3) := by decide +kernel
theorem dd_X3_states_14 : decode X3_states.2.1 14 = .ok (.if_icmp .ge 39, 3) := by decide +kernel
theorem dd_X3_states_17 : decode X3_states.2.1 17 = .ok (.aload_n 0, 1) := by decide +kernel
theorem dd_X3_states_18 : decode X3_states.2.1 18 = .ok (.aload_n 0, 1) := by decide +kernel
theorem dd_X3_states_19 : decode X3_states.2.1 19 = .ok (.aload_n 0, 1) := by decide +kernel
theorem dd_X3_states_20 : decode X3_states.2.1 20 = .ok (.getfield 11, 3) := by decide +kernel
theorem dd_X3_states_23 : decode X3_states.2.1 23 = .ok (.iload_n 1, 1) := by decide +kernel
theorem dd_X3_states_24 : decode X3_states.2.1 24 = .ok (.laload, 1) := by decide +kernel
theorem dd_X3_states_25 : decode X3_states.2.1 25 = .ok (.iconst 0, 1) := by decide +kernel
theorem dd_X3_states_26 : decode X3_states.2.1 26 = .ok (.invokevirtual 48, 3) := by decide +kernel
theorem dd_X3_states_29 : decode X3_states.2.1 29 = .ok (.invokevirtual 52, 3) := by decide +kernel
theorem dd_X3_states_32 : decode X3_states.2.1 32 = .ok (.aload_n 0, 1) := by decide +kernel
theorem dd_X3_states_33 : decode X3_states.2.1 33 = .ok (.aload_n 0, 1) := by decide +kernel
theorem dd_X3_states_34 : decode X3_states.2.1 34 = .ok (.aload_n 0, 1) := by decide +kernel
theorem dd_X3_states_35 : decode X3_states.2.1 35 = .ok (.getfield 11, 3) := by decide +kernel
theorem dd_X3_states_38 : decode X3_states.2.1 38 = .ok (.iload_n 1, 1) := by decide +kernel
theorem dd_X3_states_39 : decode X3_states.2.1 39 = .ok (.laload, 1) := by decide +kernel
theorem dd_X3_states_40 : decode X3_states.2.1 40 = .ok (.iconst 1, 1) := by decide +kernel
theorem dd_X3_states_41 : decode X3_states.2.1 41 = .ok (.invokevirtual 48, 3) := by decide +kernel
theorem dd_X3_states_44 : decode X3_states.2.1 44 = .ok (.invokevirtual 52, 3) := by decide +kernel
theorem dd_X3_states_47 : decode X3_states.2.1 47 = .ok (.iinc 1 1, 3) := by decide +kernel
theorem dd_X3_states_50 : decode X3_states.2.1 50 = .ok (.goto (-48), 3) := by decide +kernel
theorem dd_X3_states_53 : decode X3_states.2.1 53 = .ok (.aload_n 0, 1) := by decide +kernel
theorem dd_X3_states_54 : decode X3_states.2.1 54 = .ok (.getfield 45, 3) := by decide +kernel
theorem dd_X3_states_57 : decode X3_states.2.1 57 = .ok (.ireturn, 1) := by decide +kernel
theorem dd_X3_named_0 : decode X3_named.2.1 0 = .ok (.iconst 0, 1) := by decide +kernel
theorem dd_X3_named_1 : decode X3_named.2.1 1 = .ok (.istore_n 1, 1) := by decide +kernel
theorem dd_X3_named_2 : decode X3_named.2.1 2 = .ok (.aload_n 0, 1) := by decide +kernel
theorem dd_X3_named_3 : decode X3_named.2.1 3 = .ok (.getfield 45, 3) := by decide +kernel
theorem dd_X3_named_6 : decode X3_named.2.1 6 = .ok (.ifCond .le 28, 3) := by decide +kernel
theorem dd_X3_named_9 : decode X3_named.2.1 9 = .ok (.iload_n 1, 1) := by decide +kernel
theorem dd_X3_named_10 : decode X3_named.2.1 10 = .ok (.bipush 40, 2) := by decide +kernel
theorem dd_X3_named_12 : decode X3_named.2.1 12 = .ok (.if_icmp .gt 22, 3) := by decide +kernel
theorem dd_X3_named_15 : decode X3_named.2.1 15 = .ok (.aload_n 0, 1) := by decide +kernel
theorem dd_X3_named_16 : decode X3_named.2.1 16 = .ok (.invokevirtual 56, 3) := by decide +kernel
theorem dd_X3_named_19 : decode X3_named.2.1 19 = .ok (.ifCond .eq 5, 3) := by decide +kernel
theorem dd_X3_named_22 : decode X3_named.2.1 22 = .ok (.iload_n 1, 1) := by decide +kernel
theorem dd_X3_named_23 : decode X3_named.2.1 23 = .ok (.ireturn, 1) := by decide +kernel
theorem dd_X3_named_24 : decode X3_named.2.1 24 = .ok (.aload_n 0, 1) := by decide +kernel
theorem dd_X3_named_25 : decode X3_named.2.1 25 = .ok (.invokevirtual 60, 3) := by decide +kernel
theorem dd_X3_named_28 : decode X3_named.2.1 28 = .ok (.iinc 1 1, 3) := by decide +kernel
theorem dd_X3_named_31 : decode X3_named.2.1 31 = .ok (.goto (-29), 3) := by decide +kernel
theorem dd_X3_named_34 : decode X3_named.2.1 34 = .ok (.iconst (-1), 1) := by decide +kernel
theorem dd_X3_named_35 : decode X3_named.2.1 35 = .ok (.ireturn, 1) := by decide +kernel
theorem dd_X3_behind_0 : decode X3_behind.2.1 0 = .ok (.iload_n 3, 1) := by decide +kernel
theorem dd_X3_behind_1 : decode X3_behind.2.1 1 = .ok (.iconst 1, 1) := by decide +kernel
theorem dd_X3_behind_2 : decode X3_behind.2.1 2 = .ok (.if_icmp .ne 12, 3) := by decide +kernel
theorem dd_X3_behind_5 : decode X3_behind.2.1 5 = .ok (.lload_n 1, 1) := by decide +kernel
theorem dd_X3_behind_6 : decode X3_behind.2.1 6 = .ok (.aload_n 0, 1) := by decide +kernel
theorem dd_X3_behind_7 : decode X3_behind.2.1 7 = .ok (.getfield 39, 3) := by decide +kernel
theorem dd_X3_behind_10 : decode X3_behind.2.1 10 = .ok (.land, 1) := by decide +kernel
theorem dd_X3_behind_11 : decode X3_behind.2.1 11 = .ok (.goto 13, 3) := by decide +kernel
theorem dd_X3_behind_14 : decode X3_behind.2.1 14 = .ok (.lload_n 1, 1) := by decide +kernel
theorem dd_X3_behind_15 : decode X3_behind.2.1 15 = .ok (.aload_n 0, 1) := by decide +kernel
theorem dd_X3_behind_16 : decode X3_behind.2.1 16 = .ok (.getfield 39, 3) := by decide +kernel
theorem dd_X3_behind_19 : decode X3_behind.2.1 19 = .ok (.ldc2_w 63, 3) := by decide +kernel
theorem dd_X3_behind_22 : decode X3_behind.2.1 22 = .ok (.lxor, 1) := by decide +kernel
theorem dd_X3_behind_23 : decode X3_behind.2.1 23 = .ok (.land, 1) := by decide +kernel
theorem dd_X3_behind_24 : decode X3_behind.2.1 24 = .ok (.lstore 4, 2) := by decide +kernel
theorem dd_X3_behind_26 : decode X3_behind.2.1 26 = .ok (.lload 4, 2) := by decide +kernel
theorem dd_X3_behind_28 : decode X3_behind.2.1 28 = .ok (.aload_n 0, 1) := by decide +kernel
theorem dd_X3_behind_29 : decode X3_behind.2.1 29 = .ok (.getfield 42, 3) := by decide +kernel
theorem dd_X3_behind_32 : decode X3_behind.2.1 32 = .ok (.land, 1) := by decide +kernel
theorem dd_X3_behind_33 : decode X3_behind.2.1 33 = .ok (.lstore 6, 2) := by decide +kernel
theorem dd_X3_behind_35 : decode X3_behind.2.1 35 = .ok (.lload 4, 2) := by decide +kernel
theorem dd_X3_behind_37 : decode X3_behind.2.1 37 = .ok (.lload 6, 2) := by decide +kernel
theorem dd_X3_behind_39 : decode X3_behind.2.1 39 = .ok (.lxor, 1) := by decide +kernel
theorem dd_X3_behind_40 : decode X3_behind.2.1 40 = .ok (.iconst 1, 1) := by decide +kernel
theorem dd_X3_behind_41 : decode X3_behind.2.1 41 = .ok (.lshl, 1) := by decide +kernel
theorem dd_X3_behind_42 : decode X3_behind.2.1 42 = .ok (.lload 6, 2) := by decide +kernel
theorem dd_X3_behind_44 : decode X3_behind.2.1 44 = .ok (.aload_n 0, 1) := by decide +kernel
theorem dd_X3_behind_45 : decode X3_behind.2.1 45 = .ok (.getfield 24, 3) := by decide +kernel
theorem dd_X3_behind_48 : decode X3_behind.2.1 48 = .ok (.iconst 1, 1) := by decide +kernel
theorem dd_X3_behind_49 : decode X3_behind.2.1 49 = .ok (.isub, 1) := by decide +kernel
theorem dd_X3_behind_50 : decode X3_behind.2.1 50 = .ok (.lushr, 1) := by decide +kernel
theorem dd_X3_behind_51 : decode X3_behind.2.1 51 = .ok (.lor, 1) := by decide +kernel
theorem dd_X3_behind_52 : decode X3_behind.2.1 52 = .ok (.lreturn, 1) := by decide +kernel
theorem dd_X3_addIfNew_0 : decode X3_addIfNew.2.1 0 = .ok (.lload_n 1, 1) := by decide +kernel
theorem dd_X3_addIfNew_1 : decode X3_addIfNew.2.1 1 = .ok (.lconst 0, 1) := by decide +kernel
theorem dd_X3_addIfNew_2 : decode X3_addIfNew.2.1 2 = .ok (.lcmp, 1) := by decide +kernel
theorem dd_X3_addIfNew_3 : decode X3_addIfNew.2.1 3 = .ok (.ifCond .eq 13, 3) := by decide +kernel
theorem dd_X3_addIfNew_6 : decode X3_addIfNew.2.1 6 = .ok (.aload_n 0, 1) := by decide +kernel
theorem dd_X3_addIfNew_7 : decode X3_addIfNew.2.1 7 = .ok (.getfield 45, 3) := by decide +kernel
theorem dd_X3_addIfNew_10 : decode X3_addIfNew.2.1 10 = .ok (.sipush 256, 3) := by decide +kernel
theorem dd_X3_addIfNew_13 : decode X3_addIfNew.2.1 13 = .ok (.if_icmp .lt 4, 3) := by decide +kernel
theorem dd_X3_addIfNew_16 : decode X3_addIfNew.2.1 16 = .ok (.return_, 1) := by decide +kernel
theorem dd_X3_addIfNew_17 : decode X3_addIfNew.2.1 17 = .ok (.iconst 0, 1) := by decide +kernel
theorem dd_X3_addIfNew_18 : decode X3_addIfNew.2.1 18 = .ok (.istore_n 3, 1) := by decide +kernel
theorem dd_X3_addIfNew_19 : decode X3_addIfNew.2.1 19 = .ok (.iload_n 3, 1) := by decide +kernel
theorem dd_X3_addIfNew_20 : decode X3_addIfNew.2.1 20 = .ok (.aload_n 0, 1) := by decide +kernel
theorem dd_X3_addIfNew_21 : decode X3_addIfNew.2.1 21 = .ok (.getfield 45, 3) := by decide +kernel
theorem dd_X3_addIfNew_24 : decode X3_addIfNew.2.1 24 = .ok (.if_icmp .ge 21, 3) := by decide +kernel
theorem dd_X3_addIfNew_27 : decode X3_addIfNew.2.1 27 = .ok (.aload_n 0, 1) := by decide +kernel
theorem dd_X3_addIfNew_28 : decode X3_addIfNew.2.1 28 = .ok (.getfield 11, 3) := by decide +kernel
theorem dd_X3_addIfNew_31 : decode X3_addIfNew.2.1 31 = .ok (.iload_n 3, 1) := by decide +kernel
theorem dd_X3_addIfNew_32 : decode X3_addIfNew.2.1 32 = .ok (.laload, 1) := by decide +kernel
theorem dd_X3_addIfNew_33 : decode X3_addIfNew.2.1 33 = .ok (.lload_n 1, 1) := by decide +kernel
theorem dd_X3_addIfNew_34 : decode X3_addIfNew.2.1 34 = .ok (.lcmp, 1) := by decide +kernel
theorem dd_X3_addIfNew_35 : decode X3_addIfNew.2.1 35 = .ok (.ifCond .ne 4, 3) := by decide +kernel
theorem dd_X3_addIfNew_38 : decode X3_addIfNew.2.1 38 = .ok (.return_, 1) := by decide +kernel
theorem dd_X3_addIfNew_39 : decode X3_addIfNew.2.1 39 = .ok (.iinc 3 1, 3) := by decide +kernel
theorem dd_X3_addIfNew_42 : decode X3_addIfNew.2.1 42 = .ok (.goto (-23), 3) := by decide +kernel
theorem dd_X3_addIfNew_45 : decode X3_addIfNew.2.1 45 = .ok (.aload_n 0, 1) := by decide +kernel
theorem dd_X3_addIfNew_46 : decode X3_addIfNew.2.1 46 = .ok (.getfield 11, 3) := by decide +kernel
theorem dd_X3_addIfNew_49 : decode X3_addIfNew.2.1 49 = .ok (.aload_n 0, 1) := by decide +kernel
theorem dd_X3_addIfNew_50 : decode X3_addIfNew.2.1 50 = .ok (.getfield 45, 3) := by decide +kernel
theorem dd_X3_addIfNew_53 : decode X3_addIfNew.2.1 53 = .ok (.lload_n 1, 1) := by decide +kernel
theorem dd_X3_addIfNew_54 : decode X3_addIfNew.2.1 54 = .ok (.lastore, 1) := by decide +kernel
theorem dd_X3_addIfNew_55 : decode X3_addIfNew.2.1 55 = .ok (.aload_n 0, 1) := by decide +kernel
theorem dd_X3_addIfNew_56 : decode X3_addIfNew.2.1 56 = .ok (.dup, 1) := by decide +kernel
theorem dd_X3_addIfNew_57 : decode X3_addIfNew.2.1 57 = .ok (.getfield 45, 3) := by decide +kernel
theorem dd_X3_addIfNew_60 : decode X3_addIfNew.2.1 60 = .ok (.iconst 1, 1) := by decide +kernel
theorem dd_X3_addIfNew_61 : decode X3_addIfNew.2.1 61 = .ok (.iadd, 1) := by decide +kernel
theorem dd_X3_addIfNew_62 : decode X3_addIfNew.2.1 62 = .ok (.putfield 45, 3) := by decide +kernel
theorem dd_X3_addIfNew_65 : decode X3_addIfNew.2.1 65 = .ok (.return_, 1) := by decide +kernel
theorem dd_X3_takeAnyBeat_0 : decode X3_takeAnyBeat.2.1 0 = .ok (.iconst 0, 1) := by decide +kernel
theorem dd_X3_takeAnyBeat_1 : decode X3_takeAnyBeat.2.1 1 = .ok (.istore_n 1, 1) := by decide +kernel
theorem dd_X3_takeAnyBeat_2 : decode X3_takeAnyBeat.2.1 2 = .ok (.iconst 0, 1) := by decide +kernel
theorem dd_X3_takeAnyBeat_3 : decode X3_takeAnyBeat.2.1 3 = .ok (.istore_n 2, 1) := by decide +kernel
theorem dd_X3_takeAnyBeat_4 : decode X3_takeAnyBeat.2.1 4 = .ok (.iload_n 2, 1) := by decide +kernel
theorem dd_X3_takeAnyBeat_5 : decode X3_takeAnyBeat.2.1 5 = .ok (.aload_n 0, 1) := by decide +kernel
theorem dd_X3_takeAnyBeat_6 : decode X3_takeAnyBeat.2.1 6 = .ok (.getfield 45, 3) := by decide +kernel
theorem dd_X3_takeAnyBeat_9 : decode X3_takeAnyBeat.2.1 9 = .ok (.if_icmp .ge 59, 3) := by decide +kernel
theorem dd_X3_takeAnyBeat_12 : decode X3_takeAnyBeat.2.1 12 = .ok (.iconst 0, 1) := by decide +kernel
theorem dd_X3_takeAnyBeat_13 : decode X3_takeAnyBeat.2.1 13 = .ok (.istore_n 3, 1) := by decide +kernel
theorem dd_X3_takeAnyBeat_14 : decode X3_takeAnyBeat.2.1 14 = .ok (.iload_n 3, 1) := by decide +kernel
theorem dd_X3_takeAnyBeat_15 : decode X3_takeAnyBeat.2.1 15 = .ok (.iconst 1, 1) := by decide +kernel
theorem dd_X3_takeAnyBeat_16 : decode X3_takeAnyBeat.2.1 16 = .ok (.if_icmp .gt 46, 3) := by decide +kernel
theorem dd_X3_takeAnyBeat_19 : decode X3_takeAnyBeat.2.1 19 = .ok (.aload_n 0, 1) := by decide +kernel
theorem dd_X3_takeAnyBeat_20 : decode X3_takeAnyBeat.2.1 20 = .ok (.aload_n 0, 1) := by decide +kernel
theorem dd_X3_takeAnyBeat_21 : decode X3_takeAnyBeat.2.1 21 = .ok (.getfield 11, 3) := by decide +kernel
theorem dd_X3_takeAnyBeat_24 : decode X3_takeAnyBeat.2.1 24 = .ok (.iload_n 2, 1) := by decide +kernel
theorem dd_X3_takeAnyBeat_25 : decode X3_takeAnyBeat.2.1 25 = .ok (.laload, 1) := by decide +kernel
theorem dd_X3_takeAnyBeat_26 : decode X3_takeAnyBeat.2.1 26 = .ok (.iload_n 3, 1) := by decide +kernel
theorem dd_X3_takeAnyBeat_27 : decode X3_takeAnyBeat.2.1 27 = .ok (.invokevirtual 48, 3) := by decide +kernel
theorem dd_X3_takeAnyBeat_30 : decode X3_takeAnyBeat.2.1 30 = .ok (.lstore 4, 2) := by decide +kernel
theorem dd_X3_takeAnyBeat_32 : decode X3_takeAnyBeat.2.1 32 = .ok (.lload 4, 2) := by decide +kernel
theorem dd_X3_takeAnyBeat_34 : decode X3_takeAnyBeat.2.1 34 = .ok (.lconst 0, 1) := by decide +kernel
theorem dd_X3_takeAnyBeat_35 : decode X3_takeAnyBeat.2.1 35 = .ok (.lcmp, 1) := by decide +kernel
theorem dd_X3_takeAnyBeat_36 : decode X3_takeAnyBeat.2.1 36 = .ok (.ifCond .eq 20, 3) := by decide +kernel
theorem dd_X3_takeAnyBeat_39 : decode X3_takeAnyBeat.2.1 39 = .ok (.iload_n 1, 1) := by decide +kernel
theorem dd_X3_takeAnyBeat_40 : decode X3_takeAnyBeat.2.1 40 = .ok (.bipush 48, 2) := by decide +kernel
theorem dd_X3_takeAnyBeat_42 : decode X3_takeAnyBeat.2.1 42 = .ok (.if_icmp .ge 14, 3) := by decide +kernel
theorem dd_X3_takeAnyBeat_45 : decode X3_takeAnyBeat.2.1 45 = .ok (.aload_n 0, 1) := by decide +kernel
theorem dd_X3_takeAnyBeat_46 : decode X3_takeAnyBeat.2.1 46 = .ok (.getfield 15, 3) := by decide +kernel
theorem dd_X3_takeAnyBeat_49 : decode X3_takeAnyBeat.2.1 49 = .ok (.iload_n 1, 1) := by decide +kernel
theorem dd_X3_takeAnyBeat_50 : decode X3_takeAnyBeat.2.1 50 = .ok (.lload 4, 2) := by decide +kernel
theorem dd_X3_takeAnyBeat_52 : decode X3_takeAnyBeat.2.1 52 = .ok (.lastore, 1) := by decide +kernel
theorem dd_X3_takeAnyBeat_53 : decode X3_takeAnyBeat.2.1 53 = .ok (.iinc 1 1, 3) := by decide +kernel
theorem dd_X3_takeAnyBeat_56 : decode X3_takeAnyBeat.2.1 56 = .ok (.iinc 3 1, 3) := by decide +kernel
theorem dd_X3_takeAnyBeat_59 : decode X3_takeAnyBeat.2.1 59 = .ok (.goto (-45), 3) := by decide +kernel
theorem dd_X3_takeAnyBeat_62 : decode X3_takeAnyBeat.2.1 62 = .ok (.iinc 2 1, 3) := by decide +kernel
theorem dd_X3_takeAnyBeat_65 : decode X3_takeAnyBeat.2.1 65 = .ok (.goto (-61), 3) := by decide +kernel
theorem dd_X3_takeAnyBeat_68 : decode X3_takeAnyBeat.2.1 68 = .ok (.aload_n 0, 1) := by decide +kernel
theorem dd_X3_takeAnyBeat_69 : decode X3_takeAnyBeat.2.1 69 = .ok (.iload_n 1, 1) := by decide +kernel
theorem dd_X3_takeAnyBeat_70 : decode X3_takeAnyBeat.2.1 70 = .ok (.putfield 45, 3) := by decide +kernel
theorem dd_X3_takeAnyBeat_73 : decode X3_takeAnyBeat.2.1 73 = .ok (.aload_n 0, 1) := by decide +kernel
theorem dd_X3_takeAnyBeat_74 : decode X3_takeAnyBeat.2.1 74 = .ok (.getfield 15, 3) := by decide +kernel
theorem dd_X3_takeAnyBeat_77 : decode X3_takeAnyBeat.2.1 77 = .ok (.iconst 0, 1) := by decide +kernel
theorem dd_X3_takeAnyBeat_78 : decode X3_takeAnyBeat.2.1 78 = .ok (.aload_n 0, 1) := by decide +kernel
theorem dd_X3_takeAnyBeat_79 : decode X3_takeAnyBeat.2.1 79 = .ok (.getfield 11, 3) := by decide +kernel
theorem dd_X3_takeAnyBeat_82 : decode X3_takeAnyBeat.2.1 82 = .ok (.iconst 0, 1) := by decide +kernel
theorem dd_X3_takeAnyBeat_83 : decode X3_takeAnyBeat.2.1 83 = .ok (.aload_n 0, 1) := by decide +kernel
theorem dd_X3_takeAnyBeat_84 : decode X3_takeAnyBeat.2.1 84 = .ok (.getfield 45, 3) := by decide +kernel
theorem dd_X3_takeAnyBeat_87 : decode X3_takeAnyBeat.2.1 87 = .ok (.invokestatic 65, 3) := by decide +kernel
theorem dd_X3_takeAnyBeat_90 : decode X3_takeAnyBeat.2.1 90 = .ok (.return_, 1) := by decide +kernel
theorem dd_X3_allNameOneLight_0 : decode X3_allNameOneLight.2.1 0 = .ok (.iconst 0, 1) := by decide +kernel
theorem dd_X3_allNameOneLight_1 : decode X3_allNameOneLight.2.1 1 = .ok (.istore_n 1, 1) := by decide +kernel
theorem dd_X3_allNameOneLight_2 : decode X3_allNameOneLight.2.1 2 = .ok (.iload_n 1, 1) := by decide +kernel
theorem dd_X3_allNameOneLight_3 : decode X3_allNameOneLight.2.1 3 = .ok (.aload_n 0, 1) := by decide +kernel
theorem dd_X3_allNameOneLight_4 : decode X3_allNameOneLight.2.1 4 = .ok (.getfield 45, 3) := by decide +kernel
theorem dd_X3_allNameOneLight_7 : decode X3_allNameOneLight.2.1 7 = .ok (.if_icmp .ge 27, 3) := by decide +kernel
theorem dd_X3_allNameOneLight_10 : decode X3_allNameOneLight.2.1 10 = .ok (.aload_n 0, 1) := by decide +kernel
theorem dd_X3_allNameOneLight_11 : decode X3_allNameOneLight.2.1 11 = .ok (.getfield 11, 3) := by decide +kernel
theorem dd_X3_allNameOneLight_14 : decode X3_allNameOneLight.2.1 14 = .ok (.iload_n 1, 1) := by decide +kernel
theorem dd_X3_allNameOneLight_15 : decode X3_allNameOneLight.2.1 15 = .ok (.laload, 1) := by decide +kernel
theorem dd_X3_allNameOneLight_16 : decode X3_allNameOneLight.2.1 16 = .ok (.invokestatic 71, 3) := by decide +kernel
theorem dd_X3_allNameOneLight_19 : decode X3_allNameOneLight.2.1 19 = .ok (.invokestatic 75, 3) := by decide +kernel
theorem dd_X3_allNameOneLight_22 : decode X3_allNameOneLight.2.1 22 = .ok (.iconst 1, 1) := by decide +kernel
theorem dd_X3_allNameOneLight_23 : decode X3_allNameOneLight.2.1 23 = .ok (.if_icmp .eq 5, 3) := by decide +kernel
theorem dd_X3_allNameOneLight_26 : decode X3_allNameOneLight.2.1 26 = .ok (.iconst 0, 1) := by decide +kernel
theorem dd_X3_allNameOneLight_27 : decode X3_allNameOneLight.2.1 27 = .ok (.ireturn, 1) := by decide +kernel
theorem dd_X3_allNameOneLight_28 : decode X3_allNameOneLight.2.1 28 = .ok (.iinc 1 1, 3) := by decide +kernel
theorem dd_X3_allNameOneLight_31 : decode X3_allNameOneLight.2.1 31 = .ok (.goto (-29), 3) := by decide +kernel
theorem dd_X3_allNameOneLight_34 : decode X3_allNameOneLight.2.1 34 = .ok (.iconst 1, 1) := by decide +kernel
theorem dd_X3_allNameOneLight_35 : decode X3_allNameOneLight.2.1 35 = .ok (.ireturn, 1) := by decide +kernel
theorem dd_X4_makePlan_0 : decode X4_makePlan.2.1 0 = .ok (.aload_n 0, 1) := by decide +kernel
theorem dd_X4_makePlan_1 : decode X4_makePlan.2.1 1 = .ok (.aload_n 1, 1) := by decide +kernel
theorem dd_X4_makePlan_2 : decode X4_makePlan.2.1 2 = .ok (.iload_n 3, 1) := by decide +kernel
theorem dd_X4_makePlan_3 : decode X4_makePlan.2.1 3 = .ok (.invokevirtual 24, 3) := by decide +kernel
theorem dd_X4_makePlan_6 : decode X4_makePlan.2.1 6 = .ok (.aload_n 0, 1) := by decide +kernel
theorem dd_X4_makePlan_7 : decode X4_makePlan.2.1 7 = .ok (.aload_n 2, 1) := by decide +kernel
theorem dd_X4_makePlan_8 : decode X4_makePlan.2.1 8 = .ok (.getfield 28, 3) := by decide +kernel
theorem dd_X4_makePlan_11 : decode X4_makePlan.2.1 11 = .ok (.putfield 34, 3) := by decide +kernel
theorem dd_X4_makePlan_14 : decode X4_makePlan.2.1 14 = .ok (.iconst 0, 1) := by decide +kernel
theorem dd_X4_makePlan_15 : decode X4_makePlan.2.1 15 = .ok (.istore 4, 2) := by decide +kernel
theorem dd_X4_makePlan_17 : decode X4_makePlan.2.1 17 = .ok (.iload 4, 2) := by decide +kernel
theorem dd_X4_makePlan_19 : decode X4_makePlan.2.1 19 = .ok (.aload_n 0, 1) := by decide +kernel
theorem dd_X4_makePlan_20 : decode X4_makePlan.2.1 20 = .ok (.getfield 34, 3) := by decide +kernel
theorem dd_X4_makePlan_23 : decode X4_makePlan.2.1 23 = .ok (.if_icmp .ge 26, 3) := by decide +kernel
theorem dd_X4_makePlan_26 : decode X4_makePlan.2.1 26 = .ok (.aload_n 0, 1) := by decide +kernel
theorem dd_X4_makePlan_27 : decode X4_makePlan.2.1 27 = .ok (.getfield 18, 3) := by decide +kernel
theorem dd_X4_makePlan_30 : decode X4_makePlan.2.1 30 = .ok (.iload 4, 2) := by decide +kernel
theorem dd_X4_makePlan_32 : decode X4_makePlan.2.1 32 = .ok (.aload_n 2, 1) := by decide +kernel
theorem dd_X4_makePlan_33 : decode X4_makePlan.2.1 33 = .ok (.iload 4, 2) := by decide +kernel
theorem dd_X4_makePlan_35 : decode X4_makePlan.2.1 35 = .ok (.aload_n 1, 1) := by decide +kernel
theorem dd_X4_makePlan_36 : decode X4_makePlan.2.1 36 = .ok (.getfield 37, 3) := by decide +kernel
theorem dd_X4_makePlan_39 : decode X4_makePlan.2.1 39 = .ok (.invokevirtual 42, 3) := by decide +kernel
theorem dd_X4_makePlan_42 : decode X4_makePlan.2.1 42 = .ok (.iastore, 1) := by decide +kernel
theorem dd_X4_makePlan_43 : decode X4_makePlan.2.1 43 = .ok (.iinc 4 1, 3) := by decide +kernel
theorem dd_X4_makePlan_46 : decode X4_makePlan.2.1 46 = .ok (.goto (-29), 3) := by decide +kernel
theorem dd_X4_makePlan_49 : decode X4_makePlan.2.1 49 = .ok (.aload_n 0, 1) := by decide +kernel
theorem dd_X4_makePlan_50 : decode X4_makePlan.2.1 50 = .ok (.bipush 9, 2) := by decide +kernel
theorem dd_X4_makePlan_52 : decode X4_makePlan.2.1 52 = .ok (.putfield 45, 3) := by decide +kernel
theorem dd_X4_makePlan_55 : decode X4_makePlan.2.1 55 = .ok (.aload_n 0, 1) := by decide +kernel
theorem dd_X4_makePlan_56 : decode X4_makePlan.2.1 56 = .ok (.iconst 0, 1) := by decide +kernel
theorem dd_X4_makePlan_57 : decode X4_makePlan.2.1 57 = .ok (.iconst 0, 1) := by decide +kernel
theorem dd_X4_makePlan_58 : decode X4_makePlan.2.1 58 = .ok (.invokevirtual 48, 3) := by decide +kernel
theorem dd_X4_makePlan_61 : decode X4_makePlan.2.1 61 = .ok (.pop, 1) := by decide +kernel
theorem dd_X4_makePlan_62 : decode X4_makePlan.2.1 62 = .ok (.aload_n 0, 1) := by decide +kernel
theorem dd_X4_makePlan_63 : decode X4_makePlan.2.1 63 = .ok (.getfield 45, 3) := by decide +kernel
theorem dd_X4_makePlan_66 : decode X4_makePlan.2.1 66 = .ok (.bipush 8, 2) := by decide +kernel
theorem dd_X4_makePlan_68 : decode X4_makePlan.2.1 68 = .ok (.if_icmp .gt 7, 3) := by decide +kernel
theorem dd_X4_makePlan_71 : decode X4_makePlan.2.1 71 = .ok (.iconst 1, 1) := by decide +kernel
theorem dd_X4_makePlan_72 : decode X4_makePlan.2.1 72 = .ok (.goto 4, 3) := by decide +kernel
theorem dd_X4_makePlan_75 : decode X4_makePlan.2.1 75 = .ok (.iconst 0, 1) := by decide +kernel
theorem dd_X4_makePlan_76 : decode X4_makePlan.2.1 76 = .ok (.ireturn, 1) := by decide +kernel
theorem dd_X4_compareRhythms_0 : decode X4_compareRhythms.2.1 0 = .ok (.aload_n 0, 1) := by decide +kernel
theorem dd_X4_compareRhythms_1 : decode X4_compareRhythms.2.1 1 = .ok (.aload_n 1, 1) := by decide +kernel
theorem dd_X4_compareRhythms_2 : decode X4_compareRhythms.2.1 2 = .ok (.getfield 51, 3) := by decide +kernel
theorem dd_X4_compareRhythms_5 : decode X4_compareRhythms.2.1 5 = .ok (.putfield 52, 3) := by decide +kernel
theorem dd_X4_compareRhythms_8 : decode X4_compareRhythms.2.1 8 = .ok (.iconst 0, 1) := by decide +kernel
theorem dd_X4_compareRhythms_9 : decode X4_compareRhythms.2.1 9 = .ok (.istore_n 3, 1) := by decide +kernel
theorem dd_X4_compareRhythms_10 : decode X4_compareRhythms.2.1 10 = .ok (.iload_n 3, 1) := by decide +kernel
theorem dd_X4_compareRhythms_11 : decode X4_compareRhythms.2.1 11 = .ok (.aload_n 0, 1) := by decide +kernel
theorem dd_X4_compareRhythms_12 : decode X4_compareRhythms.2.1 12 = .ok (.getfield 52, 3) := by decide +kernel
theorem dd_X4_compareRhythms_15 : decode X4_compareRhythms.2.1 15 = .ok (.if_icmp .ge 21, 3) := by decide +kernel
theorem dd_X4_compareRhythms_18 : decode X4_compareRhythms.2.1 18 = .ok (.aload_n 0, 1) := by decide +kernel
theorem dd_X4_compareRhythms_19 : decode X4_compareRhythms.2.1 19 = .ok (.getfield 21, 3) := by decide +kernel
theorem dd_X4_compareRhythms_22 : decode X4_compareRhythms.2.1 22 = .ok (.iload_n 3, 1) := by decide +kernel
theorem dd_X4_compareRhythms_23 : decode X4_compareRhythms.2.1 23 = .ok (.aload_n 1, 1) := by decide +kernel
theorem dd_X4_compareRhythms_24 : decode X4_compareRhythms.2.1 24 = .ok (.iload_n 3, 1) := by decide +kernel
theorem dd_X4_compareRhythms_25 : decode X4_compareRhythms.2.1 25 = .ok (.iload_n 2, 1) := by decide +kernel
theorem dd_X4_compareRhythms_26 : decode X4_compareRhythms.2.1 26 = .ok (.invokevirtual 55, 3) := by decide +kernel
theorem dd_X4_compareRhythms_29 : decode X4_compareRhythms.2.1 29 = .ok (.iastore, 1) := by decide +kernel
theorem dd_X4_compareRhythms_30 : decode X4_compareRhythms.2.1 30 = .ok (.iinc 3 1, 3) := by decide +kernel
theorem dd_X4_compareRhythms_33 : decode X4_compareRhythms.2.1 33 = .ok (.goto (-23), 3) := by decide +kernel
theorem dd_X4_compareRhythms_36 : decode X4_compareRhythms.2.1 36 = .ok (.return_, 1) := by decide +kernel
theorem dd_X4_chooseFrom_0 : decode X4_chooseFrom.2.1 0 = .ok (.iload_n 1, 1) := by decide +kernel
theorem dd_X4_chooseFrom_1 : decode X4_chooseFrom.2.1 1 = .ok (.aload_n 0, 1) := by decide +kernel
theorem dd_X4_chooseFrom_2 : decode X4_chooseFrom.2.1 2 = .ok (.getfield 34, 3) := by decide +kernel
theorem dd_X4_chooseFrom_5 : decode X4_chooseFrom.2.1 5 = .ok (.if_icmp .lt 29, 3) := by decide +kernel
theorem dd_X4_chooseFrom_8 : decode X4_chooseFrom.2.1 8 = .ok (.aload_n 0, 1) := by decide +kernel
theorem dd_X4_chooseFrom_9 : decode X4_chooseFrom.2.1 9 = .ok (.iload_n 2, 1) := by decide +kernel
theorem dd_X4_chooseFrom_10 : decode X4_chooseFrom.2.1 10 = .ok (.invokestatic 58, 3) := by decide +kernel
theorem dd_X4_chooseFrom_13 : decode X4_chooseFrom.2.1 13 = .ok (.putfield 45, 3) := by decide +kernel
theorem dd_X4_chooseFrom_16 : decode X4_chooseFrom.2.1 16 = .ok (.aload_n 0, 1) := by decide +kernel
theorem dd_X4_chooseFrom_17 : decode X4_chooseFrom.2.1 17 = .ok (.getfield 15, 3) := by decide +kernel
theorem dd_X4_chooseFrom_20 : decode X4_chooseFrom.2.1 20 = .ok (.iconst 0, 1) := by decide +kernel
theorem dd_X4_chooseFrom_21 : decode X4_chooseFrom.2.1 21 = .ok (.aload_n 0, 1) := by decide +kernel
theorem dd_X4_chooseFrom_22 : decode X4_chooseFrom.2.1 22 = .ok (.getfield 9, 3) := by decide +kernel
theorem dd_X4_chooseFrom_25 : decode X4_chooseFrom.2.1 25 = .ok (.iconst 0, 1) := by decide +kernel
theorem dd_X4_chooseFrom_26 : decode X4_chooseFrom.2.1 26 = .ok (.bipush 6, 2) := by decide +kernel
theorem dd_X4_chooseFrom_28 : decode X4_chooseFrom.2.1 28 = .ok (.invokestatic 64, 3) := by decide +kernel
theorem dd_X4_chooseFrom_31 : decode X4_chooseFrom.2.1 31 = .ok (.bipush 63, 2) := by decide +kernel
theorem dd_X4_chooseFrom_33 : decode X4_chooseFrom.2.1 33 = .ok (.ireturn, 1) := by decide +kernel
theorem dd_X4_chooseFrom_34 : decode X4_chooseFrom.2.1 34 = .ok (.aload_n 0, 1) := by decide +kernel
theorem dd_X4_chooseFrom_35 : decode X4_chooseFrom.2.1 35 = .ok (.iload_n 1, 1) := by decide +kernel
theorem dd_X4_chooseFrom_36 : decode X4_chooseFrom.2.1 36 = .ok (.invokevirtual 70, 3) := by decide +kernel
theorem dd_X4_chooseFrom_39 : decode X4_chooseFrom.2.1 39 = .ok (.istore_n 3, 1) := by decide +kernel
theorem dd_X4_chooseFrom_40 : decode X4_chooseFrom.2.1 40 = .ok (.aload_n 0, 1) := by decide +kernel
theorem dd_X4_chooseFrom_41 : decode X4_chooseFrom.2.1 41 = .ok (.getfield 18, 3) := by decide +kernel
theorem dd_X4_chooseFrom_44 : decode X4_chooseFrom.2.1 44 = .ok (.iload_n 1, 1) := by decide +kernel
theorem dd_X4_chooseFrom_45 : decode X4_chooseFrom.2.1 45 = .ok (.iaload, 1) := by decide +kernel
theorem dd_X4_chooseFrom_46 : decode X4_chooseFrom.2.1 46 = .ok (.istore 4, 2) := by decide +kernel
theorem dd_X4_chooseFrom_48 : decode X4_chooseFrom.2.1 48 = .ok (.iconst 0, 1) := by decide +kernel
theorem dd_X4_chooseFrom_49 : decode X4_chooseFrom.2.1 49 = .ok (.istore 5, 2) := by decide +kernel
theorem dd_X4_chooseFrom_51 : decode X4_chooseFrom.2.1 51 = .ok (.iload 5, 2) := by decide +kernel
theorem dd_X4_chooseFrom_53 : decode X4_chooseFrom.2.1 53 = .ok (.aload_n 0, 1) := by decide +kernel
theorem dd_X4_chooseFrom_54 : decode X4_chooseFrom.2.1 54 = .ok (.getfield 52, 3) := by decide +kernel
theorem dd_X4_chooseFrom_57 : decode X4_chooseFrom.2.1 57 = .ok (.if_icmp .ge 100, 3) := by decide +kernel
theorem dd_X4_chooseFrom_60 : decode X4_chooseFrom.2.1 60 = .ok (.iload_n 2, 1) := by decide +kernel
theorem dd_X4_chooseFrom_61 : decode X4_chooseFrom.2.1 61 = .ok (.iconst 1, 1) := by decide +kernel
theorem dd_X4_chooseFrom_62 : decode X4_chooseFrom.2.1 62 = .ok (.iload 5, 2) := by decide +kernel
theorem dd_X4_chooseFrom_64 : decode X4_chooseFrom.2.1 64 = .ok (.ishl, 1) := by decide +kernel
theorem dd_X4_chooseFrom_65 : decode X4_chooseFrom.2.1 65 = .ok (.ior, 1) := by decide +kernel
theorem dd_X4_chooseFrom_66 : decode X4_chooseFrom.2.1 66 = .ok (.istore 6, 2) := by decide +kernel
theorem dd_X4_chooseFrom_68 : decode X4_chooseFrom.2.1 68 = .ok (.iload_n 3, 1) := by decide +kernel
theorem dd_X4_chooseFrom_69 : decode X4_chooseFrom.2.1 69 = .ok (.iload 5, 2) := by decide +kernel
theorem dd_X4_chooseFrom_71 : decode X4_chooseFrom.2.1 71 = .ok (.ishr, 1) := by decide +kernel
theorem dd_X4_chooseFrom_72 : decode X4_chooseFrom.2.1 72 = .ok (.iconst 1, 1) := by decide +kernel
theorem dd_X4_chooseFrom_73 : decode X4_chooseFrom.2.1 73 = .ok (.iand, 1) := by decide +kernel
theorem dd_X4_chooseFrom_74 : decode X4_chooseFrom.2.1 74 = .ok (.ifCond .ne 7, 3) := by decide +kernel
theorem dd_X4_chooseFrom_77 : decode X4_chooseFrom.2.1 77 = .ok (.iconst 1, 1) := by decide +kernel
theorem dd_X4_chooseFrom_78 : decode X4_chooseFrom.2.1 78 = .ok (.goto 4, 3) := by decide +kernel
theorem dd_X4_chooseFrom_81 : decode X4_chooseFrom.2.1 81 = .ok (.iconst 0, 1) := by decide +kernel
theorem dd_X4_chooseFrom_82 : decode X4_chooseFrom.2.1 82 = .ok (.istore 7, 2) := by decide +kernel
theorem dd_X4_chooseFrom_84 : decode X4_chooseFrom.2.1 84 = .ok (.iload 7, 2) := by decide +kernel
theorem dd_X4_chooseFrom_86 : decode X4_chooseFrom.2.1 86 = .ok (.ifCond .eq 22, 3) := by decide +kernel
theorem dd_X4_chooseFrom_89 : decode X4_chooseFrom.2.1 89 = .ok (.iload 6, 2) := by decide +kernel
theorem dd_X4_chooseFrom_91 : decode X4_chooseFrom.2.1 91 = .ok (.invokestatic 58, 3) := by decide +kernel
theorem dd_X4_chooseFrom_94 : decode X4_chooseFrom.2.1 94 = .ok (.aload_n 0, 1) := by decide +kernel
theorem dd_X4_chooseFrom_95 : decode X4_chooseFrom.2.1 95 = .ok (.getfield 45, 3) := by decide +kernel
theorem dd_X4_chooseFrom_98 : decode X4_chooseFrom.2.1 98 = .ok (.if_icmp .lt 10, 3) := by decide +kernel
theorem dd_X4_chooseFrom_101 : decode X4_chooseFrom.2.1 101 = .ok (.bipush 63, 2) := by decide +kernel
theorem dd_X4_chooseFrom_103 : decode X4_chooseFrom.2.1 103 = .ok (.istore 4, 2) := by decide +kernel
theorem dd_X4_chooseFrom_105 : decode X4_chooseFrom.2.1 105 = .ok (.goto 46, 3) := by decide +kernel
theorem dd_X4_chooseFrom_108 : decode X4_chooseFrom.2.1 108 = .ok (.iload 7, 2) := by decide +kernel
theorem dd_X4_chooseFrom_110 : decode X4_chooseFrom.2.1 110 = .ok (.ifCond .eq 41, 3) := by decide +kernel
theorem dd_X4_chooseFrom_113 : decode X4_chooseFrom.2.1 113 = .ok (.aload_n 0, 1) := by decide +kernel
theorem dd_X4_chooseFrom_114 : decode X4_chooseFrom.2.1 114 = .ok (.getfield 15, 3) := by decide +kernel
theorem dd_X4_chooseFrom_117 : decode X4_chooseFrom.2.1 117 = .ok (.iload_n 1, 1) := by decide +kernel
theorem dd_X4_chooseFrom_118 : decode X4_chooseFrom.2.1 118 = .ok (.iload 5, 2) := by decide +kernel
theorem dd_X4_chooseFrom_120 : decode X4_chooseFrom.2.1 120 = .ok (.iastore, 1) := by decide +kernel
theorem dd_X4_chooseFrom_121 : decode X4_chooseFrom.2.1 121 = .ok (.aload_n 0, 1) := by decide +kernel
theorem dd_X4_chooseFrom_122 : decode X4_chooseFrom.2.1 122 = .ok (.iload_n 1, 1) := by decide +kernel
theorem dd_X4_chooseFrom_123 : decode X4_chooseFrom.2.1 123 = .ok (.iconst 1, 1) := by decide +kernel
theorem dd_X4_chooseFrom_124 : decode X4_chooseFrom.2.1 124 = .ok (.iadd, 1) := by decide +kernel
theorem dd_X4_chooseFrom_125 : decode X4_chooseFrom.2.1 125 = .ok (.iload 6, 2) := by decide +kernel
theorem dd_X4_chooseFrom_127 : decode X4_chooseFrom.2.1 127 = .ok (.invokevirtual 48, 3) := by decide +kernel
theorem dd_X4_chooseFrom_130 : decode X4_chooseFrom.2.1 130 = .ok (.istore 8, 2) := by decide +kernel
theorem dd_X4_chooseFrom_132 : decode X4_chooseFrom.2.1 132 = .ok (.iload 8, 2) := by decide +kernel
theorem dd_X4_chooseFrom_134 : decode X4_chooseFrom.2.1 134 = .ok (.iload_n 1, 1) := by decide +kernel
theorem dd_X4_chooseFrom_135 : decode X4_chooseFrom.2.1 135 = .ok (.ishr, 1) := by decide +kernel
theorem dd_X4_chooseFrom_136 : decode X4_chooseFrom.2.1 136 = .ok (.iconst 1, 1) := by decide +kernel
theorem dd_X4_chooseFrom_137 : decode X4_chooseFrom.2.1 137 = .ok (.iand, 1) := by decide +kernel
theorem dd_X4_chooseFrom_138 : decode X4_chooseFrom.2.1 138 = .ok (.ifCond .ne 6, 3) := by decide +kernel
theorem dd_X4_chooseFrom_141 : decode X4_chooseFrom.2.1 141 = .ok (.iload 8, 2) := by decide +kernel
theorem dd_X4_chooseFrom_143 : decode X4_chooseFrom.2.1 143 = .ok (.ireturn, 1) := by decide +kernel
theorem dd_X4_chooseFrom_144 : decode X4_chooseFrom.2.1 144 = .ok (.iload 4, 2) := by decide +kernel
theorem dd_X4_chooseFrom_146 : decode X4_chooseFrom.2.1 146 = .ok (.iload 8, 2) := by decide +kernel
theorem dd_X4_chooseFrom_148 : decode X4_chooseFrom.2.1 148 = .ok (.ior, 1) := by decide +kernel
theorem dd_X4_chooseFrom_149 : decode X4_chooseFrom.2.1 149 = .ok (.istore 4, 2) := by decide +kernel
theorem dd_X4_chooseFrom_151 : decode X4_chooseFrom.2.1 151 = .ok (.iinc 5 1, 3) := by decide +kernel
theorem dd_X4_chooseFrom_154 : decode X4_chooseFrom.2.1 154 = .ok (.goto (-103), 3) := by decide +kernel
theorem dd_X4_chooseFrom_157 : decode X4_chooseFrom.2.1 157 = .ok (.iload 4, 2) := by decide +kernel
theorem dd_X4_chooseFrom_159 : decode X4_chooseFrom.2.1 159 = .ok (.ireturn, 1) := by decide +kernel
theorem dd_X4_refusedFor_0 : decode X4_refusedFor.2.1 0 = .ok (.iconst 0, 1) := by decide +kernel
theorem dd_X4_refusedFor_1 : decode X4_refusedFor.2.1 1 = .ok (.istore_n 2, 1) := by decide +kernel
theorem dd_X4_refusedFor_2 : decode X4_refusedFor.2.1 2 = .ok (.iconst 0, 1) := by decide +kernel
theorem dd_X4_refusedFor_3 : decode X4_refusedFor.2.1 3 = .ok (.istore_n 3, 1) := by decide +kernel
theorem dd_X4_refusedFor_4 : decode X4_refusedFor.2.1 4 = .ok (.iload_n 3, 1) := by decide +kernel
theorem dd_X4_refusedFor_5 : decode X4_refusedFor.2.1 5 = .ok (.iload_n 1, 1) := by decide +kernel
theorem dd_X4_refusedFor_6 : decode X4_refusedFor.2.1 6 = .ok (.if_icmp .ge 37, 3) := by decide +kernel
theorem dd_X4_refusedFor_9 : decode X4_refusedFor.2.1 9 = .ok (.aload_n 0, 1) := by decide +kernel
theorem dd_X4_refusedFor_10 : decode X4_refusedFor.2.1 10 = .ok (.getfield 18, 3) := by decide +kernel
theorem dd_X4_refusedFor_13 : decode X4_refusedFor.2.1 13 = .ok (.iload_n 1, 1) := by decide +kernel
theorem dd_X4_refusedFor_14 : decode X4_refusedFor.2.1 14 = .ok (.iaload, 1) := by decide +kernel
theorem dd_X4_refusedFor_15 : decode X4_refusedFor.2.1 15 = .ok (.iload_n 3, 1) := by decide +kernel
theorem dd_X4_refusedFor_16 : decode X4_refusedFor.2.1 16 = .ok (.ishr, 1) := by decide +kernel
theorem dd_X4_refusedFor_17 : decode X4_refusedFor.2.1 17 = .ok (.iconst 1, 1) := by decide +kernel
theorem dd_X4_refusedFor_18 : decode X4_refusedFor.2.1 18 = .ok (.iand, 1) := by decide +kernel
theorem dd_X4_refusedFor_19 : decode X4_refusedFor.2.1 19 = .ok (.iconst 1, 1) := by decide +kernel
theorem dd_X4_refusedFor_20 : decode X4_refusedFor.2.1 20 = .ok (.if_icmp .ne 17, 3) := by decide +kernel
theorem dd_X4_refusedFor_23 : decode X4_refusedFor.2.1 23 = .ok (.iload_n 2, 1) := by decide +kernel
theorem dd_X4_refusedFor_24 : decode X4_refusedFor.2.1 24 = .ok (.aload_n 0, 1) := by decide +kernel
theorem dd_X4_refusedFor_25 : decode X4_refusedFor.2.1 25 = .ok (.getfield 21, 3) := by decide +kernel
theorem dd_X4_refusedFor_28 : decode X4_refusedFor.2.1 28 = .ok (.aload_n 0, 1) := by decide +kernel
theorem dd_X4_refusedFor_29 : decode X4_refusedFor.2.1 29 = .ok (.getfield 15, 3) := by decide +kernel
theorem dd_X4_refusedFor_32 : decode X4_refusedFor.2.1 32 = .ok (.iload_n 3, 1) := by decide +kernel
theorem dd_X4_refusedFor_33 : decode X4_refusedFor.2.1 33 = .ok (.iaload, 1) := by decide +kernel
theorem dd_X4_refusedFor_34 : decode X4_refusedFor.2.1 34 = .ok (.iaload, 1) := by decide +kernel
theorem dd_X4_refusedFor_35 : decode X4_refusedFor.2.1 35 = .ok (.ior, 1) := by decide +kernel
theorem dd_X4_refusedFor_36 : decode X4_refusedFor.2.1 36 = .ok (.istore_n 2, 1) := by decide +kernel
theorem dd_X4_refusedFor_37 : decode X4_refusedFor.2.1 37 = .ok (.iinc 3 1, 3) := by decide +kernel
theorem dd_X4_refusedFor_40 : decode X4_refusedFor.2.1 40 = .ok (.goto (-36), 3) := by decide +kernel
theorem dd_X4_refusedFor_43 : decode X4_refusedFor.2.1 43 = .ok (.iload_n 2, 1) := by decide +kernel
theorem dd_X4_refusedFor_44 : decode X4_refusedFor.2.1 44 = .ok (.ireturn, 1) := by decide +kernel
theorem dd_X4_greatestUnlikeSet_0 : decode X4_greatestUnlikeSet.2.1 0 = .ok (.aload_n 0, 1) := by decide +kernel
theorem dd_X4_greatestUnlikeSet_1 : decode X4_greatestUnlikeSet.2.1 1 = .ok (.aload_n 1, 1) := by decide +kernel
theorem dd_X4_greatestUnlikeSet_2 : decode X4_greatestUnlikeSet.2.1 2 = .ok (.iload_n 2, 1) := by decide +kernel
theorem dd_X4_greatestUnlikeSet_3 : decode X4_greatestUnlikeSet.2.1 3 = .ok (.invokevirtual 24, 3) := by decide +kernel
theorem dd_X4_greatestUnlikeSet_6 : decode X4_greatestUnlikeSet.2.1 6 = .ok (.iconst 0, 1) := by decide +kernel
theorem dd_X4_greatestUnlikeSet_7 : decode X4_greatestUnlikeSet.2.1 7 = .ok (.istore_n 3, 1) := by decide +kernel
theorem dd_X4_greatestUnlikeSet_8 : decode X4_greatestUnlikeSet.2.1 8 = .ok (.iconst 1, 1) := by decide +kernel
theorem dd_X4_greatestUnlikeSet_9 : decode X4_greatestUnlikeSet.2.1 9 = .ok (.istore 4, 2) := by decide +kernel
theorem dd_X4_greatestUnlikeSet_11 : decode X4_greatestUnlikeSet.2.1 11 = .ok (.iload 4, 2) := by decide +kernel
theorem dd_X4_greatestUnlikeSet_13 : decode X4_greatestUnlikeSet.2.1 13 = .ok (.iconst 1, 1) := by decide +kernel
theorem dd_X4_greatestUnlikeSet_14 : decode X4_greatestUnlikeSet.2.1 14 = .ok (.aload_n 0, 1) := by decide +kernel
theorem dd_X4_greatestUnlikeSet_15 : decode X4_greatestUnlikeSet.2.1 15 = .ok (.getfield 52, 3) := by decide +kernel
theorem dd_X4_greatestUnlikeSet_18 : decode X4_greatestUnlikeSet.2.1 18 = .ok (.ishl, 1) := by decide +kernel
theorem dd_X4_greatestUnlikeSet_19 : decode X4_greatestUnlikeSet.2.1 19 = .ok (.if_icmp .ge 33, 3) := by decide +kernel
theorem dd_X4_greatestUnlikeSet_22 : decode X4_greatestUnlikeSet.2.1 22 = .ok (.iload 4, 2) := by decide +kernel
theorem dd_X4_greatestUnlikeSet_24 : decode X4_greatestUnlikeSet.2.1 24 = .ok (.invokestatic 58, 3) := by decide +kernel
theorem dd_X4_greatestUnlikeSet_27 : decode X4_greatestUnlikeSet.2.1 27 = .ok (.iload_n 3, 1) := by decide +kernel
theorem dd_X4_greatestUnlikeSet_28 : decode X4_greatestUnlikeSet.2.1 28 = .ok (.invokestatic 58, 3) := by decide +kernel
theorem dd_X4_greatestUnlikeSet_31 : decode X4_greatestUnlikeSet.2.1 31 = .ok (.if_icmp .le 15, 3) := by decide +kernel
theorem dd_X4_greatestUnlikeSet_34 : decode X4_greatestUnlikeSet.2.1 34 = .ok (.aload_n 0, 1) := by decide +kernel
theorem dd_X4_greatestUnlikeSet_35 : decode X4_greatestUnlikeSet.2.1 35 = .ok (.iload 4, 2) := by decide +kernel
theorem dd_X4_greatestUnlikeSet_37 : decode X4_greatestUnlikeSet.2.1 37 = .ok (.invokevirtual 73, 3) := by decide +kernel
theorem dd_X4_greatestUnlikeSet_40 : decode X4_greatestUnlikeSet.2.1 40 = .ok (.ifCond .eq 6, 3) := by decide +kernel
theorem dd_X4_greatestUnlikeSet_43 : decode X4_greatestUnlikeSet.2.1 43 = .ok (.iload 4, 2) := by decide +kernel
theorem dd_X4_greatestUnlikeSet_45 : decode X4_greatestUnlikeSet.2.1 45 = .ok (.istore_n 3, 1) := by decide +kernel
theorem dd_X4_greatestUnlikeSet_46 : decode X4_greatestUnlikeSet.2.1 46 = .ok (.iinc 4 1, 3) := by decide +kernel
theorem dd_X4_greatestUnlikeSet_49 : decode X4_greatestUnlikeSet.2.1 49 = .ok (.goto (-38), 3) := by decide +kernel
theorem dd_X4_greatestUnlikeSet_52 : decode X4_greatestUnlikeSet.2.1 52 = .ok (.iload_n 3, 1) := by decide +kernel
theorem dd_X4_greatestUnlikeSet_53 : decode X4_greatestUnlikeSet.2.1 53 = .ok (.ireturn, 1) := by decide +kernel
theorem dd_X4_isUnlike_0 : decode X4_isUnlike.2.1 0 = .ok (.iconst 0, 1) := by decide +kernel
theorem dd_X4_isUnlike_1 : decode X4_isUnlike.2.1 1 = .ok (.istore_n 2, 1) := by decide +kernel
theorem dd_X4_isUnlike_2 : decode X4_isUnlike.2.1 2 = .ok (.iload_n 2, 1) := by decide +kernel
theorem dd_X4_isUnlike_3 : decode X4_isUnlike.2.1 3 = .ok (.aload_n 0, 1) := by decide +kernel
theorem dd_X4_isUnlike_4 : decode X4_isUnlike.2.1 4 = .ok (.getfield 52, 3) := by decide +kernel
theorem dd_X4_isUnlike_7 : decode X4_isUnlike.2.1 7 = .ok (.if_icmp .ge 35, 3) := by decide +kernel
theorem dd_X4_isUnlike_10 : decode X4_isUnlike.2.1 10 = .ok (.iload_n 1, 1) := by decide +kernel
theorem dd_X4_isUnlike_11 : decode X4_isUnlike.2.1 11 = .ok (.iconst 1, 1) := by decide +kernel
theorem dd_X4_isUnlike_12 : decode X4_isUnlike.2.1 12 = .ok (.iload_n 2, 1) := by decide +kernel
theorem dd_X4_isUnlike_13 : decode X4_isUnlike.2.1 13 = .ok (.ishl, 1) := by decide +kernel
theorem dd_X4_isUnlike_14 : decode X4_isUnlike.2.1 14 = .ok (.iconst (-1), 1) := by decide +kernel
theorem dd_X4_isUnlike_15 : decode X4_isUnlike.2.1 15 = .ok (.ixor, 1) := by decide +kernel
theorem dd_X4_isUnlike_16 : decode X4_isUnlike.2.1 16 = .ok (.iand, 1) := by decide +kernel
theorem dd_X4_isUnlike_17 : decode X4_isUnlike.2.1 17 = .ok (.istore_n 3, 1) := by decide +kernel
theorem dd_X4_isUnlike_18 : decode X4_isUnlike.2.1 18 = .ok (.iload_n 3, 1) := by decide +kernel
theorem dd_X4_isUnlike_19 : decode X4_isUnlike.2.1 19 = .ok (.iload_n 1, 1) := by decide +kernel
theorem dd_X4_isUnlike_20 : decode X4_isUnlike.2.1 20 = .ok (.if_icmp .eq 16, 3) := by decide +kernel
theorem dd_X4_isUnlike_23 : decode X4_isUnlike.2.1 23 = .ok (.aload_n 0, 1) := by decide +kernel
theorem dd_X4_isUnlike_24 : decode X4_isUnlike.2.1 24 = .ok (.getfield 21, 3) := by decide +kernel
theorem dd_X4_isUnlike_27 : decode X4_isUnlike.2.1 27 = .ok (.iload_n 2, 1) := by decide +kernel
theorem dd_X4_isUnlike_28 : decode X4_isUnlike.2.1 28 = .ok (.iaload, 1) := by decide +kernel
theorem dd_X4_isUnlike_29 : decode X4_isUnlike.2.1 29 = .ok (.iload_n 3, 1) := by decide +kernel
theorem dd_X4_isUnlike_30 : decode X4_isUnlike.2.1 30 = .ok (.iand, 1) := by decide +kernel
theorem dd_X4_isUnlike_31 : decode X4_isUnlike.2.1 31 = .ok (.ifCond .eq 5, 3) := by decide +kernel
theorem dd_X4_isUnlike_34 : decode X4_isUnlike.2.1 34 = .ok (.iconst 0, 1) := by decide +kernel
theorem dd_X4_isUnlike_35 : decode X4_isUnlike.2.1 35 = .ok (.ireturn, 1) := by decide +kernel
theorem dd_X4_isUnlike_36 : decode X4_isUnlike.2.1 36 = .ok (.iinc 2 1, 3) := by decide +kernel
theorem dd_X4_isUnlike_39 : decode X4_isUnlike.2.1 39 = .ok (.goto (-37), 3) := by decide +kernel
theorem dd_X4_isUnlike_42 : decode X4_isUnlike.2.1 42 = .ok (.iconst 1, 1) := by decide +kernel
theorem dd_X4_isUnlike_43 : decode X4_isUnlike.2.1 43 = .ok (.ireturn, 1) := by decide +kernel
theorem dd_X5_begin_0 : decode X5_begin.2.1 0 = .ok (.aload_n 0, 1) := by decide +kernel
theorem dd_X5_begin_1 : decode X5_begin.2.1 1 = .ok (.iconst 1, 1) := by decide +kernel
theorem dd_X5_begin_2 : decode X5_begin.2.1 2 = .ok (.putfield 15, 3) := by decide +kernel
theorem dd_X5_begin_5 : decode X5_begin.2.1 5 = .ok (.aload_n 0, 1) := by decide +kernel
theorem dd_X5_begin_6 : decode X5_begin.2.1 6 = .ok (.iconst 0, 1) := by decide +kernel
theorem dd_X5_begin_7 : decode X5_begin.2.1 7 = .ok (.putfield 19, 3) := by decide +kernel
theorem dd_X5_begin_10 : decode X5_begin.2.1 10 = .ok (.return_, 1) := by decide +kernel
theorem dd_X5_vanish_0 : decode X5_vanish.2.1 0 = .ok (.aload_n 0, 1) := by decide +kernel
theorem dd_X5_vanish_1 : decode X5_vanish.2.1 1 = .ok (.iconst 0, 1) := by decide +kernel
theorem dd_X5_vanish_2 : decode X5_vanish.2.1 2 = .ok (.putfield 15, 3) := by decide +kernel
theorem dd_X5_vanish_5 : decode X5_vanish.2.1 5 = .ok (.aload_n 0, 1) := by decide +kernel
theorem dd_X5_vanish_6 : decode X5_vanish.2.1 6 = .ok (.iconst 0, 1) := by decide +kernel
theorem dd_X5_vanish_7 : decode X5_vanish.2.1 7 = .ok (.putfield 19, 3) := by decide +kernel
theorem dd_X5_vanish_10 : decode X5_vanish.2.1 10 = .ok (.return_, 1) := by decide +kernel
theorem dd_X5_addInFront_0 : decode X5_addInFront.2.1 0 = .ok (.aload_n 0, 1) := by decide +kernel
theorem dd_X5_addInFront_1 : decode X5_addInFront.2.1 1 = .ok (.getfield 19, 3) := by decide +kernel
theorem dd_X5_addInFront_4 : decode X5_addInFront.2.1 4 = .ok (.bipush 12, 2) := by decide +kernel
theorem dd_X5_addInFront_6 : decode X5_addInFront.2.1 6 = .ok (.if_icmp .ge 37, 3) := by decide +kernel
theorem dd_X5_addInFront_9 : decode X5_addInFront.2.1 9 = .ok (.aload_n 0, 1) := by decide +kernel
theorem dd_X5_addInFront_10 : decode X5_addInFront.2.1 10 = .ok (.getfield 9, 3) := by decide +kernel
theorem dd_X5_addInFront_13 : decode X5_addInFront.2.1 13 = .ok (.iconst 0, 1) := by decide +kernel
theorem dd_X5_addInFront_14 : decode X5_addInFront.2.1 14 = .ok (.aload_n 0, 1) := by decide +kernel
theorem dd_X5_addInFront_15 : decode X5_addInFront.2.1 15 = .ok (.getfield 9, 3) := by decide +kernel
theorem dd_X5_addInFront_18 : decode X5_addInFront.2.1 18 = .ok (.iconst 1, 1) := by decide +kernel
theorem dd_X5_addInFront_19 : decode X5_addInFront.2.1 19 = .ok (.aload_n 0, 1) := by decide +kernel
theorem dd_X5_addInFront_20 : decode X5_addInFront.2.1 20 = .ok (.getfield 19, 3) := by decide +kernel
theorem dd_X5_addInFront_23 : decode X5_addInFront.2.1 23 = .ok (.invokestatic 23, 3) := by decide +kernel
theorem dd_X5_addInFront_26 : decode X5_addInFront.2.1 26 = .ok (.aload_n 0, 1) := by decide +kernel
theorem dd_X5_addInFront_27 : decode X5_addInFront.2.1 27 = .ok (.getfield 9, 3) := by decide +kernel
theorem dd_X5_addInFront_30 : decode X5_addInFront.2.1 30 = .ok (.iconst 0, 1) := by decide +kernel
theorem dd_X5_addInFront_31 : decode X5_addInFront.2.1 31 = .ok (.iload_n 1, 1) := by decide +kernel
theorem dd_X5_addInFront_32 : decode X5_addInFront.2.1 32 = .ok (.iastore, 1) := by decide +kernel
theorem dd_X5_addInFront_33 : decode X5_addInFront.2.1 33 = .ok (.aload_n 0, 1) := by decide +kernel
theorem dd_X5_addInFront_34 : decode X5_addInFront.2.1 34 = .ok (.dup, 1) := by decide +kernel
theorem dd_X5_addInFront_35 : decode X5_addInFront.2.1 35 = .ok (.getfield 19, 3) := by decide +kernel
theorem dd_X5_addInFront_38 : decode X5_addInFront.2.1 38 = .ok (.iconst 1, 1) := by decide +kernel
theorem dd_X5_addInFront_39 : decode X5_addInFront.2.1 39 = .ok (.iadd, 1) := by decide +kernel
theorem dd_X5_addInFront_40 : decode X5_addInFront.2.1 40 = .ok (.putfield 19, 3) := by decide +kernel
theorem dd_X5_addInFront_43 : decode X5_addInFront.2.1 43 = .ok (.return_, 1) := by decide +kernel
theorem dd_X5_addBehind_0 : decode X5_addBehind.2.1 0 = .ok (.aload_n 0, 1) := by decide +kernel
theorem dd_X5_addBehind_1 : decode X5_addBehind.2.1 1 = .ok (.getfield 19, 3) := by decide +kernel
theorem dd_X5_addBehind_4 : decode X5_addBehind.2.1 4 = .ok (.bipush 12, 2) := by decide +kernel
theorem dd_X5_addBehind_6 : decode X5_addBehind.2.1 6 = .ok (.if_icmp .ge 23, 3) := by decide +kernel
theorem dd_X5_addBehind_9 : decode X5_addBehind.2.1 9 = .ok (.aload_n 0, 1) := by decide +kernel
theorem dd_X5_addBehind_10 : decode X5_addBehind.2.1 10 = .ok (.getfield 9, 3) := by decide +kernel
theorem dd_X5_addBehind_13 : decode X5_addBehind.2.1 13 = .ok (.aload_n 0, 1) := by decide +kernel
theorem dd_X5_addBehind_14 : decode X5_addBehind.2.1 14 = .ok (.getfield 19, 3) := by decide +kernel
theorem dd_X5_addBehind_17 : decode X5_addBehind.2.1 17 = .ok (.iload_n 1, 1) := by decide +kernel
theorem dd_X5_addBehind_18 : decode X5_addBehind.2.1 18 = .ok (.iastore, 1) := by decide +kernel
theorem dd_X5_addBehind_19 : decode X5_addBehind.2.1 19 = .ok (.aload_n 0, 1) := by decide +kernel
theorem dd_X5_addBehind_20 : decode X5_addBehind.2.1 20 = .ok (.dup, 1) := by decide +kernel
theorem dd_X5_addBehind_21 : decode X5_addBehind.2.1 21 = .ok (.getfield 19, 3) := by decide +kernel
theorem dd_X5_addBehind_24 : decode X5_addBehind.2.1 24 = .ok (.iconst 1, 1) := by decide +kernel
theorem dd_X5_addBehind_25 : decode X5_addBehind.2.1 25 = .ok (.iadd, 1) := by decide +kernel
theorem dd_X5_addBehind_26 : decode X5_addBehind.2.1 26 = .ok (.putfield 19, 3) := by decide +kernel
theorem dd_X5_addBehind_29 : decode X5_addBehind.2.1 29 = .ok (.return_, 1) := by decide +kernel
theorem dd_X5_takeFirst_0 : decode X5_takeFirst.2.1 0 = .ok (.aload_n 0, 1) := by decide +kernel
theorem dd_X5_takeFirst_1 : decode X5_takeFirst.2.1 1 = .ok (.getfield 9, 3) := by decide +kernel
theorem dd_X5_takeFirst_4 : decode X5_takeFirst.2.1 4 = .ok (.iconst 0, 1) := by decide +kernel
theorem dd_X5_takeFirst_5 : decode X5_takeFirst.2.1 5 = .ok (.iaload, 1) := by decide +kernel
theorem dd_X5_takeFirst_6 : decode X5_takeFirst.2.1 6 = .ok (.istore_n 1, 1) := by decide +kernel
theorem dd_X5_takeFirst_7 : decode X5_takeFirst.2.1 7 = .ok (.aload_n 0, 1) := by decide +kernel
theorem dd_X5_takeFirst_8 : decode X5_takeFirst.2.1 8 = .ok (.getfield 19, 3) := by decide +kernel
theorem dd_X5_takeFirst_11 : decode X5_takeFirst.2.1 11 = .ok (.ifCond .le 30, 3) := by decide +kernel
theorem dd_X5_takeFirst_14 : decode X5_takeFirst.2.1 14 = .ok (.aload_n 0, 1) := by decide +kernel
theorem dd_X5_takeFirst_15 : decode X5_takeFirst.2.1 15 = .ok (.dup, 1) := by decide +kernel
theorem dd_X5_takeFirst_16 : decode X5_takeFirst.2.1 16 = .ok (.getfield 19, 3) := by decide +kernel
theorem dd_X5_takeFirst_19 : decode X5_takeFirst.2.1 19 = .ok (.iconst 1, 1) := by decide +kernel
theorem dd_X5_takeFirst_20 : decode X5_takeFirst.2.1 20 = .ok (.isub, 1) := by decide +kernel
theorem dd_X5_takeFirst_21 : decode X5_takeFirst.2.1 21 = .ok (.putfield 19, 3) := by decide +kernel
theorem dd_X5_takeFirst_24 : decode X5_takeFirst.2.1 24 = .ok (.aload_n 0, 1) := by decide +kernel
theorem dd_X5_takeFirst_25 : decode X5_takeFirst.2.1 25 = .ok (.getfield 9, 3) := by decide +kernel
theorem dd_X5_takeFirst_28 : decode X5_takeFirst.2.1 28 = .ok (.iconst 1, 1) := by decide +kernel
theorem dd_X5_takeFirst_29 : decode X5_takeFirst.2.1 29 = .ok (.aload_n 0, 1) := by decide +kernel
theorem dd_X5_takeFirst_30 : decode X5_takeFirst.2.1 30 = .ok (.getfield 9, 3) := by decide +kernel
theorem dd_X5_takeFirst_33 : decode X5_takeFirst.2.1 33 = .ok (.iconst 0, 1) := by decide +kernel
theorem dd_X5_takeFirst_34 : decode X5_takeFirst.2.1 34 = .ok (.aload_n 0, 1) := by decide +kernel
theorem dd_X5_takeFirst_35 : decode X5_takeFirst.2.1 35 = .ok (.getfield 19, 3) := by decide +kernel
theorem dd_X5_takeFirst_38 : decode X5_takeFirst.2.1 38 = .ok (.invokestatic 23, 3) := by decide +kernel
theorem dd_X5_takeFirst_41 : decode X5_takeFirst.2.1 41 = .ok (.iload_n 1, 1) := by decide +kernel
theorem dd_X5_takeFirst_42 : decode X5_takeFirst.2.1 42 = .ok (.ireturn, 1) := by decide +kernel
theorem dd_X5_takeLast_0 : decode X5_takeLast.2.1 0 = .ok (.aload_n 0, 1) := by decide +kernel
theorem dd_X5_takeLast_1 : decode X5_takeLast.2.1 1 = .ok (.getfield 19, 3) := by decide +kernel
theorem dd_X5_takeLast_4 : decode X5_takeLast.2.1 4 = .ok (.ifCond .le 13, 3) := by decide +kernel
theorem dd_X5_takeLast_7 : decode X5_takeLast.2.1 7 = .ok (.aload_n 0, 1) := by decide +kernel
theorem dd_X5_takeLast_8 : decode X5_takeLast.2.1 8 = .ok (.dup, 1) := by decide +kernel
theorem dd_X5_takeLast_9 : decode X5_takeLast.2.1 9 = .ok (.getfield 19, 3) := by decide +kernel
theorem dd_X5_takeLast_12 : decode X5_takeLast.2.1 12 = .ok (.iconst 1, 1) := by decide +kernel
theorem dd_X5_takeLast_13 : decode X5_takeLast.2.1 13 = .ok (.isub, 1) := by decide +kernel
theorem dd_X5_takeLast_14 : decode X5_takeLast.2.1 14 = .ok (.putfield 19, 3) := by decide +kernel
theorem dd_X5_takeLast_17 : decode X5_takeLast.2.1 17 = .ok (.aload_n 0, 1) := by decide +kernel
theorem dd_X5_takeLast_18 : decode X5_takeLast.2.1 18 = .ok (.getfield 9, 3) := by decide +kernel
theorem dd_X5_takeLast_21 : decode X5_takeLast.2.1 21 = .ok (.aload_n 0, 1) := by decide +kernel
theorem dd_X5_takeLast_22 : decode X5_takeLast.2.1 22 = .ok (.getfield 19, 3) := by decide +kernel
theorem dd_X5_takeLast_25 : decode X5_takeLast.2.1 25 = .ok (.iaload, 1) := by decide +kernel
theorem dd_X5_takeLast_26 : decode X5_takeLast.2.1 26 = .ok (.ireturn, 1) := by decide +kernel
theorem dd_X5_greatest_0 : decode X5_greatest.2.1 0 = .ok (.aload_n 0, 1) := by decide +kernel
theorem dd_X5_greatest_1 : decode X5_greatest.2.1 1 = .ok (.getfield 9, 3) := by decide +kernel
theorem dd_X5_greatest_4 : decode X5_greatest.2.1 4 = .ok (.iconst 0, 1) := by decide +kernel
theorem dd_X5_greatest_5 : decode X5_greatest.2.1 5 = .ok (.iaload, 1) := by decide +kernel
theorem dd_X5_greatest_6 : decode X5_greatest.2.1 6 = .ok (.istore_n 1, 1) := by decide +kernel
theorem dd_X5_greatest_7 : decode X5_greatest.2.1 7 = .ok (.iconst 1, 1) := by decide +kernel
theorem dd_X5_greatest_8 : decode X5_greatest.2.1 8 = .ok (.istore_n 2, 1) := by decide +kernel
theorem dd_X5_greatest_9 : decode X5_greatest.2.1 9 = .ok (.iload_n 2, 1) := by decide +kernel
theorem dd_X5_greatest_10 : decode X5_greatest.2.1 10 = .ok (.aload_n 0, 1) := by decide +kernel
theorem dd_X5_greatest_11 : decode X5_greatest.2.1 11 = .ok (.getfield 19, 3) := by decide +kernel
theorem dd_X5_greatest_14 : decode X5_greatest.2.1 14 = .ok (.if_icmp .ge 20, 3) := by decide +kernel
theorem dd_X5_greatest_17 : decode X5_greatest.2.1 17 = .ok (.iload_n 1, 1) := by decide +kernel
theorem dd_X5_greatest_18 : decode X5_greatest.2.1 18 = .ok (.aload_n 0, 1) := by decide +kernel
theorem dd_X5_greatest_19 : decode X5_greatest.2.1 19 = .ok (.getfield 9, 3) := by decide +kernel
theorem dd_X5_greatest_22 : decode X5_greatest.2.1 22 = .ok (.iload_n 2, 1) := by decide +kernel
theorem dd_X5_greatest_23 : decode X5_greatest.2.1 23 = .ok (.iaload, 1) := by decide +kernel
theorem dd_X5_greatest_24 : decode X5_greatest.2.1 24 = .ok (.invokestatic 29, 3) := by decide +kernel
theorem dd_X5_greatest_27 : decode X5_greatest.2.1 27 = .ok (.istore_n 1, 1) := by decide +kernel
theorem dd_X5_greatest_28 : decode X5_greatest.2.1 28 = .ok (.iinc 2 1, 3) := by decide +kernel
theorem dd_X5_greatest_31 : decode X5_greatest.2.1 31 = .ok (.goto (-22), 3) := by decide +kernel
theorem dd_X5_greatest_34 : decode X5_greatest.2.1 34 = .ok (.iload_n 1, 1) := by decide +kernel
theorem dd_X5_greatest_35 : decode X5_greatest.2.1 35 = .ok (.ireturn, 1) := by decide +kernel
theorem dd_X5_least_0 : decode X5_least.2.1 0 = .ok (.aload_n 0, 1) := by decide +kernel
theorem dd_X5_least_1 : decode X5_least.2.1 1 = .ok (.getfield 9, 3) := by decide +kernel
theorem dd_X5_least_4 : decode X5_least.2.1 4 = .ok (.iconst 0, 1) := by decide +kernel
theorem dd_X5_least_5 : decode X5_least.2.1 5 = .ok (.iaload, 1) := by decide +kernel
theorem dd_X5_least_6 : decode X5_least.2.1 6 = .ok (.istore_n 1, 1) := by decide +kernel
theorem dd_X5_least_7 : decode X5_least.2.1 7 = .ok (.iconst 1, 1) := by decide +kernel
theorem dd_X5_least_8 : decode X5_least.2.1 8 = .ok (.istore_n 2, 1) := by decide +kernel
theorem dd_X5_least_9 : decode X5_least.2.1 9 = .ok (.iload_n 2, 1) := by decide +kernel
theorem dd_X5_least_10 : decode X5_least.2.1 10 = .ok (.aload_n 0, 1) := by decide +kernel
theorem dd_X5_least_11 : decode X5_least.2.1 11 = .ok (.getfield 19, 3) := by decide +kernel
theorem dd_X5_least_14 : decode X5_least.2.1 14 = .ok (.if_icmp .ge 20, 3) := by decide +kernel
theorem dd_X5_least_17 : decode X5_least.2.1 17 = .ok (.iload_n 1, 1) := by decide +kernel
theorem dd_X5_least_18 : decode X5_least.2.1 18 = .ok (.aload_n 0, 1) := by decide +kernel
theorem dd_X5_least_19 : decode X5_least.2.1 19 = .ok (.getfield 9, 3) := by decide +kernel
theorem dd_X5_least_22 : decode X5_least.2.1 22 = .ok (.iload_n 2, 1) := by decide +kernel
theorem dd_X5_least_23 : decode X5_least.2.1 23 = .ok (.iaload, 1) := by decide +kernel
theorem dd_X5_least_24 : decode X5_least.2.1 24 = .ok (.invokestatic 35, 3) := by decide +kernel
theorem dd_X5_least_27 : decode X5_least.2.1 27 = .ok (.istore_n 1, 1) := by decide +kernel
theorem dd_X5_least_28 : decode X5_least.2.1 28 = .ok (.iinc 2 1, 3) := by decide +kernel
theorem dd_X5_least_31 : decode X5_least.2.1 31 = .ok (.goto (-22), 3) := by decide +kernel
theorem dd_X5_least_34 : decode X5_least.2.1 34 = .ok (.iload_n 1, 1) := by decide +kernel
theorem dd_X5_least_35 : decode X5_least.2.1 35 = .ok (.ireturn, 1) := by decide +kernel
theorem dd_X5_howMany_0 : decode X5_howMany.2.1 0 = .ok (.iconst 0, 1) := by decide +kernel
theorem dd_X5_howMany_1 : decode X5_howMany.2.1 1 = .ok (.istore_n 2, 1) := by decide +kernel
theorem dd_X5_howMany_2 : decode X5_howMany.2.1 2 = .ok (.iconst 0, 1) := by decide +kernel
theorem dd_X5_howMany_3 : decode X5_howMany.2.1 3 = .ok (.istore_n 3, 1) := by decide +kernel
theorem dd_X5_howMany_4 : decode X5_howMany.2.1 4 = .ok (.iload_n 3, 1) := by decide +kernel
theorem dd_X5_howMany_5 : decode X5_howMany.2.1 5 = .ok (.aload_n 0, 1) := by decide +kernel
theorem dd_X5_howMany_6 : decode X5_howMany.2.1 6 = .ok (.getfield 19, 3) := by decide +kernel
theorem dd_X5_howMany_9 : decode X5_howMany.2.1 9 = .ok (.if_icmp .ge 22, 3) := by decide +kernel
theorem dd_X5_howMany_12 : decode X5_howMany.2.1 12 = .ok (.aload_n 0, 1) := by decide +kernel
theorem dd_X5_howMany_13 : decode X5_howMany.2.1 13 = .ok (.getfield 9, 3) := by decide +kernel
theorem dd_X5_howMany_16 : decode X5_howMany.2.1 16 = .ok (.iload_n 3, 1) := by decide +kernel
theorem dd_X5_howMany_17 : decode X5_howMany.2.1 17 = .ok (.iaload, 1) := by decide +kernel
theorem dd_X5_howMany_18 : decode X5_howMany.2.1 18 = .ok (.iload_n 1, 1) := by decide +kernel
theorem dd_X5_howMany_19 : decode X5_howMany.2.1 19 = .ok (.if_icmp .ne 6, 3) := by decide +kernel
theorem dd_X5_howMany_22 : decode X5_howMany.2.1 22 = .ok (.iinc 2 1, 3) := by decide +kernel
theorem dd_X5_howMany_25 : decode X5_howMany.2.1 25 = .ok (.iinc 3 1, 3) := by decide +kernel
theorem dd_X5_howMany_28 : decode X5_howMany.2.1 28 = .ok (.goto (-24), 3) := by decide +kernel
theorem dd_X5_howMany_31 : decode X5_howMany.2.1 31 = .ok (.iload_n 2, 1) := by decide +kernel
theorem dd_X5_howMany_32 : decode X5_howMany.2.1 32 = .ok (.ireturn, 1) := by decide +kernel
theorem dd_X5_removeAll_0 : decode X5_removeAll.2.1 0 = .ok (.aload_n 0, 1) := by decide +kernel
theorem dd_X5_removeAll_1 : decode X5_removeAll.2.1 1 = .ok (.getfield 19, 3) := by decide +kernel
theorem dd_X5_removeAll_4 : decode X5_removeAll.2.1 4 = .ok (.istore_n 2, 1) := by decide +kernel
theorem dd_X5_removeAll_5 : decode X5_removeAll.2.1 5 = .ok (.aload_n 0, 1) := by decide +kernel
theorem dd_X5_removeAll_6 : decode X5_removeAll.2.1 6 = .ok (.iconst 0, 1) := by decide +kernel
theorem dd_X5_removeAll_7 : decode X5_removeAll.2.1 7 = .ok (.putfield 19, 3) := by decide +kernel
theorem dd_X5_removeAll_10 : decode X5_removeAll.2.1 10 = .ok (.iconst 0, 1) := by decide +kernel
theorem dd_X5_removeAll_11 : decode X5_removeAll.2.1 11 = .ok (.istore_n 3, 1) := by decide +kernel
theorem dd_X5_removeAll_12 : decode X5_removeAll.2.1 12 = .ok (.iload_n 3, 1) := by decide +kernel
theorem dd_X5_removeAll_13 : decode X5_removeAll.2.1 13 = .ok (.iload_n 2, 1) := by decide +kernel
theorem dd_X5_removeAll_14 : decode X5_removeAll.2.1 14 = .ok (.if_icmp .ge 44, 3) := by decide +kernel
theorem dd_X5_removeAll_17 : decode X5_removeAll.2.1 17 = .ok (.aload_n 0, 1) := by decide +kernel
theorem dd_X5_removeAll_18 : decode X5_removeAll.2.1 18 = .ok (.getfield 9, 3) := by decide +kernel
theorem dd_X5_removeAll_21 : decode X5_removeAll.2.1 21 = .ok (.iload_n 3, 1) := by decide +kernel
theorem dd_X5_removeAll_22 : decode X5_removeAll.2.1 22 = .ok (.iaload, 1) := by decide +kernel
theorem dd_X5_removeAll_23 : decode X5_removeAll.2.1 23 = .ok (.iload_n 1, 1) := by decide +kernel
theorem dd_X5_removeAll_24 : decode X5_removeAll.2.1 24 = .ok (.if_icmp .eq 28, 3) := by decide +kernel
theorem dd_X5_removeAll_27 : decode X5_removeAll.2.1 27 = .ok (.aload_n 0, 1) := by decide +kernel
theorem dd_X5_removeAll_28 : decode X5_removeAll.2.1 28 = .ok (.getfield 9, 3) := by decide +kernel
theorem dd_X5_removeAll_31 : decode X5_removeAll.2.1 31 = .ok (.aload_n 0, 1) := by decide +kernel
theorem dd_X5_removeAll_32 : decode X5_removeAll.2.1 32 = .ok (.getfield 19, 3) := by decide +kernel
theorem dd_X5_removeAll_35 : decode X5_removeAll.2.1 35 = .ok (.aload_n 0, 1) := by decide +kernel
theorem dd_X5_removeAll_36 : decode X5_removeAll.2.1 36 = .ok (.getfield 9, 3) := by decide +kernel
theorem dd_X5_removeAll_39 : decode X5_removeAll.2.1 39 = .ok (.iload_n 3, 1) := by decide +kernel
theorem dd_X5_removeAll_40 : decode X5_removeAll.2.1 40 = .ok (.iaload, 1) := by decide +kernel
theorem dd_X5_removeAll_41 : decode X5_removeAll.2.1 41 = .ok (.iastore, 1) := by decide +kernel
theorem dd_X5_removeAll_42 : decode X5_removeAll.2.1 42 = .ok (.aload_n 0, 1) := by decide +kernel
theorem dd_X5_removeAll_43 : decode X5_removeAll.2.1 43 = .ok (.dup, 1) := by decide +kernel
theorem dd_X5_removeAll_44 : decode X5_removeAll.2.1 44 = .ok (.getfield 19, 3) := by decide +kernel
theorem dd_X5_removeAll_47 : decode X5_removeAll.2.1 47 = .ok (.iconst 1, 1) := by decide +kernel
theorem dd_X5_removeAll_48 : decode X5_removeAll.2.1 48 = .ok (.iadd, 1) := by decide +kernel
theorem dd_X5_removeAll_49 : decode X5_removeAll.2.1 49 = .ok (.putfield 19, 3) := by decide +kernel
theorem dd_X5_removeAll_52 : decode X5_removeAll.2.1 52 = .ok (.iinc 3 1, 3) := by decide +kernel
theorem dd_X5_removeAll_55 : decode X5_removeAll.2.1 55 = .ok (.goto (-43), 3) := by decide +kernel
theorem dd_X5_removeAll_58 : decode X5_removeAll.2.1 58 = .ok (.iload_n 2, 1) := by decide +kernel
theorem dd_X5_removeAll_59 : decode X5_removeAll.2.1 59 = .ok (.aload_n 0, 1) := by decide +kernel
theorem dd_X5_removeAll_60 : decode X5_removeAll.2.1 60 = .ok (.getfield 19, 3) := by decide +kernel
theorem dd_X5_removeAll_63 : decode X5_removeAll.2.1 63 = .ok (.isub, 1) := by decide +kernel
theorem dd_X5_removeAll_64 : decode X5_removeAll.2.1 64 = .ok (.ireturn, 1) := by decide +kernel
theorem dd_X6_append_0 : decode X6_append.2.1 0 = .ok (.aload_n 0, 1) := by decide +kernel
theorem dd_X6_append_1 : decode X6_append.2.1 1 = .ok (.getfield 15, 3) := by decide +kernel
theorem dd_X6_append_4 : decode X6_append.2.1 4 = .ok (.sipush 200, 3) := by decide +kernel
theorem dd_X6_append_7 : decode X6_append.2.1 7 = .ok (.if_icmp .ge 23, 3) := by decide +kernel
theorem dd_X6_append_10 : decode X6_append.2.1 10 = .ok (.aload_n 0, 1) := by decide +kernel
theorem dd_X6_append_11 : decode X6_append.2.1 11 = .ok (.getfield 9, 3) := by decide +kernel
theorem dd_X6_append_14 : decode X6_append.2.1 14 = .ok (.aload_n 0, 1) := by decide +kernel
theorem dd_X6_append_15 : decode X6_append.2.1 15 = .ok (.getfield 15, 3) := by decide +kernel
theorem dd_X6_append_18 : decode X6_append.2.1 18 = .ok (.iload_n 1, 1) := by decide +kernel
theorem dd_X6_append_19 : decode X6_append.2.1 19 = .ok (.iastore, 1) := by decide +kernel
theorem dd_X6_append_20 : decode X6_append.2.1 20 = .ok (.aload_n 0, 1) := by decide +kernel
theorem dd_X6_append_21 : decode X6_append.2.1 21 = .ok (.dup, 1) := by decide +kernel
theorem dd_X6_append_22 : decode X6_append.2.1 22 = .ok (.getfield 15, 3) := by decide +kernel
theorem dd_X6_append_25 : decode X6_append.2.1 25 = .ok (.iconst 1, 1) := by decide +kernel
theorem dd_X6_append_26 : decode X6_append.2.1 26 = .ok (.iadd, 1) := by decide +kernel
theorem dd_X6_append_27 : decode X6_append.2.1 27 = .ok (.putfield 15, 3) := by decide +kernel
theorem dd_X6_append_30 : decode X6_append.2.1 30 = .ok (.return_, 1) := by decide +kernel
theorem dd_X6_readInto_0 : decode X6_readInto.2.1 0 = .ok (.aload_n 0, 1) := by decide +kernel
theorem dd_X6_readInto_1 : decode X6_readInto.2.1 1 = .ok (.iconst 0, 1) := by decide +kernel
theorem dd_X6_readInto_2 : decode X6_readInto.2.1 2 = .ok (.putfield 19, 3) := by decide +kernel
theorem dd_X6_readInto_5 : decode X6_readInto.2.1 5 = .ok (.iconst 1, 1) := by decide +kernel
theorem dd_X6_readInto_6 : decode X6_readInto.2.1 6 = .ok (.istore_n 2, 1) := by decide +kernel
theorem dd_X6_readInto_7 : decode X6_readInto.2.1 7 = .ok (.iload_n 2, 1) := by decide +kernel
theorem dd_X6_readInto_8 : decode X6_readInto.2.1 8 = .ok (.bipush 24, 2) := by decide +kernel
theorem dd_X6_readInto_10 : decode X6_readInto.2.1 10 = .ok (.if_icmp .gt 67, 3) := by decide +kernel
theorem dd_X6_readInto_13 : decode X6_readInto.2.1 13 = .ok (.aload_n 0, 1) := by decide +kernel
theorem dd_X6_readInto_14 : decode X6_readInto.2.1 14 = .ok (.invokevirtual 22, 3) := by decide +kernel
theorem dd_X6_readInto_17 : decode X6_readInto.2.1 17 = .ok (.aload_n 0, 1) := by decide +kernel
theorem dd_X6_readInto_18 : decode X6_readInto.2.1 18 = .ok (.aload_n 1, 1) := by decide +kernel
theorem dd_X6_readInto_19 : decode X6_readInto.2.1 19 = .ok (.invokevirtual 25, 3) := by decide +kernel
theorem dd_X6_readInto_22 : decode X6_readInto.2.1 22 = .ok (.ifCond .ne 8, 3) := by decide +kernel
theorem dd_X6_readInto_25 : decode X6_readInto.2.1 25 = .ok (.aload_n 0, 1) := by decide +kernel
theorem dd_X6_readInto_26 : decode X6_readInto.2.1 26 = .ok (.getfield 29, 3) := by decide +kernel
theorem dd_X6_readInto_29 : decode X6_readInto.2.1 29 = .ok (.ireturn, 1) := by decide +kernel
theorem dd_X6_readInto_30 : decode X6_readInto.2.1 30 = .ok (.aload_n 0, 1) := by decide +kernel
theorem dd_X6_readInto_31 : decode X6_readInto.2.1 31 = .ok (.iload_n 2, 1) := by decide +kernel
theorem dd_X6_readInto_32 : decode X6_readInto.2.1 32 = .ok (.putfield 32, 3) := by decide +kernel
theorem dd_X6_readInto_35 : decode X6_readInto.2.1 35 = .ok (.aload_n 0, 1) := by decide +kernel
theorem dd_X6_readInto_36 : decode X6_readInto.2.1 36 = .ok (.invokevirtual 22, 3) := by decide +kernel
theorem dd_X6_readInto_39 : decode X6_readInto.2.1 39 = .ok (.aload_n 0, 1) := by decide +kernel
theorem dd_X6_readInto_40 : decode X6_readInto.2.1 40 = .ok (.getfield 29, 3) := by decide +kernel
theorem dd_X6_readInto_43 : decode X6_readInto.2.1 43 = .ok (.aload_n 0, 1) := by decide +kernel
theorem dd_X6_readInto_44 : decode X6_readInto.2.1 44 = .ok (.getfield 15, 3) := by decide +kernel
theorem dd_X6_readInto_47 : decode X6_readInto.2.1 47 = .ok (.if_icmp .lt 5, 3) := by decide +kernel
theorem dd_X6_readInto_50 : decode X6_readInto.2.1 50 = .ok (.iconst (-1), 1) := by decide +kernel
theorem dd_X6_readInto_51 : decode X6_readInto.2.1 51 = .ok (.ireturn, 1) := by decide +kernel
theorem dd_X6_readInto_52 : decode X6_readInto.2.1 52 = .ok (.aload_n 0, 1) := by decide +kernel
theorem dd_X6_readInto_53 : decode X6_readInto.2.1 53 = .ok (.getfield 9, 3) := by decide +kernel
theorem dd_X6_readInto_56 : decode X6_readInto.2.1 56 = .ok (.aload_n 0, 1) := by decide +kernel
theorem dd_X6_readInto_57 : decode X6_readInto.2.1 57 = .ok (.getfield 29, 3) := by decide +kernel
theorem dd_X6_readInto_60 : decode X6_readInto.2.1 60 = .ok (.iaload, 1) := by decide +kernel
theorem dd_X6_readInto_61 : decode X6_readInto.2.1 61 = .ok (.bipush 59, 2) := by decide +kernel
theorem dd_X6_readInto_63 : decode X6_readInto.2.1 63 = .ok (.if_icmp .eq 8, 3) := by decide +kernel
theorem dd_X6_readInto_66 : decode X6_readInto.2.1 66 = .ok (.aload_n 0, 1) := by decide +kernel
theorem dd_X6_readInto_67 : decode X6_readInto.2.1 67 = .ok (.getfield 29, 3) := by decide +kernel
theorem dd_X6_readInto_70 : decode X6_readInto.2.1 70 = .ok (.ireturn, 1) := by decide +kernel
theorem dd_X6_readInto_71 : decode X6_readInto.2.1 71 = .ok (.iinc 2 1, 3) := by decide +kernel
theorem dd_X6_readInto_74 : decode X6_readInto.2.1 74 = .ok (.goto (-67), 3) := by decide +kernel
theorem dd_X6_readInto_77 : decode X6_readInto.2.1 77 = .ok (.aload_n 0, 1) := by decide +kernel
theorem dd_X6_readInto_78 : decode X6_readInto.2.1 78 = .ok (.getfield 29, 3) := by decide +kernel
theorem dd_X6_readInto_81 : decode X6_readInto.2.1 81 = .ok (.ireturn, 1) := by decide +kernel
theorem dd_X6_readClause_0 : decode X6_readClause.2.1 0 = .ok (.aload_n 0, 1) := by decide +kernel
theorem dd_X6_readClause_1 : decode X6_readClause.2.1 1 = .ok (.ldc 35, 2) := by decide +kernel
theorem dd_X6_readClause_3 : decode X6_readClause.2.1 3 = .ok (.invokevirtual 37, 3) := by decide +kernel
theorem dd_X6_readClause_6 : decode X6_readClause.2.1 6 = .ok (.ifCond .eq 9, 3) := by decide +kernel
theorem dd_X6_readClause_9 : decode X6_readClause.2.1 9 = .ok (.aload_n 0, 1) := by decide +kernel
theorem dd_X6_readClause_10 : decode X6_readClause.2.1 10 = .ok (.aload_n 1, 1) := by decide +kernel
theorem dd_X6_readClause_11 : decode X6_readClause.2.1 11 = .ok (.invokevirtual 41, 3) := by decide +kernel
theorem dd_X6_readClause_14 : decode X6_readClause.2.1 14 = .ok (.ireturn, 1) := by decide +kernel
theorem dd_X6_readClause_15 : decode X6_readClause.2.1 15 = .ok (.aload_n 0, 1) := by decide +kernel
theorem dd_X6_readClause_16 : decode X6_readClause.2.1 16 = .ok (.ldc 44, 2) := by decide +kernel
theorem dd_X6_readClause_18 : decode X6_readClause.2.1 18 = .ok (.invokevirtual 37, 3) := by decide +kernel
theorem dd_X6_readClause_21 : decode X6_readClause.2.1 21 = .ok (.ifCond .eq 9, 3) := by decide +kernel
theorem dd_X6_readClause_24 : decode X6_readClause.2.1 24 = .ok (.aload_n 0, 1) := by decide +kernel
theorem dd_X6_readClause_25 : decode X6_readClause.2.1 25 = .ok (.aload_n 1, 1) := by decide +kernel
theorem dd_X6_readClause_26 : decode X6_readClause.2.1 26 = .ok (.invokevirtual 46, 3) := by decide +kernel
theorem dd_X6_readClause_29 : decode X6_readClause.2.1 29 = .ok (.ireturn, 1) := by decide +kernel
theorem dd_X6_readClause_30 : decode X6_readClause.2.1 30 = .ok (.aload_n 0, 1) := by decide +kernel
theorem dd_X6_readClause_31 : decode X6_readClause.2.1 31 = .ok (.ldc 49, 2) := by decide +kernel
theorem dd_X6_readClause_33 : decode X6_readClause.2.1 33 = .ok (.invokevirtual 37, 3) := by decide +kernel
theorem dd_X6_readClause_36 : decode X6_readClause.2.1 36 = .ok (.ifCond .eq 9, 3) := by decide +kernel
theorem dd_X6_readClause_39 : decode X6_readClause.2.1 39 = .ok (.aload_n 0, 1) := by decide +kernel
theorem dd_X6_readClause_40 : decode X6_readClause.2.1 40 = .ok (.aload_n 1, 1) := by decide +kernel
theorem dd_X6_readClause_41 : decode X6_readClause.2.1 41 = .ok (.invokevirtual 51, 3) := by decide +kernel
theorem dd_X6_readClause_44 : decode X6_readClause.2.1 44 = .ok (.ireturn, 1) := by decide +kernel
theorem dd_X6_readClause_45 : decode X6_readClause.2.1 45 = .ok (.aload_n 0, 1) := by decide +kernel
theorem dd_X6_readClause_46 : decode X6_readClause.2.1 46 = .ok (.ldc 54, 2) := by decide +kernel
theorem dd_X6_readClause_48 : decode X6_readClause.2.1 48 = .ok (.invokevirtual 37, 3) := by decide +kernel
theorem dd_X6_readClause_51 : decode X6_readClause.2.1 51 = .ok (.ifCond .eq 26, 3) := by decide +kernel
theorem dd_X6_readClause_54 : decode X6_readClause.2.1 54 = .ok (.aload_n 1, 1) := by decide +kernel
theorem dd_X6_readClause_55 : decode X6_readClause.2.1 55 = .ok (.getfield 56, 3) := by decide +kernel
theorem dd_X6_readClause_58 : decode X6_readClause.2.1 58 = .ok (.bipush 8, 2) := by decide +kernel
theorem dd_X6_readClause_60 : decode X6_readClause.2.1 60 = .ok (.if_icmp .ge 15, 3) := by decide +kernel
theorem dd_X6_readClause_63 : decode X6_readClause.2.1 63 = .ok (.aload_n 0, 1) := by decide +kernel
theorem dd_X6_readClause_64 : decode X6_readClause.2.1 64 = .ok (.aload_n 1, 1) := by decide +kernel
theorem dd_X6_readClause_65 : decode X6_readClause.2.1 65 = .ok (.invokevirtual 61, 3) := by decide +kernel
theorem dd_X6_readClause_68 : decode X6_readClause.2.1 68 = .ok (.ifCond .eq 7, 3) := by decide +kernel
theorem dd_X6_readClause_71 : decode X6_readClause.2.1 71 = .ok (.iconst 1, 1) := by decide +kernel
theorem dd_X6_readClause_72 : decode X6_readClause.2.1 72 = .ok (.goto 4, 3) := by decide +kernel
theorem dd_X6_readClause_75 : decode X6_readClause.2.1 75 = .ok (.iconst 0, 1) := by decide +kernel
theorem dd_X6_readClause_76 : decode X6_readClause.2.1 76 = .ok (.ireturn, 1) := by decide +kernel
theorem dd_X6_readClause_77 : decode X6_readClause.2.1 77 = .ok (.aload_n 0, 1) := by decide +kernel
theorem dd_X6_readClause_78 : decode X6_readClause.2.1 78 = .ok (.ldc 64, 2) := by decide +kernel
theorem dd_X6_readClause_80 : decode X6_readClause.2.1 80 = .ok (.invokevirtual 37, 3) := by decide +kernel
theorem dd_X6_readClause_83 : decode X6_readClause.2.1 83 = .ok (.ifCond .eq 29, 3) := by decide +kernel
theorem dd_X6_readClause_86 : decode X6_readClause.2.1 86 = .ok (.aload_n 1, 1) := by decide +kernel
theorem dd_X6_readClause_87 : decode X6_readClause.2.1 87 = .ok (.getfield 66, 3) := by decide +kernel
theorem dd_X6_readClause_90 : decode X6_readClause.2.1 90 = .ok (.getfield 70, 3) := by decide +kernel
theorem dd_X6_readClause_93 : decode X6_readClause.2.1 93 = .ok (.bipush 6, 2) := by decide +kernel
theorem dd_X6_readClause_95 : decode X6_readClause.2.1 95 = .ok (.if_icmp .ge 15, 3) := by decide +kernel
theorem dd_X6_readClause_98 : decode X6_readClause.2.1 98 = .ok (.aload_n 0, 1) := by decide +kernel
theorem dd_X6_readClause_99 : decode X6_readClause.2.1 99 = .ok (.aload_n 1, 1) := by decide +kernel
theorem dd_X6_readClause_100 : decode X6_readClause.2.1 100 = .ok (.invokevirtual 73, 3) := by decide +kernel
theorem dd_X6_readClause_103 : decode X6_readClause.2.1 103 = .ok (.ifCond .eq 7, 3) := by decide +kernel
theorem dd_X6_readClause_106 : decode X6_readClause.2.1 106 = .ok (.iconst 1, 1) := by decide +kernel
theorem dd_X6_readClause_107 : decode X6_readClause.2.1 107 = .ok (.goto 4, 3) := by decide +kernel
theorem dd_X6_readClause_110 : decode X6_readClause.2.1 110 = .ok (.iconst 0, 1) := by decide +kernel
theorem dd_X6_readClause_111 : decode X6_readClause.2.1 111 = .ok (.ireturn, 1) := by decide +kernel
theorem dd_X6_readClause_112 : decode X6_readClause.2.1 112 = .ok (.aload_n 0, 1) := by decide +kernel
theorem dd_X6_readClause_113 : decode X6_readClause.2.1 113 = .ok (.ldc 76, 2) := by decide +kernel
theorem dd_X6_readClause_115 : decode X6_readClause.2.1 115 = .ok (.invokevirtual 37, 3) := by decide +kernel
theorem dd_X6_readClause_118 : decode X6_readClause.2.1 118 = .ok (.ifCond .eq 15, 3) := by decide +kernel
theorem dd_X6_readClause_121 : decode X6_readClause.2.1 121 = .ok (.aload_n 0, 1) := by decide +kernel
theorem dd_X6_readClause_122 : decode X6_readClause.2.1 122 = .ok (.aload_n 1, 1) := by decide +kernel
theorem dd_X6_readClause_123 : decode X6_readClause.2.1 123 = .ok (.invokevirtual 78, 3) := by decide +kernel
theorem dd_X6_readClause_126 : decode X6_readClause.2.1 126 = .ok (.ifCond .eq 7, 3) := by decide +kernel
theorem dd_X6_readClause_129 : decode X6_readClause.2.1 129 = .ok (.iconst 1, 1) := by decide +kernel
theorem dd_X6_readClause_130 : decode X6_readClause.2.1 130 = .ok (.goto 4, 3) := by decide +kernel
theorem dd_X6_readClause_133 : decode X6_readClause.2.1 133 = .ok (.iconst 0, 1) := by decide +kernel
theorem dd_X6_readClause_134 : decode X6_readClause.2.1 134 = .ok (.ireturn, 1) := by decide +kernel
theorem dd_X6_readBeats_0 : decode X6_readBeats.2.1 0 = .ok (.aload_n 0, 1) := by decide +kernel
theorem dd_X6_readBeats_1 : decode X6_readBeats.2.1 1 = .ok (.iconst 3, 1) := by decide +kernel
theorem dd_X6_readBeats_2 : decode X6_readBeats.2.1 2 = .ok (.bipush 8, 2) := by decide +kernel
theorem dd_X6_readBeats_4 : decode X6_readBeats.2.1 4 = .ok (.invokevirtual 81, 3) := by decide +kernel
theorem dd_X6_readBeats_7 : decode X6_readBeats.2.1 7 = .ok (.istore_n 2, 1) := by decide +kernel
theorem dd_X6_readBeats_8 : decode X6_readBeats.2.1 8 = .ok (.iload_n 2, 1) := by decide +kernel
theorem dd_X6_readBeats_9 : decode X6_readBeats.2.1 9 = .ok (.iconst (-1), 1) := by decide +kernel
theorem dd_X6_readBeats_10 : decode X6_readBeats.2.1 10 = .ok (.if_icmp .eq 8, 3) := by decide +kernel
theorem dd_X6_readBeats_13 : decode X6_readBeats.2.1 13 = .ok (.aload_n 1, 1) := by decide +kernel
theorem dd_X6_readBeats_14 : decode X6_readBeats.2.1 14 = .ok (.iload_n 2, 1) := by decide +kernel
theorem dd_X6_readBeats_15 : decode X6_readBeats.2.1 15 = .ok (.invokevirtual 85, 3) := by decide +kernel
theorem dd_X6_readBeats_18 : decode X6_readBeats.2.1 18 = .ok (.iload_n 2, 1) := by decide +kernel
theorem dd_X6_readBeats_19 : decode X6_readBeats.2.1 19 = .ok (.iconst (-1), 1) := by decide +kernel
theorem dd_X6_readBeats_20 : decode X6_readBeats.2.1 20 = .ok (.if_icmp .eq 7, 3) := by decide +kernel
theorem dd_X6_readBeats_23 : decode X6_readBeats.2.1 23 = .ok (.iconst 1, 1) := by decide +kernel
theorem dd_X6_readBeats_24 : decode X6_readBeats.2.1 24 = .ok (.goto 4, 3) := by decide +kernel
theorem dd_X6_readBeats_27 : decode X6_readBeats.2.1 27 = .ok (.iconst 0, 1) := by decide +kernel
theorem dd_X6_readBeats_28 : decode X6_readBeats.2.1 28 = .ok (.ireturn, 1) := by decide +kernel
theorem dd_X6_readWindow_0 : decode X6_readWindow.2.1 0 = .ok (.aload_n 0, 1) := by decide +kernel
theorem dd_X6_readWindow_1 : decode X6_readWindow.2.1 1 = .ok (.iconst 2, 1) := by decide +kernel
theorem dd_X6_readWindow_2 : decode X6_readWindow.2.1 2 = .ok (.aload_n 1, 1) := by decide +kernel
theorem dd_X6_readWindow_3 : decode X6_readWindow.2.1 3 = .ok (.getfield 89, 3) := by decide +kernel
theorem dd_X6_readWindow_6 : decode X6_readWindow.2.1 6 = .ok (.invokevirtual 81, 3) := by decide +kernel
theorem dd_X6_readWindow_9 : decode X6_readWindow.2.1 9 = .ok (.istore_n 2, 1) := by decide +kernel
theorem dd_X6_readWindow_10 : decode X6_readWindow.2.1 10 = .ok (.iload_n 2, 1) := by decide +kernel
theorem dd_X6_readWindow_11 : decode X6_readWindow.2.1 11 = .ok (.iconst (-1), 1) := by decide +kernel
theorem dd_X6_readWindow_12 : decode X6_readWindow.2.1 12 = .ok (.if_icmp .eq 8, 3) := by decide +kernel
theorem dd_X6_readWindow_15 : decode X6_readWindow.2.1 15 = .ok (.aload_n 1, 1) := by decide +kernel
theorem dd_X6_readWindow_16 : decode X6_readWindow.2.1 16 = .ok (.iload_n 2, 1) := by decide +kernel
theorem dd_X6_readWindow_17 : decode X6_readWindow.2.1 17 = .ok (.putfield 91, 3) := by decide +kernel
theorem dd_X6_readWindow_20 : decode X6_readWindow.2.1 20 = .ok (.iload_n 2, 1) := by decide +kernel
theorem dd_X6_readWindow_21 : decode X6_readWindow.2.1 21 = .ok (.iconst (-1), 1) := by decide +kernel
theorem dd_X6_readWindow_22 : decode X6_readWindow.2.1 22 = .ok (.if_icmp .eq 7, 3) := by decide +kernel
theorem dd_X6_readWindow_25 : decode X6_readWindow.2.1 25 = .ok (.iconst 1, 1) := by decide +kernel
theorem dd_X6_readWindow_26 : decode X6_readWindow.2.1 26 = .ok (.goto 4, 3) := by decide +kernel
theorem dd_X6_readWindow_29 : decode X6_readWindow.2.1 29 = .ok (.iconst 0, 1) := by decide +kernel
theorem dd_X6_readWindow_30 : decode X6_readWindow.2.1 30 = .ok (.ireturn, 1) := by decide +kernel
theorem dd_X6_readSight_0 : decode X6_readSight.2.1 0 = .ok (.aload_n 0, 1) := by decide +kernel
theorem dd_X6_readSight_1 : decode X6_readSight.2.1 1 = .ok (.iconst 1, 1) := by decide +kernel
theorem dd_X6_readSight_2 : decode X6_readSight.2.1 2 = .ok (.bipush 99, 2) := by decide +kernel
theorem dd_X6_readSight_4 : decode X6_readSight.2.1 4 = .ok (.invokevirtual 81, 3) := by decide +kernel
theorem dd_X6_readSight_7 : decode X6_readSight.2.1 7 = .ok (.istore_n 2, 1) := by decide +kernel
theorem dd_X6_readSight_8 : decode X6_readSight.2.1 8 = .ok (.iload_n 2, 1) := by decide +kernel
theorem dd_X6_readSight_9 : decode X6_readSight.2.1 9 = .ok (.iconst (-1), 1) := by decide +kernel
theorem dd_X6_readSight_10 : decode X6_readSight.2.1 10 = .ok (.if_icmp .eq 8, 3) := by decide +kernel
theorem dd_X6_readSight_13 : decode X6_readSight.2.1 13 = .ok (.aload_n 1, 1) := by decide +kernel
theorem dd_X6_readSight_14 : decode X6_readSight.2.1 14 = .ok (.iload_n 2, 1) := by decide +kernel
theorem dd_X6_readSight_15 : decode X6_readSight.2.1 15 = .ok (.putfield 93, 3) := by decide +kernel
theorem dd_X6_readSight_18 : decode X6_readSight.2.1 18 = .ok (.iload_n 2, 1) := by decide +kernel
theorem dd_X6_readSight_19 : decode X6_readSight.2.1 19 = .ok (.iconst (-1), 1) := by decide +kernel
theorem dd_X6_readSight_20 : decode X6_readSight.2.1 20 = .ok (.if_icmp .eq 7, 3) := by decide +kernel
theorem dd_X6_readSight_23 : decode X6_readSight.2.1 23 = .ok (.iconst 1, 1) := by decide +kernel
theorem dd_X6_readSight_24 : decode X6_readSight.2.1 24 = .ok (.goto 4, 3) := by decide +kernel
theorem dd_X6_readSight_27 : decode X6_readSight.2.1 27 = .ok (.iconst 0, 1) := by decide +kernel
theorem dd_X6_readSight_28 : decode X6_readSight.2.1 28 = .ok (.ireturn, 1) := by decide +kernel
theorem dd_X6_readRhythm_0 : decode X6_readRhythm.2.1 0 = .ok (.aload_n 0, 1) := by decide +kernel
theorem dd_X6_readRhythm_1 : decode X6_readRhythm.2.1 1 = .ok (.invokevirtual 22, 3) := by decide +kernel
theorem dd_X6_readRhythm_4 : decode X6_readRhythm.2.1 4 = .ok (.aload_n 0, 1) := by decide +kernel
theorem dd_X6_readRhythm_5 : decode X6_readRhythm.2.1 5 = .ok (.getfield 19, 3) := by decide +kernel
theorem dd_X6_readRhythm_8 : decode X6_readRhythm.2.1 8 = .ok (.aload_n 0, 1) := by decide +kernel
theorem dd_X6_readRhythm_9 : decode X6_readRhythm.2.1 9 = .ok (.getfield 29, 3) := by decide +kernel
theorem dd_X6_readRhythm_12 : decode X6_readRhythm.2.1 12 = .ok (.isub, 1) := by decide +kernel
theorem dd_X6_readRhythm_13 : decode X6_readRhythm.2.1 13 = .ok (.aload_n 1, 1) := by decide +kernel
theorem dd_X6_readRhythm_14 : decode X6_readRhythm.2.1 14 = .ok (.getfield 89, 3) := by decide +kernel
theorem dd_X6_readRhythm_17 : decode X6_readRhythm.2.1 17 = .ok (.if_icmp .eq 5, 3) := by decide +kernel
theorem dd_X6_readRhythm_20 : decode X6_readRhythm.2.1 20 = .ok (.iconst 0, 1) := by decide +kernel
theorem dd_X6_readRhythm_21 : decode X6_readRhythm.2.1 21 = .ok (.ireturn, 1) := by decide +kernel
theorem dd_X6_readRhythm_22 : decode X6_readRhythm.2.1 22 = .ok (.iconst 0, 1) := by decide +kernel
theorem dd_X6_readRhythm_23 : decode X6_readRhythm.2.1 23 = .ok (.istore_n 2, 1) := by decide +kernel
theorem dd_X6_readRhythm_24 : decode X6_readRhythm.2.1 24 = .ok (.aload_n 0, 1) := by decide +kernel
theorem dd_X6_readRhythm_25 : decode X6_readRhythm.2.1 25 = .ok (.getfield 29, 3) := by decide +kernel
theorem dd_X6_readRhythm_28 : decode X6_readRhythm.2.1 28 = .ok (.istore_n 3, 1) := by decide +kernel
theorem dd_X6_readRhythm_29 : decode X6_readRhythm.2.1 29 = .ok (.iload_n 3, 1) := by decide +kernel
theorem dd_X6_readRhythm_30 : decode X6_readRhythm.2.1 30 = .ok (.aload_n 0, 1) := by decide +kernel
theorem dd_X6_readRhythm_31 : decode X6_readRhythm.2.1 31 = .ok (.getfield 19, 3) := by decide +kernel
theorem dd_X6_readRhythm_34 : decode X6_readRhythm.2.1 34 = .ok (.if_icmp .ge 54, 3) := by decide +kernel
theorem dd_X6_readRhythm_37 : decode X6_readRhythm.2.1 37 = .ok (.aload_n 0, 1) := by decide +kernel
theorem dd_X6_readRhythm_38 : decode X6_readRhythm.2.1 38 = .ok (.getfield 9, 3) := by decide +kernel
theorem dd_X6_readRhythm_41 : decode X6_readRhythm.2.1 41 = .ok (.iload_n 3, 1) := by decide +kernel
theorem dd_X6_readRhythm_42 : decode X6_readRhythm.2.1 42 = .ok (.iaload, 1) := by decide +kernel
theorem dd_X6_readRhythm_43 : decode X6_readRhythm.2.1 43 = .ok (.bipush 100, 2) := by decide +kernel
theorem dd_X6_readRhythm_45 : decode X6_readRhythm.2.1 45 = .ok (.if_icmp .eq 16, 3) := by decide +kernel
theorem dd_X6_readRhythm_48 : decode X6_readRhythm.2.1 48 = .ok (.aload_n 0, 1) := by decide +kernel
theorem dd_X6_readRhythm_49 : decode X6_readRhythm.2.1 49 = .ok (.getfield 9, 3) := by decide +kernel
theorem dd_X6_readRhythm_52 : decode X6_readRhythm.2.1 52 = .ok (.iload_n 3, 1) := by decide +kernel
theorem dd_X6_readRhythm_53 : decode X6_readRhythm.2.1 53 = .ok (.iaload, 1) := by decide +kernel
theorem dd_X6_readRhythm_54 : decode X6_readRhythm.2.1 54 = .ok (.bipush 102, 2) := by decide +kernel
theorem dd_X6_readRhythm_56 : decode X6_readRhythm.2.1 56 = .ok (.if_icmp .eq 5, 3) := by decide +kernel
theorem dd_X6_readRhythm_59 : decode X6_readRhythm.2.1 59 = .ok (.iconst 0, 1) := by decide +kernel
theorem dd_X6_readRhythm_60 : decode X6_readRhythm.2.1 60 = .ok (.ireturn, 1) := by decide +kernel
theorem dd_X6_readRhythm_61 : decode X6_readRhythm.2.1 61 = .ok (.iload_n 2, 1) := by decide +kernel
theorem dd_X6_readRhythm_62 : decode X6_readRhythm.2.1 62 = .ok (.iconst 1, 1) := by decide +kernel
theorem dd_X6_readRhythm_63 : decode X6_readRhythm.2.1 63 = .ok (.ishl, 1) := by decide +kernel
theorem dd_X6_readRhythm_64 : decode X6_readRhythm.2.1 64 = .ok (.aload_n 0, 1) := by decide +kernel
theorem dd_X6_readRhythm_65 : decode X6_readRhythm.2.1 65 = .ok (.getfield 9, 3) := by decide +kernel
theorem dd_X6_readRhythm_68 : decode X6_readRhythm.2.1 68 = .ok (.iload_n 3, 1) := by decide +kernel
theorem dd_X6_readRhythm_69 : decode X6_readRhythm.2.1 69 = .ok (.iaload, 1) := by decide +kernel
theorem dd_X6_readRhythm_70 : decode X6_readRhythm.2.1 70 = .ok (.bipush 102, 2) := by decide +kernel
theorem dd_X6_readRhythm_72 : decode X6_readRhythm.2.1 72 = .ok (.if_icmp .ne 7, 3) := by decide +kernel
theorem dd_X6_readRhythm_75 : decode X6_readRhythm.2.1 75 = .ok (.iconst 1, 1) := by decide +kernel
theorem dd_X6_readRhythm_76 : decode X6_readRhythm.2.1 76 = .ok (.goto 4, 3) := by decide +kernel
theorem dd_X6_readRhythm_79 : decode X6_readRhythm.2.1 79 = .ok (.iconst 0, 1) := by decide +kernel
theorem dd_X6_readRhythm_80 : decode X6_readRhythm.2.1 80 = .ok (.ior, 1) := by decide +kernel
theorem dd_X6_readRhythm_81 : decode X6_readRhythm.2.1 81 = .ok (.istore_n 2, 1) := by decide +kernel
theorem dd_X6_readRhythm_82 : decode X6_readRhythm.2.1 82 = .ok (.iinc 3 1, 3) := by decide +kernel
theorem dd_X6_readRhythm_85 : decode X6_readRhythm.2.1 85 = .ok (.goto (-56), 3) := by decide +kernel
theorem dd_X6_readRhythm_88 : decode X6_readRhythm.2.1 88 = .ok (.aload_n 1, 1) := by decide +kernel
theorem dd_X6_readRhythm_89 : decode X6_readRhythm.2.1 89 = .ok (.iload_n 2, 1) := by decide +kernel
theorem dd_X6_readRhythm_90 : decode X6_readRhythm.2.1 90 = .ok (.invokevirtual 95, 3) := by decide +kernel
theorem dd_X6_readRhythm_93 : decode X6_readRhythm.2.1 93 = .ok (.iconst 1, 1) := by decide +kernel
theorem dd_X6_readRhythm_94 : decode X6_readRhythm.2.1 94 = .ok (.ireturn, 1) := by decide +kernel
theorem dd_X6_readLight_0 : decode X6_readLight.2.1 0 = .ok (.aload_n 0, 1) := by decide +kernel
theorem dd_X6_readLight_1 : decode X6_readLight.2.1 1 = .ok (.iconst 0, 1) := by decide +kernel
theorem dd_X6_readLight_2 : decode X6_readLight.2.1 2 = .ok (.bipush 99, 2) := by decide +kernel
theorem dd_X6_readLight_4 : decode X6_readLight.2.1 4 = .ok (.invokevirtual 81, 3) := by decide +kernel
theorem dd_X6_readLight_7 : decode X6_readLight.2.1 7 = .ok (.istore_n 2, 1) := by decide +kernel
theorem dd_X6_readLight_8 : decode X6_readLight.2.1 8 = .ok (.iload_n 2, 1) := by decide +kernel
theorem dd_X6_readLight_9 : decode X6_readLight.2.1 9 = .ok (.iconst (-1), 1) := by decide +kernel
theorem dd_X6_readLight_10 : decode X6_readLight.2.1 10 = .ok (.if_icmp .eq 11, 3) := by decide +kernel
theorem dd_X6_readLight_13 : decode X6_readLight.2.1 13 = .ok (.aload_n 1, 1) := by decide +kernel
theorem dd_X6_readLight_14 : decode X6_readLight.2.1 14 = .ok (.getfield 66, 3) := by decide +kernel
theorem dd_X6_readLight_17 : decode X6_readLight.2.1 17 = .ok (.iload_n 2, 1) := by decide +kernel
theorem dd_X6_readLight_18 : decode X6_readLight.2.1 18 = .ok (.invokevirtual 98, 3) := by decide +kernel
theorem dd_X6_readLight_21 : decode X6_readLight.2.1 21 = .ok (.iload_n 2, 1) := by decide +kernel
theorem dd_X6_readLight_22 : decode X6_readLight.2.1 22 = .ok (.iconst (-1), 1) := by decide +kernel
theorem dd_X6_readLight_23 : decode X6_readLight.2.1 23 = .ok (.if_icmp .eq 7, 3) := by decide +kernel
theorem dd_X6_readLight_26 : decode X6_readLight.2.1 26 = .ok (.iconst 1, 1) := by decide +kernel
theorem dd_X6_readLight_27 : decode X6_readLight.2.1 27 = .ok (.goto 4, 3) := by decide +kernel
theorem dd_X6_readLight_30 : decode X6_readLight.2.1 30 = .ok (.iconst 0, 1) := by decide +kernel
theorem dd_X6_readLight_31 : decode X6_readLight.2.1 31 = .ok (.ireturn, 1) := by decide +kernel
theorem dd_X6_readLit_0 : decode X6_readLit.2.1 0 = .ok (.aload_n 0, 1) := by decide +kernel
theorem dd_X6_readLit_1 : decode X6_readLit.2.1 1 = .ok (.iconst 0, 1) := by decide +kernel
theorem dd_X6_readLit_2 : decode X6_readLit.2.1 2 = .ok (.aload_n 1, 1) := by decide +kernel
theorem dd_X6_readLit_3 : decode X6_readLit.2.1 3 = .ok (.getfield 66, 3) := by decide +kernel
theorem dd_X6_readLit_6 : decode X6_readLit.2.1 6 = .ok (.getfield 70, 3) := by decide +kernel
theorem dd_X6_readLit_9 : decode X6_readLit.2.1 9 = .ok (.iconst 1, 1) := by decide +kernel
theorem dd_X6_readLit_10 : decode X6_readLit.2.1 10 = .ok (.isub, 1) := by decide +kernel
theorem dd_X6_readLit_11 : decode X6_readLit.2.1 11 = .ok (.invokevirtual 81, 3) := by decide +kernel
theorem dd_X6_readLit_14 : decode X6_readLit.2.1 14 = .ok (.istore_n 2, 1) := by decide +kernel
theorem dd_X6_readLit_15 : decode X6_readLit.2.1 15 = .ok (.iload_n 2, 1) := by decide +kernel
theorem dd_X6_readLit_16 : decode X6_readLit.2.1 16 = .ok (.iconst (-1), 1) := by decide +kernel
theorem dd_X6_readLit_17 : decode X6_readLit.2.1 17 = .ok (.if_icmp .ne 5, 3) := by decide +kernel
theorem dd_X6_readLit_20 : decode X6_readLit.2.1 20 = .ok (.iconst 0, 1) := by decide +kernel
theorem dd_X6_readLit_21 : decode X6_readLit.2.1 21 = .ok (.ireturn, 1) := by decide +kernel
theorem dd_X6_readLit_22 : decode X6_readLit.2.1 22 = .ok (.aload_n 0, 1) := by decide +kernel
theorem dd_X6_readLit_23 : decode X6_readLit.2.1 23 = .ok (.iconst 0, 1) := by decide +kernel
theorem dd_X6_readLit_24 : decode X6_readLit.2.1 24 = .ok (.aload_n 1, 1) := by decide +kernel
theorem dd_X6_readLit_25 : decode X6_readLit.2.1 25 = .ok (.getfield 56, 3) := by decide +kernel
theorem dd_X6_readLit_28 : decode X6_readLit.2.1 28 = .ok (.iconst 1, 1) := by decide +kernel
theorem dd_X6_readLit_29 : decode X6_readLit.2.1 29 = .ok (.isub, 1) := by decide +kernel
theorem dd_X6_readLit_30 : decode X6_readLit.2.1 30 = .ok (.invokevirtual 81, 3) := by decide +kernel
theorem dd_X6_readLit_33 : decode X6_readLit.2.1 33 = .ok (.istore_n 3, 1) := by decide +kernel
theorem dd_X6_readLit_34 : decode X6_readLit.2.1 34 = .ok (.iload_n 3, 1) := by decide +kernel
theorem dd_X6_readLit_35 : decode X6_readLit.2.1 35 = .ok (.iconst (-1), 1) := by decide +kernel
theorem dd_X6_readLit_36 : decode X6_readLit.2.1 36 = .ok (.if_icmp .eq 13, 3) := by decide +kernel
theorem dd_X6_readLit_39 : decode X6_readLit.2.1 39 = .ok (.aload_n 1, 1) := by decide +kernel
theorem dd_X6_readLit_40 : decode X6_readLit.2.1 40 = .ok (.getfield 66, 3) := by decide +kernel
theorem dd_X6_readLit_43 : decode X6_readLit.2.1 43 = .ok (.getfield 101, 3) := by decide +kernel
theorem dd_X6_readLit_46 : decode X6_readLit.2.1 46 = .ok (.iload_n 2, 1) := by decide +kernel
theorem dd_X6_readLit_47 : decode X6_readLit.2.1 47 = .ok (.iload_n 3, 1) := by decide +kernel
theorem dd_X6_readLit_48 : decode X6_readLit.2.1 48 = .ok (.iastore, 1) := by decide +kernel
theorem dd_X6_readLit_49 : decode X6_readLit.2.1 49 = .ok (.iload_n 3, 1) := by decide +kernel
theorem dd_X6_readLit_50 : decode X6_readLit.2.1 50 = .ok (.iconst (-1), 1) := by decide +kernel
theorem dd_X6_readLit_51 : decode X6_readLit.2.1 51 = .ok (.if_icmp .eq 7, 3) := by decide +kernel
theorem dd_X6_readLit_54 : decode X6_readLit.2.1 54 = .ok (.iconst 1, 1) := by decide +kernel
theorem dd_X6_readLit_55 : decode X6_readLit.2.1 55 = .ok (.goto 4, 3) := by decide +kernel
theorem dd_X6_readLit_58 : decode X6_readLit.2.1 58 = .ok (.iconst 0, 1) := by decide +kernel
theorem dd_X6_readLit_59 : decode X6_readLit.2.1 59 = .ok (.ireturn, 1) := by decide +kernel
theorem dd_X6_readNumber_0 : decode X6_readNumber.2.1 0 = .ok (.aload_n 0, 1) := by decide +kernel
theorem dd_X6_readNumber_1 : decode X6_readNumber.2.1 1 = .ok (.invokevirtual 22, 3) := by decide +kernel
theorem dd_X6_readNumber_4 : decode X6_readNumber.2.1 4 = .ok (.aload_n 0, 1) := by decide +kernel
theorem dd_X6_readNumber_5 : decode X6_readNumber.2.1 5 = .ok (.getfield 19, 3) := by decide +kernel
theorem dd_X6_readNumber_8 : decode X6_readNumber.2.1 8 = .ok (.aload_n 0, 1) := by decide +kernel
theorem dd_X6_readNumber_9 : decode X6_readNumber.2.1 9 = .ok (.getfield 29, 3) := by decide +kernel
theorem dd_X6_readNumber_12 : decode X6_readNumber.2.1 12 = .ok (.isub, 1) := by decide +kernel
theorem dd_X6_readNumber_13 : decode X6_readNumber.2.1 13 = .ok (.istore_n 3, 1) := by decide +kernel
theorem dd_X6_readNumber_14 : decode X6_readNumber.2.1 14 = .ok (.iload_n 3, 1) := by decide +kernel
theorem dd_X6_readNumber_15 : decode X6_readNumber.2.1 15 = .ok (.iconst 1, 1) := by decide +kernel
theorem dd_X6_readNumber_16 : decode X6_readNumber.2.1 16 = .ok (.if_icmp .lt 8, 3) := by decide +kernel
theorem dd_X6_readNumber_19 : decode X6_readNumber.2.1 19 = .ok (.iload_n 3, 1) := by decide +kernel
theorem dd_X6_readNumber_20 : decode X6_readNumber.2.1 20 = .ok (.iconst 2, 1) := by decide +kernel
theorem dd_X6_readNumber_21 : decode X6_readNumber.2.1 21 = .ok (.if_icmp .le 5, 3) := by decide +kernel
theorem dd_X6_readNumber_24 : decode X6_readNumber.2.1 24 = .ok (.iconst (-1), 1) := by decide +kernel
theorem dd_X6_readNumber_25 : decode X6_readNumber.2.1 25 = .ok (.ireturn, 1) := by decide +kernel
theorem dd_X6_readNumber_26 : decode X6_readNumber.2.1 26 = .ok (.iconst 0, 1) := by decide +kernel
theorem dd_X6_readNumber_27 : decode X6_readNumber.2.1 27 = .ok (.istore 4, 2) := by decide +kernel
theorem dd_X6_readNumber_29 : decode X6_readNumber.2.1 29 = .ok (.aload_n 0, 1) := by decide +kernel
theorem dd_X6_readNumber_30 : decode X6_readNumber.2.1 30 = .ok (.getfield 29, 3) := by decide +kernel
theorem dd_X6_readNumber_33 : decode X6_readNumber.2.1 33 = .ok (.istore 5, 2) := by decide +kernel
theorem dd_X6_readNumber_35 : decode X6_readNumber.2.1 35 = .ok (.iload 5, 2) := by decide +kernel
theorem dd_X6_readNumber_37 : decode X6_readNumber.2.1 37 = .ok (.aload_n 0, 1) := by decide +kernel
theorem dd_X6_readNumber_38 : decode X6_readNumber.2.1 38 = .ok (.getfield 19, 3) := by decide +kernel
theorem dd_X6_readNumber_41 : decode X6_readNumber.2.1 41 = .ok (.if_icmp .ge 42, 3) := by decide +kernel
theorem dd_X6_readNumber_44 : decode X6_readNumber.2.1 44 = .ok (.aload_n 0, 1) := by decide +kernel
theorem dd_X6_readNumber_45 : decode X6_readNumber.2.1 45 = .ok (.getfield 9, 3) := by decide +kernel
theorem dd_X6_readNumber_48 : decode X6_readNumber.2.1 48 = .ok (.iload 5, 2) := by decide +kernel
theorem dd_X6_readNumber_50 : decode X6_readNumber.2.1 50 = .ok (.iaload, 1) := by decide +kernel
theorem dd_X6_readNumber_51 : decode X6_readNumber.2.1 51 = .ok (.invokestatic 104, 3) := by decide +kernel
theorem dd_X6_readNumber_54 : decode X6_readNumber.2.1 54 = .ok (.ifCond .ne 5, 3) := by decide +kernel
theorem dd_X6_readNumber_57 : decode X6_readNumber.2.1 57 = .ok (.iconst (-1), 1) := by decide +kernel
theorem dd_X6_readNumber_58 : decode X6_readNumber.2.1 58 = .ok (.ireturn, 1) := by decide +kernel
theorem dd_X6_readNumber_59 : decode X6_readNumber.2.1 59 = .ok (.iload 4, 2) := by decide +kernel
theorem dd_X6_readNumber_61 : decode X6_readNumber.2.1 61 = .ok (.bipush 10, 2) := by decide +kernel
theorem dd_X6_readNumber_63 : decode X6_readNumber.2.1 63 = .ok (.imul, 1) := by decide +kernel
theorem dd_X6_readNumber_64 : decode X6_readNumber.2.1 64 = .ok (.aload_n 0, 1) := by decide +kernel
theorem dd_X6_readNumber_65 : decode X6_readNumber.2.1 65 = .ok (.getfield 9, 3) := by decide +kernel
theorem dd_X6_readNumber_68 : decode X6_readNumber.2.1 68 = .ok (.iload 5, 2) := by decide +kernel
theorem dd_X6_readNumber_70 : decode X6_readNumber.2.1 70 = .ok (.iaload, 1) := by decide +kernel
theorem dd_X6_readNumber_71 : decode X6_readNumber.2.1 71 = .ok (.iadd, 1) := by decide +kernel
theorem dd_X6_readNumber_72 : decode X6_readNumber.2.1 72 = .ok (.bipush 48, 2) := by decide +kernel
theorem dd_X6_readNumber_74 : decode X6_readNumber.2.1 74 = .ok (.isub, 1) := by decide +kernel
theorem dd_X6_readNumber_75 : decode X6_readNumber.2.1 75 = .ok (.istore 4, 2) := by decide +kernel
theorem dd_X6_readNumber_77 : decode X6_readNumber.2.1 77 = .ok (.iinc 5 1, 3) := by decide +kernel
theorem dd_X6_readNumber_80 : decode X6_readNumber.2.1 80 = .ok (.goto (-45), 3) := by decide +kernel
theorem dd_X6_readNumber_83 : decode X6_readNumber.2.1 83 = .ok (.iload 4, 2) := by decide +kernel
theorem dd_X6_readNumber_85 : decode X6_readNumber.2.1 85 = .ok (.iload_n 1, 1) := by decide +kernel
theorem dd_X6_readNumber_86 : decode X6_readNumber.2.1 86 = .ok (.if_icmp .lt 9, 3) := by decide +kernel
theorem dd_X6_readNumber_89 : decode X6_readNumber.2.1 89 = .ok (.iload 4, 2) := by decide +kernel
theorem dd_X6_readNumber_91 : decode X6_readNumber.2.1 91 = .ok (.iload_n 2, 1) := by decide +kernel
theorem dd_X6_readNumber_92 : decode X6_readNumber.2.1 92 = .ok (.if_icmp .le 7, 3) := by decide +kernel
theorem dd_X6_readNumber_95 : decode X6_readNumber.2.1 95 = .ok (.iconst (-1), 1) := by decide +kernel
theorem dd_X6_readNumber_96 : decode X6_readNumber.2.1 96 = .ok (.goto 5, 3) := by decide +kernel
theorem dd_X6_readNumber_99 : decode X6_readNumber.2.1 99 = .ok (.iload 4, 2) := by decide +kernel
theorem dd_X6_readNumber_101 : decode X6_readNumber.2.1 101 = .ok (.ireturn, 1) := by decide +kernel
theorem dd_X6_advance_0 : decode X6_advance.2.1 0 = .ok (.aload_n 0, 1) := by decide +kernel
theorem dd_X6_advance_1 : decode X6_advance.2.1 1 = .ok (.aload_n 0, 1) := by decide +kernel
theorem dd_X6_advance_2 : decode X6_advance.2.1 2 = .ok (.getfield 19, 3) := by decide +kernel
theorem dd_X6_advance_5 : decode X6_advance.2.1 5 = .ok (.putfield 29, 3) := by decide +kernel
theorem dd_X6_advance_8 : decode X6_advance.2.1 8 = .ok (.aload_n 0, 1) := by decide +kernel
theorem dd_X6_advance_9 : decode X6_advance.2.1 9 = .ok (.getfield 29, 3) := by decide +kernel
theorem dd_X6_advance_12 : decode X6_advance.2.1 12 = .ok (.aload_n 0, 1) := by decide +kernel
theorem dd_X6_advance_13 : decode X6_advance.2.1 13 = .ok (.getfield 15, 3) := by decide +kernel
theorem dd_X6_advance_16 : decode X6_advance.2.1 16 = .ok (.if_icmp .ge 30, 3) := by decide +kernel
theorem dd_X6_advance_19 : decode X6_advance.2.1 19 = .ok (.aload_n 0, 1) := by decide +kernel
theorem dd_X6_advance_20 : decode X6_advance.2.1 20 = .ok (.getfield 9, 3) := by decide +kernel
theorem dd_X6_advance_23 : decode X6_advance.2.1 23 = .ok (.aload_n 0, 1) := by decide +kernel
theorem dd_X6_advance_24 : decode X6_advance.2.1 24 = .ok (.getfield 29, 3) := by decide +kernel
theorem dd_X6_advance_27 : decode X6_advance.2.1 27 = .ok (.iaload, 1) := by decide +kernel
theorem dd_X6_advance_28 : decode X6_advance.2.1 28 = .ok (.bipush 32, 2) := by decide +kernel
theorem dd_X6_advance_30 : decode X6_advance.2.1 30 = .ok (.if_icmp .ne 16, 3) := by decide +kernel
theorem dd_X6_advance_33 : decode X6_advance.2.1 33 = .ok (.aload_n 0, 1) := by decide +kernel
theorem dd_X6_advance_34 : decode X6_advance.2.1 34 = .ok (.dup, 1) := by decide +kernel
theorem dd_X6_advance_35 : decode X6_advance.2.1 35 = .ok (.getfield 29, 3) := by decide +kernel
theorem dd_X6_advance_38 : decode X6_advance.2.1 38 = .ok (.iconst 1, 1) := by decide +kernel
theorem dd_X6_advance_39 : decode X6_advance.2.1 39 = .ok (.iadd, 1) := by decide +kernel
theorem dd_X6_advance_40 : decode X6_advance.2.1 40 = .ok (.putfield 29, 3) := by decide +kernel
theorem dd_X6_advance_43 : decode X6_advance.2.1 43 = .ok (.goto (-35), 3) := by decide +kernel
theorem dd_X6_advance_46 : decode X6_advance.2.1 46 = .ok (.aload_n 0, 1) := by decide +kernel
theorem dd_X6_advance_47 : decode X6_advance.2.1 47 = .ok (.aload_n 0, 1) := by decide +kernel
theorem dd_X6_advance_48 : decode X6_advance.2.1 48 = .ok (.getfield 29, 3) := by decide +kernel
theorem dd_X6_advance_51 : decode X6_advance.2.1 51 = .ok (.putfield 19, 3) := by decide +kernel
theorem dd_X6_advance_54 : decode X6_advance.2.1 54 = .ok (.aload_n 0, 1) := by decide +kernel
theorem dd_X6_advance_55 : decode X6_advance.2.1 55 = .ok (.getfield 29, 3) := by decide +kernel
theorem dd_X6_advance_58 : decode X6_advance.2.1 58 = .ok (.aload_n 0, 1) := by decide +kernel
theorem dd_X6_advance_59 : decode X6_advance.2.1 59 = .ok (.getfield 15, 3) := by decide +kernel
theorem dd_X6_advance_62 : decode X6_advance.2.1 62 = .ok (.if_icmp .lt 4, 3) := by decide +kernel
theorem dd_X6_advance_65 : decode X6_advance.2.1 65 = .ok (.return_, 1) := by decide +kernel
theorem dd_X6_advance_66 : decode X6_advance.2.1 66 = .ok (.aload_n 0, 1) := by decide +kernel
theorem dd_X6_advance_67 : decode X6_advance.2.1 67 = .ok (.dup, 1) := by decide +kernel
theorem dd_X6_advance_68 : decode X6_advance.2.1 68 = .ok (.getfield 19, 3) := by decide +kernel
theorem dd_X6_advance_71 : decode X6_advance.2.1 71 = .ok (.iconst 1, 1) := by decide +kernel
theorem dd_X6_advance_72 : decode X6_advance.2.1 72 = .ok (.iadd, 1) := by decide +kernel
theorem dd_X6_advance_73 : decode X6_advance.2.1 73 = .ok (.putfield 19, 3) := by decide +kernel
theorem dd_X6_advance_76 : decode X6_advance.2.1 76 = .ok (.aload_n 0, 1) := by decide +kernel
theorem dd_X6_advance_77 : decode X6_advance.2.1 77 = .ok (.getfield 9, 3) := by decide +kernel
theorem dd_X6_advance_80 : decode X6_advance.2.1 80 = .ok (.aload_n 0, 1) := by decide +kernel
theorem dd_X6_advance_81 : decode X6_advance.2.1 81 = .ok (.getfield 29, 3) := by decide +kernel
theorem dd_X6_advance_84 : decode X6_advance.2.1 84 = .ok (.iaload, 1) := by decide +kernel
theorem dd_X6_advance_85 : decode X6_advance.2.1 85 = .ok (.invokestatic 108, 3) := by decide +kernel
theorem dd_X6_advance_88 : decode X6_advance.2.1 88 = .ok (.istore_n 1, 1) := by decide +kernel
theorem dd_X6_advance_89 : decode X6_advance.2.1 89 = .ok (.aload_n 0, 1) := by decide +kernel
theorem dd_X6_advance_90 : decode X6_advance.2.1 90 = .ok (.getfield 9, 3) := by decide +kernel
theorem dd_X6_advance_93 : decode X6_advance.2.1 93 = .ok (.aload_n 0, 1) := by decide +kernel
theorem dd_X6_advance_94 : decode X6_advance.2.1 94 = .ok (.getfield 29, 3) := by decide +kernel
theorem dd_X6_advance_97 : decode X6_advance.2.1 97 = .ok (.iaload, 1) := by decide +kernel
theorem dd_X6_advance_98 : decode X6_advance.2.1 98 = .ok (.invokestatic 104, 3) := by decide +kernel
theorem dd_X6_advance_101 : decode X6_advance.2.1 101 = .ok (.istore_n 2, 1) := by decide +kernel
theorem dd_X6_advance_102 : decode X6_advance.2.1 102 = .ok (.aload_n 0, 1) := by decide +kernel
theorem dd_X6_advance_103 : decode X6_advance.2.1 103 = .ok (.getfield 19, 3) := by decide +kernel
theorem dd_X6_advance_106 : decode X6_advance.2.1 106 = .ok (.aload_n 0, 1) := by decide +kernel
theorem dd_X6_advance_107 : decode X6_advance.2.1 107 = .ok (.getfield 15, 3) := by decide +kernel
theorem dd_X6_advance_110 : decode X6_advance.2.1 110 = .ok (.if_icmp .ge 54, 3) := by decide +kernel
theorem dd_X6_advance_113 : decode X6_advance.2.1 113 = .ok (.iload_n 1, 1) := by decide +kernel
theorem dd_X6_advance_114 : decode X6_advance.2.1 114 = .ok (.ifCond .eq 18, 3) := by decide +kernel
theorem dd_X6_advance_117 : decode X6_advance.2.1 117 = .ok (.aload_n 0, 1) := by decide +kernel
theorem dd_X6_advance_118 : decode X6_advance.2.1 118 = .ok (.getfield 9, 3) := by decide +kernel
theorem dd_X6_advance_121 : decode X6_advance.2.1 121 = .ok (.aload_n 0, 1) := by decide +kernel
theorem dd_X6_advance_122 : decode X6_advance.2.1 122 = .ok (.getfield 19, 3) := by decide +kernel
theorem dd_X6_advance_125 : decode X6_advance.2.1 125 = .ok (.iaload, 1) := by decide +kernel
theorem dd_X6_advance_126 : decode X6_advance.2.1 126 = .ok (.invokestatic 108, 3) := by decide +kernel
theorem dd_X6_advance_129 : decode X6_advance.2.1 129 = .ok (.ifCond .ne 22, 3) := by decide +kernel
theorem dd_X6_advance_132 : decode X6_advance.2.1 132 = .ok (.iload_n 2, 1) := by decide +kernel
theorem dd_X6_advance_133 : decode X6_advance.2.1 133 = .ok (.ifCond .eq 31, 3) := by decide +kernel
theorem dd_X6_advance_136 : decode X6_advance.2.1 136 = .ok (.aload_n 0, 1) := by decide +kernel
theorem dd_X6_advance_137 : decode X6_advance.2.1 137 = .ok (.getfield 9, 3) := by decide +kernel
theorem dd_X6_advance_140 : decode X6_advance.2.1 140 = .ok (.aload_n 0, 1) := by decide +kernel
theorem dd_X6_advance_141 : decode X6_advance.2.1 141 = .ok (.getfield 19, 3) := by decide +kernel
theorem dd_X6_advance_144 : decode X6_advance.2.1 144 = .ok (.iaload, 1) := by decide +kernel
theorem dd_X6_advance_145 : decode X6_advance.2.1 145 = .ok (.invokestatic 104, 3) := by decide +kernel
theorem dd_X6_advance_148 : decode X6_advance.2.1 148 = .ok (.ifCond .eq 16, 3) := by decide +kernel
theorem dd_X6_advance_151 : decode X6_advance.2.1 151 = .ok (.aload_n 0, 1) := by decide +kernel
theorem dd_X6_advance_152 : decode X6_advance.2.1 152 = .ok (.dup, 1) := by decide +kernel
theorem dd_X6_advance_153 : decode X6_advance.2.1 153 = .ok (.getfield 19, 3) := by decide +kernel
theorem dd_X6_advance_156 : decode X6_advance.2.1 156 = .ok (.iconst 1, 1) := by decide +kernel
theorem dd_X6_advance_157 : decode X6_advance.2.1 157 = .ok (.iadd, 1) := by decide +kernel
theorem dd_X6_advance_158 : decode X6_advance.2.1 158 = .ok (.putfield 19, 3) := by decide +kernel
theorem dd_X6_advance_161 : decode X6_advance.2.1 161 = .ok (.goto (-59), 3) := by decide +kernel
theorem dd_X6_advance_164 : decode X6_advance.2.1 164 = .ok (.return_, 1) := by decide +kernel
