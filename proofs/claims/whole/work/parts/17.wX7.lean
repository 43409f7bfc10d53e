/-! WALKS, by program (wip/whole/gen6.py). -/
theorem w_X7_begin {d : Nat} {M : Mm} {v1 : Int64} {v3 : Int32} {K : Mm → Prop}  (h : (v3 = 0 ∨ v3 = 1) ∧ (K (wI (wL (wL (wI (wI M 34 0 1) 34 1 v3) 34 2 v1) 34 3 0) 34 4 0))) : ACv (d + 1) X7_begin [.ref 34, .long v1, .int v3] M K := by
  refine AC.ofW (lv := [some (.ref 34), some (.long v1), none, some (.int v3)]) pn_X7 (Nat.le_of_ble_eq_true rfl) (show lvLe _ [some (.ref 34), some (.long v1), none, some (.int v3)] from (lvs (lvs (lvn (lvs lvz))))) ?_
  intro p l e s m args below meth c G hc
  refine hb_aload_n (q := 1) hc dd_X7_begin_0 rfl rfl ?_
  refine hb_iconst (q := 2) (v := 1) hc dd_X7_begin_1 rfl ic_1 ?_
  refine hb_putZ (q := 5) hc fl_X7_9 sh34 sl34 rfl (by decide) dd_X7_begin_2 rfl ?_
  refine hb_aload_n (q := 6) hc dd_X7_begin_5 rfl rfl ?_
  refine hb_iload_n (q := 7) hc dd_X7_begin_6 rfl rfl ?_
  obtain ⟨hz, h⟩ := h
  refine hb_putZ (q := 10) hc fl_X7_15 sh34 sl34 rfl hz dd_X7_begin_7 rfl ?_
  refine hb_aload_n (q := 11) hc dd_X7_begin_10 rfl rfl ?_
  refine hb_lload_n (q := 12) hc dd_X7_begin_11 rfl rfl ?_
  refine hb_putL (q := 15) hc fl_X7_18 sh34 sl34 rfl dd_X7_begin_12 rfl ?_
  refine hb_aload_n (q := 16) hc dd_X7_begin_15 rfl rfl ?_
  refine hb_lconst (q := 17) (v := 0) hc dd_X7_begin_16 rfl lc_0 ?_
  refine hb_putL (q := 20) hc fl_X7_22 sh34 sl34 rfl dd_X7_begin_17 rfl ?_
  refine hb_aload_n (q := 21) hc dd_X7_begin_20 rfl rfl ?_
  refine hb_iconst (q := 22) (v := 0) hc dd_X7_begin_21 rfl ic_0 ?_
  refine hb_putI (q := 25) hc fl_X7_25 sh34 sl34 rfl dd_X7_begin_22 rfl ?_
  exact hb_vret hc rfl dd_X7_begin_25 h
theorem w_X7_end {d : Nat} {M : Mm}  {K : Mm → Prop}  (h : K (wL (wI M 34 0 0) 34 2 0)) : ACv (d + 1) X7_end [.ref 34] M K := by
  refine AC.ofW (lv := [some (.ref 34)]) pn_X7 (Nat.le_of_ble_eq_true rfl) (show lvLe _ [some (.ref 34)] from (lvs lvz)) ?_
  intro p l e s m args below meth c G hc
  refine hb_aload_n (q := 1) hc dd_X7_end_0 rfl rfl ?_
  refine hb_iconst (q := 2) (v := 0) hc dd_X7_end_1 rfl ic_0 ?_
  refine hb_putZ (q := 5) hc fl_X7_9 sh34 sl34 rfl (by decide) dd_X7_end_2 rfl ?_
  refine hb_aload_n (q := 6) hc dd_X7_end_5 rfl rfl ?_
  refine hb_lconst (q := 7) (v := 0) hc dd_X7_end_6 rfl lc_0 ?_
  refine hb_putL (q := 10) hc fl_X7_18 sh34 sl34 rfl dd_X7_end_7 rfl ?_
  exact hb_vret hc rfl dd_X7_end_10 h
theorem w_X7_size {d : Nat} {M : Mm}  {K : Int32 → Mm → Prop}  (h : ACi d J13_bitCount_95d88 [.long (M.2 34 2)] M (fun r1 M1 => K r1 M1)) : ACi (d + 1) X7_size [.ref 34] M K := by
  refine AC.ofW (lv := [some (.ref 34)]) pn_X7 (Nat.le_of_ble_eq_true rfl) (show lvLe _ [some (.ref 34)] from (lvs lvz)) ?_
  intro p l e s m args below meth c G hc
  refine hb_aload_n (q := 1) hc dd_X7_size_0 rfl rfl ?_
  refine hb_getL (q := 4) (v := M.2 34 2) hc fl_X7_18 sh34 sl34 rfl rfl dd_X7_size_1 rfl ?_
  refine hb_callSi (q := 7) (vs := [.long (M.2 34 2)]) (st := []) hc mv_X7_29 h rfl rfl (Nat.le_of_ble_eq_true rfl) ⟨Nat.le_refl _, Nat.le_refl _⟩ ⟨Nat.le_refl _, Nat.le_refl _⟩ dd_X7_size_4 rfl (fun r1 M1 h => ?_)
  exact hb_iret hc rfl dd_X7_size_7 h
theorem w_X7_lights {d : Nat} {M : Mm}  {K : Int32 → Mm → Prop}  (h : ACi d X8_lightsIn [.long (M.2 34 2)] M (fun r1 M1 => K r1 M1)) : ACi (d + 1) X7_lights [.ref 34] M K := by
  refine AC.ofW (lv := [some (.ref 34)]) pn_X7 (Nat.le_of_ble_eq_true rfl) (show lvLe _ [some (.ref 34)] from (lvs lvz)) ?_
  intro p l e s m args below meth c G hc
  refine hb_aload_n (q := 1) hc dd_X7_lights_0 rfl rfl ?_
  refine hb_getL (q := 4) (v := M.2 34 2) hc fl_X7_18 sh34 sl34 rfl rfl dd_X7_lights_1 rfl ?_
  refine hb_callNi (q := 7) (Y := X8_lightsIn) (idx := 35) (vs := [.long (M.2 34 2)]) (st := []) hc (fun z => show va_Nw (.methodLinkNest RX7 35 yX8_lightsIn RX8) _ from z.2.2.2.1) mv_X7_35 h rfl rfl (Nat.le_of_ble_eq_true rfl) ⟨Nat.le_refl _, Nat.le_refl _⟩ ⟨Nat.le_refl _, Nat.le_refl _⟩ dd_X7_lights_4 rfl (fun r1 M1 h => ?_)
  exact hb_iret hc rfl dd_X7_lights_7 h
def lp_X7_takeBeat_3 (d : Nat) (M : Mm) (v1 : Int32) (v2 : Int64) (v4 : Int32) (v5 : Int32) (K : Mm → Prop) : Prop := AW (d + 1) X7_takeBeat M 3 [some (.ref 34), some (.int v1), some (.long v2), none, some (.int v4), some (.int v5), none, none, none, none, none] [] (QV K)
theorem z_X7_takeBeat_3 {d : Nat} {M : Mm} {v1 : Int32} {v2 : Int64} {v4 : Int32} {v5 : Int32} {K : Mm → Prop}  (h : (48 ≤ v5 → ((v4 ≤ ((M.1 34 4) + 1) → (K (wI M 34 4 0))) ∧ (¬ v4 ≤ ((M.1 34 4) + 1) → (K (wI M 34 4 ((M.1 34 4) + 1)))))) ∧ (¬ 48 ≤ v5 → (ACi d X7_shiftNow [.ref 34, .int v5, .int v4] M (fun r1 M1 => ((lg_cmp (v2 &&& ((1 : Int64) <<< (((v5 - (v5 - v5 / 8 * 8)) + r1).toInt64 &&& 63))) 0) = 0 → (((lg_cmp ((M1.2 34 2) &&& ((1 : Int64) <<< (v5.toInt64 &&& 63))) 0) = 0 → (lp_X7_takeBeat_3 d M1 v1 v2 v4 (v5 + 1) K)) ∧ (¬ (lg_cmp ((M1.2 34 2) &&& ((1 : Int64) <<< (v5.toInt64 &&& 63))) 0) = 0 → ((¬ v1 = 1 → (lp_X7_takeBeat_3 d M1 v1 v2 v4 (v5 + 1) K)) ∧ (v1 = 1 → (ACv d X7_strikeOrForgive [.ref 34, .long ((1 : Int64) <<< (v5.toInt64 &&& 63)), .int 0] M1 (fun M2 => lp_X7_takeBeat_3 d M2 v1 v2 v4 (v5 + 1) K))))))) ∧ (¬ (lg_cmp (v2 &&& ((1 : Int64) <<< (((v5 - (v5 - v5 / 8 * 8)) + r1).toInt64 &&& 63))) 0) = 0 → (((lg_cmp ((M1.2 34 2) &&& ((1 : Int64) <<< (v5.toInt64 &&& 63))) 0) = 0 → (lp_X7_takeBeat_3 d M1 v1 v2 v4 (v5 + 1) K)) ∧ (¬ (lg_cmp ((M1.2 34 2) &&& ((1 : Int64) <<< (v5.toInt64 &&& 63))) 0) = 0 → ((¬ v1 = 1 → (ACv d X7_strikeOrForgive [.ref 34, .long ((1 : Int64) <<< (v5.toInt64 &&& 63)), .int 1] M1 (fun M3 => lp_X7_takeBeat_3 d M3 v1 v2 v4 (v5 + 1) K))) ∧ (v1 = 1 → (lp_X7_takeBeat_3 d M1 v1 v2 v4 (v5 + 1) K)))))))))) : lp_X7_takeBeat_3 d M v1 v2 v4 v5 K := by
  intro p l e s m args below meth c G hc
  refine hb_iload (q := 5) hc dd_X7_takeBeat_3 rfl rfl ?_
  refine hb_bipush (q := 7) (v := 48) hc dd_X7_takeBeat_5 rfl bp_48 ?_
  refine hb_icmp_ge (q := 10) (tg := 94) hc dd_X7_takeBeat_7 rfl (by decide) (fun z => ?_) (fun z => ?_)
  · replace h := h.1 z
    refine hb_aload_n (q := 95) hc dd_X7_takeBeat_94 rfl rfl ?_
    refine hb_aload_n (q := 96) hc dd_X7_takeBeat_95 rfl rfl ?_
    refine hb_getI (q := 99) (v := M.1 34 4) hc fl_X7_25 sh34 sl34 rfl rfl dd_X7_takeBeat_96 rfl ?_
    refine hb_iconst (q := 100) (v := 1) hc dd_X7_takeBeat_99 rfl ic_1 ?_
    refine hb_iadd (q := 101) hc dd_X7_takeBeat_100 rfl ?_
    refine hb_iload (q := 103) hc dd_X7_takeBeat_101 rfl rfl ?_
    refine hb_icmp_ge (q := 106) (tg := 115) hc dd_X7_takeBeat_103 rfl (by decide) (fun z => ?_) (fun z => ?_)
    · replace h := h.1 z
      refine hb_iconst (q := 116) (v := 0) hc dd_X7_takeBeat_115 rfl ic_0 ?_
      refine hb_putI (q := 119) hc fl_X7_25 sh34 sl34 rfl dd_X7_takeBeat_116 rfl ?_
      exact hb_vret hc rfl dd_X7_takeBeat_119 h
    · replace h := h.2 z
      refine hb_aload_n (q := 107) hc dd_X7_takeBeat_106 rfl rfl ?_
      refine hb_getI (q := 110) (v := M.1 34 4) hc fl_X7_25 sh34 sl34 rfl rfl dd_X7_takeBeat_107 rfl ?_
      refine hb_iconst (q := 111) (v := 1) hc dd_X7_takeBeat_110 rfl ic_1 ?_
      refine hb_iadd (q := 112) hc dd_X7_takeBeat_111 rfl ?_
      refine hb_goto (tg := 116) hc dd_X7_takeBeat_112 (by decide) ?_
      refine hb_putI (q := 119) hc fl_X7_25 sh34 sl34 rfl dd_X7_takeBeat_116 rfl ?_
      exact hb_vret hc rfl dd_X7_takeBeat_119 h
  · replace h := h.2 z
    refine hb_lconst (q := 11) (v := 1) hc dd_X7_takeBeat_10 rfl lc_1 ?_
    refine hb_iload (q := 13) hc dd_X7_takeBeat_11 rfl rfl ?_
    refine hb_lshl (q := 14) hc dd_X7_takeBeat_13 rfl ?_
    refine hb_lstore (q := 16) (lv' := [some (.ref 34), some (.int v1), some (.long v2), none, some (.int v4), some (.int v5), some (.long ((1 : Int64) <<< (v5.toInt64 &&& 63))), none, none, none, none]) hc dd_X7_takeBeat_14 rfl (Nat.le_of_ble_eq_true rfl) rfl ?_
    refine hb_lconst (q := 17) (v := 1) hc dd_X7_takeBeat_16 rfl lc_1 ?_
    refine hb_iload (q := 19) hc dd_X7_takeBeat_17 rfl rfl ?_
    refine hb_iload (q := 21) hc dd_X7_takeBeat_19 rfl rfl ?_
    refine hb_bipush (q := 23) (v := 8) hc dd_X7_takeBeat_21 rfl bp_8 ?_
    refine hb_irem (q := 24) hc dd_X7_takeBeat_23 rfl (by decide) ?_
    refine hb_isub (q := 25) hc dd_X7_takeBeat_24 rfl ?_
    refine hb_aload_n (q := 26) hc dd_X7_takeBeat_25 rfl rfl ?_
    refine hb_iload (q := 28) hc dd_X7_takeBeat_26 rfl rfl ?_
    refine hb_iload (q := 30) hc dd_X7_takeBeat_28 rfl rfl ?_
    refine hb_callVi (q := 33) (vs := [.int v5, .int v4]) (st := [.int (v5 - (v5 - v5 / 8 * 8)), .long 1]) hc mv_X7_38 h sh34 sl34 rfl rfl rfl (Nat.le_of_ble_eq_true rfl) ⟨Nat.le_refl _, Nat.le_refl _⟩ ⟨Nat.le_refl _, Nat.le_refl _⟩ dd_X7_takeBeat_30 rfl (fun r1 M1 h => ?_)
    refine hb_iadd (q := 34) hc dd_X7_takeBeat_33 rfl ?_
    refine hb_lshl (q := 35) hc dd_X7_takeBeat_34 rfl ?_
    refine hb_lstore (q := 37) (lv' := [some (.ref 34), some (.int v1), some (.long v2), none, some (.int v4), some (.int v5), some (.long ((1 : Int64) <<< (v5.toInt64 &&& 63))), none, some (.long ((1 : Int64) <<< (((v5 - (v5 - v5 / 8 * 8)) + r1).toInt64 &&& 63))), none, none]) hc dd_X7_takeBeat_35 rfl (Nat.le_of_ble_eq_true rfl) rfl ?_
    refine hb_lload_n (q := 38) hc dd_X7_takeBeat_37 rfl rfl ?_
    refine hb_lload (q := 40) hc dd_X7_takeBeat_38 rfl rfl ?_
    refine hb_land (q := 41) hc dd_X7_takeBeat_40 rfl ?_
    refine hb_lconst (q := 42) (v := 0) hc dd_X7_takeBeat_41 rfl lc_0 ?_
    refine hb_lcmp (q := 43) hc dd_X7_takeBeat_42 rfl ?_
    refine hb_if_eq (q := 46) (tg := 50) hc dd_X7_takeBeat_43 rfl (by decide) (fun z => ?_) (fun z => ?_)
    · replace h := h.1 z
      refine hb_iconst (q := 51) (v := 0) hc dd_X7_takeBeat_50 rfl ic_0 ?_
      refine hb_istore (q := 53) (lv' := [some (.ref 34), some (.int v1), some (.long v2), none, some (.int v4), some (.int v5), some (.long ((1 : Int64) <<< (v5.toInt64 &&& 63))), none, some (.long ((1 : Int64) <<< (((v5 - (v5 - v5 / 8 * 8)) + r1).toInt64 &&& 63))), none, some (.int 0)]) hc dd_X7_takeBeat_51 rfl (Nat.le_of_ble_eq_true rfl) rfl ?_
      refine hb_aload_n (q := 54) hc dd_X7_takeBeat_53 rfl rfl ?_
      refine hb_getL (q := 57) (v := M1.2 34 2) hc fl_X7_18 sh34 sl34 rfl rfl dd_X7_takeBeat_54 rfl ?_
      refine hb_lload (q := 59) hc dd_X7_takeBeat_57 rfl rfl ?_
      refine hb_land (q := 60) hc dd_X7_takeBeat_59 rfl ?_
      refine hb_lconst (q := 61) (v := 0) hc dd_X7_takeBeat_60 rfl lc_0 ?_
      refine hb_lcmp (q := 62) hc dd_X7_takeBeat_61 rfl ?_
      refine hb_if_eq (q := 65) (tg := 88) hc dd_X7_takeBeat_62 rfl (by decide) (fun z => ?_) (fun z => ?_)
      · replace h := h.1 z
        refine hb_iinc (q := 91) (v := v5 + 1) (lv' := [some (.ref 34), some (.int v1), some (.long v2), none, some (.int v4), some (.int (v5 + 1)), some (.long ((1 : Int64) <<< (v5.toInt64 &&& 63))), none, some (.long ((1 : Int64) <<< (((v5 - (v5 - v5 / 8 * 8)) + r1).toInt64 &&& 63))), none, some (.int 0)]) hc dd_X7_takeBeat_88 rfl rfl rfl (Nat.le_of_ble_eq_true rfl) rfl ?_
        refine hb_goto (tg := 3) hc dd_X7_takeBeat_91 (by decide) ?_
        exact hb_weak (lvs (lvs (lvs (lvn (lvs (lvs (lvn (lvn (lvn (lvn (lvn lvz))))))))))) (h p l e s m args below meth c G hc)
      · replace h := h.2 z
        refine hb_iload (q := 67) hc dd_X7_takeBeat_65 rfl rfl ?_
        refine hb_iload_n (q := 68) hc dd_X7_takeBeat_67 rfl rfl ?_
        refine hb_iconst (q := 69) (v := 1) hc dd_X7_takeBeat_68 rfl ic_1 ?_
        refine hb_icmp_ne (q := 72) (tg := 76) hc dd_X7_takeBeat_69 rfl (by decide) (fun z => ?_) (fun z => ?_)
        · replace h := h.1 z
          refine hb_iconst (q := 77) (v := 0) hc dd_X7_takeBeat_76 rfl ic_0 ?_
          refine hb_icmp_eq (q := 80) (tg := 88) hc dd_X7_takeBeat_77 rfl (by decide) (fun _ => ?_) (fun z => absurd z (by decide))
          refine hb_iinc (q := 91) (v := v5 + 1) (lv' := [some (.ref 34), some (.int v1), some (.long v2), none, some (.int v4), some (.int (v5 + 1)), some (.long ((1 : Int64) <<< (v5.toInt64 &&& 63))), none, some (.long ((1 : Int64) <<< (((v5 - (v5 - v5 / 8 * 8)) + r1).toInt64 &&& 63))), none, some (.int 0)]) hc dd_X7_takeBeat_88 rfl rfl rfl (Nat.le_of_ble_eq_true rfl) rfl ?_
          refine hb_goto (tg := 3) hc dd_X7_takeBeat_91 (by decide) ?_
          exact hb_weak (lvs (lvs (lvs (lvn (lvs (lvs (lvn (lvn (lvn (lvn (lvn lvz))))))))))) (h p l e s m args below meth c G hc)
        · replace h := h.2 z
          refine hb_iconst (q := 73) (v := 1) hc dd_X7_takeBeat_72 rfl ic_1 ?_
          refine hb_goto (tg := 77) hc dd_X7_takeBeat_73 (by decide) ?_
          refine hb_icmp_eq (q := 80) (tg := 88) hc dd_X7_takeBeat_77 rfl (by decide) (fun z => absurd z (by decide)) (fun _ => ?_)
          refine hb_aload_n (q := 81) hc dd_X7_takeBeat_80 rfl rfl ?_
          refine hb_lload (q := 83) hc dd_X7_takeBeat_81 rfl rfl ?_
          refine hb_iload (q := 85) hc dd_X7_takeBeat_83 rfl rfl ?_
          refine hb_callVv (q := 88) (vs := [.long ((1 : Int64) <<< (v5.toInt64 &&& 63)), .int 0]) (st := []) hc mv_X7_42 h sh34 sl34 rfl rfl rfl (Nat.le_of_ble_eq_true rfl) ⟨Nat.le_refl _, Nat.le_refl _⟩ ⟨Nat.le_refl _, Nat.le_refl _⟩ dd_X7_takeBeat_85 rfl (fun M2 h => ?_)
          refine hb_iinc (q := 91) (v := v5 + 1) (lv' := [some (.ref 34), some (.int v1), some (.long v2), none, some (.int v4), some (.int (v5 + 1)), some (.long ((1 : Int64) <<< (v5.toInt64 &&& 63))), none, some (.long ((1 : Int64) <<< (((v5 - (v5 - v5 / 8 * 8)) + r1).toInt64 &&& 63))), none, some (.int 0)]) hc dd_X7_takeBeat_88 rfl rfl rfl (Nat.le_of_ble_eq_true rfl) rfl ?_
          refine hb_goto (tg := 3) hc dd_X7_takeBeat_91 (by decide) ?_
          exact hb_weak (lvs (lvs (lvs (lvn (lvs (lvs (lvn (lvn (lvn (lvn (lvn lvz))))))))))) (h p l e s m args below meth c G hc)
    · replace h := h.2 z
      refine hb_iconst (q := 47) (v := 1) hc dd_X7_takeBeat_46 rfl ic_1 ?_
      refine hb_goto (tg := 51) hc dd_X7_takeBeat_47 (by decide) ?_
      refine hb_istore (q := 53) (lv' := [some (.ref 34), some (.int v1), some (.long v2), none, some (.int v4), some (.int v5), some (.long ((1 : Int64) <<< (v5.toInt64 &&& 63))), none, some (.long ((1 : Int64) <<< (((v5 - (v5 - v5 / 8 * 8)) + r1).toInt64 &&& 63))), none, some (.int 1)]) hc dd_X7_takeBeat_51 rfl (Nat.le_of_ble_eq_true rfl) rfl ?_
      refine hb_aload_n (q := 54) hc dd_X7_takeBeat_53 rfl rfl ?_
      refine hb_getL (q := 57) (v := M1.2 34 2) hc fl_X7_18 sh34 sl34 rfl rfl dd_X7_takeBeat_54 rfl ?_
      refine hb_lload (q := 59) hc dd_X7_takeBeat_57 rfl rfl ?_
      refine hb_land (q := 60) hc dd_X7_takeBeat_59 rfl ?_
      refine hb_lconst (q := 61) (v := 0) hc dd_X7_takeBeat_60 rfl lc_0 ?_
      refine hb_lcmp (q := 62) hc dd_X7_takeBeat_61 rfl ?_
      refine hb_if_eq (q := 65) (tg := 88) hc dd_X7_takeBeat_62 rfl (by decide) (fun z => ?_) (fun z => ?_)
      · replace h := h.1 z
        refine hb_iinc (q := 91) (v := v5 + 1) (lv' := [some (.ref 34), some (.int v1), some (.long v2), none, some (.int v4), some (.int (v5 + 1)), some (.long ((1 : Int64) <<< (v5.toInt64 &&& 63))), none, some (.long ((1 : Int64) <<< (((v5 - (v5 - v5 / 8 * 8)) + r1).toInt64 &&& 63))), none, some (.int 1)]) hc dd_X7_takeBeat_88 rfl rfl rfl (Nat.le_of_ble_eq_true rfl) rfl ?_
        refine hb_goto (tg := 3) hc dd_X7_takeBeat_91 (by decide) ?_
        exact hb_weak (lvs (lvs (lvs (lvn (lvs (lvs (lvn (lvn (lvn (lvn (lvn lvz))))))))))) (h p l e s m args below meth c G hc)
      · replace h := h.2 z
        refine hb_iload (q := 67) hc dd_X7_takeBeat_65 rfl rfl ?_
        refine hb_iload_n (q := 68) hc dd_X7_takeBeat_67 rfl rfl ?_
        refine hb_iconst (q := 69) (v := 1) hc dd_X7_takeBeat_68 rfl ic_1 ?_
        refine hb_icmp_ne (q := 72) (tg := 76) hc dd_X7_takeBeat_69 rfl (by decide) (fun z => ?_) (fun z => ?_)
        · replace h := h.1 z
          refine hb_iconst (q := 77) (v := 0) hc dd_X7_takeBeat_76 rfl ic_0 ?_
          refine hb_icmp_eq (q := 80) (tg := 88) hc dd_X7_takeBeat_77 rfl (by decide) (fun z => absurd z (by decide)) (fun _ => ?_)
          refine hb_aload_n (q := 81) hc dd_X7_takeBeat_80 rfl rfl ?_
          refine hb_lload (q := 83) hc dd_X7_takeBeat_81 rfl rfl ?_
          refine hb_iload (q := 85) hc dd_X7_takeBeat_83 rfl rfl ?_
          refine hb_callVv (q := 88) (vs := [.long ((1 : Int64) <<< (v5.toInt64 &&& 63)), .int 1]) (st := []) hc mv_X7_42 h sh34 sl34 rfl rfl rfl (Nat.le_of_ble_eq_true rfl) ⟨Nat.le_refl _, Nat.le_refl _⟩ ⟨Nat.le_refl _, Nat.le_refl _⟩ dd_X7_takeBeat_85 rfl (fun M3 h => ?_)
          refine hb_iinc (q := 91) (v := v5 + 1) (lv' := [some (.ref 34), some (.int v1), some (.long v2), none, some (.int v4), some (.int (v5 + 1)), some (.long ((1 : Int64) <<< (v5.toInt64 &&& 63))), none, some (.long ((1 : Int64) <<< (((v5 - (v5 - v5 / 8 * 8)) + r1).toInt64 &&& 63))), none, some (.int 1)]) hc dd_X7_takeBeat_88 rfl rfl rfl (Nat.le_of_ble_eq_true rfl) rfl ?_
          refine hb_goto (tg := 3) hc dd_X7_takeBeat_91 (by decide) ?_
          exact hb_weak (lvs (lvs (lvs (lvn (lvs (lvs (lvn (lvn (lvn (lvn (lvn lvz))))))))))) (h p l e s m args below meth c G hc)
        · replace h := h.2 z
          refine hb_iconst (q := 73) (v := 1) hc dd_X7_takeBeat_72 rfl ic_1 ?_
          refine hb_goto (tg := 77) hc dd_X7_takeBeat_73 (by decide) ?_
          refine hb_icmp_eq (q := 80) (tg := 88) hc dd_X7_takeBeat_77 rfl (by decide) (fun _ => ?_) (fun z => absurd z (by decide))
          refine hb_iinc (q := 91) (v := v5 + 1) (lv' := [some (.ref 34), some (.int v1), some (.long v2), none, some (.int v4), some (.int (v5 + 1)), some (.long ((1 : Int64) <<< (v5.toInt64 &&& 63))), none, some (.long ((1 : Int64) <<< (((v5 - (v5 - v5 / 8 * 8)) + r1).toInt64 &&& 63))), none, some (.int 1)]) hc dd_X7_takeBeat_88 rfl rfl rfl (Nat.le_of_ble_eq_true rfl) rfl ?_
          refine hb_goto (tg := 3) hc dd_X7_takeBeat_91 (by decide) ?_
          exact hb_weak (lvs (lvs (lvs (lvn (lvs (lvs (lvn (lvn (lvn (lvn (lvn lvz))))))))))) (h p l e s m args below meth c G hc)
theorem w_X7_takeBeat {d : Nat} {M : Mm} {v1 : Int32} {v2 : Int64} {v4 : Int32} {K : Mm → Prop}  (h : lp_X7_takeBeat_3 d M v1 v2 v4 0 K) : ACv (d + 1) X7_takeBeat [.ref 34, .int v1, .long v2, .int v4] M K := by
  refine AC.ofW (lv := [some (.ref 34), some (.int v1), some (.long v2), none, some (.int v4), none, none, none, none, none, none]) pn_X7 (Nat.le_of_ble_eq_true rfl) (show lvLe _ [some (.ref 34), some (.int v1), some (.long v2), none, some (.int v4)] from (lvs (lvs (lvs (lvn (lvs (lve (lve (lve (lve (lve (lve lvz)))))))))))) ?_
  intro p l e s m args below meth c G hc
  refine hb_iconst (q := 1) (v := 0) hc dd_X7_takeBeat_0 rfl ic_0 ?_
  refine hb_istore (q := 3) (lv' := [some (.ref 34), some (.int v1), some (.long v2), none, some (.int v4), some (.int 0), none, none, none, none, none]) hc dd_X7_takeBeat_1 rfl (Nat.le_of_ble_eq_true rfl) rfl ?_
  exact hb_weak (lvs (lvs (lvs (lvn (lvs (lvs (lvn (lvn (lvn (lvn (lvn lvz))))))))))) (h p l e s m args below meth c G hc)
theorem w_X7_strikeOrForgive {d : Nat} {M : Mm} {v1 : Int64} {v3 : Int32} {K : Mm → Prop}  (h : ((M.1 34 1) = 0 → (K (wL M 34 2 ((M.2 34 2) ^^^ v1)))) ∧ (¬ (M.1 34 1) = 0 → ((v3 = 0 → (K (wL M 34 2 ((M.2 34 2) ^^^ v1)))) ∧ (¬ v3 = 0 → ((¬ (lg_cmp ((M.2 34 3) &&& v1) 0) = 0 → (K (wL M 34 2 ((M.2 34 2) ^^^ v1)))) ∧ ((lg_cmp ((M.2 34 3) &&& v1) 0) = 0 → (K (wL M 34 3 ((M.2 34 3) ||| v1))))))))) : ACv (d + 1) X7_strikeOrForgive [.ref 34, .long v1, .int v3] M K := by
  refine AC.ofW (lv := [some (.ref 34), some (.long v1), none, some (.int v3)]) pn_X7 (Nat.le_of_ble_eq_true rfl) (show lvLe _ [some (.ref 34), some (.long v1), none, some (.int v3)] from (lvs (lvs (lvn (lvs lvz))))) ?_
  intro p l e s m args below meth c G hc
  refine hb_aload_n (q := 1) hc dd_X7_strikeOrForgive_0 rfl rfl ?_
  refine hb_getI (q := 4) (v := M.1 34 1) hc fl_X7_15 sh34 sl34 rfl rfl dd_X7_strikeOrForgive_1 rfl ?_
  refine hb_if_eq (q := 7) (tg := 35) hc dd_X7_strikeOrForgive_4 rfl (by decide) (fun z => ?_) (fun z => ?_)
  · replace h := h.1 z
    refine hb_aload_n (q := 36) hc dd_X7_strikeOrForgive_35 rfl rfl ?_
    refine hb_dup (q := 37) hc dd_X7_strikeOrForgive_36 rfl rfl ?_
    refine hb_getL (q := 40) (v := M.2 34 2) hc fl_X7_18 sh34 sl34 rfl rfl dd_X7_strikeOrForgive_37 rfl ?_
    refine hb_lload_n (q := 41) hc dd_X7_strikeOrForgive_40 rfl rfl ?_
    refine hb_lxor (q := 42) hc dd_X7_strikeOrForgive_41 rfl ?_
    refine hb_putL (q := 45) hc fl_X7_18 sh34 sl34 rfl dd_X7_strikeOrForgive_42 rfl ?_
    exact hb_vret hc rfl dd_X7_strikeOrForgive_45 h
  · replace h := h.2 z
    refine hb_iload_n (q := 8) hc dd_X7_strikeOrForgive_7 rfl rfl ?_
    refine hb_if_eq (q := 11) (tg := 35) hc dd_X7_strikeOrForgive_8 rfl (by decide) (fun z => ?_) (fun z => ?_)
    · replace h := h.1 z
      refine hb_aload_n (q := 36) hc dd_X7_strikeOrForgive_35 rfl rfl ?_
      refine hb_dup (q := 37) hc dd_X7_strikeOrForgive_36 rfl rfl ?_
      refine hb_getL (q := 40) (v := M.2 34 2) hc fl_X7_18 sh34 sl34 rfl rfl dd_X7_strikeOrForgive_37 rfl ?_
      refine hb_lload_n (q := 41) hc dd_X7_strikeOrForgive_40 rfl rfl ?_
      refine hb_lxor (q := 42) hc dd_X7_strikeOrForgive_41 rfl ?_
      refine hb_putL (q := 45) hc fl_X7_18 sh34 sl34 rfl dd_X7_strikeOrForgive_42 rfl ?_
      exact hb_vret hc rfl dd_X7_strikeOrForgive_45 h
    · replace h := h.2 z
      refine hb_aload_n (q := 12) hc dd_X7_strikeOrForgive_11 rfl rfl ?_
      refine hb_getL (q := 15) (v := M.2 34 3) hc fl_X7_22 sh34 sl34 rfl rfl dd_X7_strikeOrForgive_12 rfl ?_
      refine hb_lload_n (q := 16) hc dd_X7_strikeOrForgive_15 rfl rfl ?_
      refine hb_land (q := 17) hc dd_X7_strikeOrForgive_16 rfl ?_
      refine hb_lconst (q := 18) (v := 0) hc dd_X7_strikeOrForgive_17 rfl lc_0 ?_
      refine hb_lcmp (q := 19) hc dd_X7_strikeOrForgive_18 rfl ?_
      refine hb_if_ne (q := 22) (tg := 35) hc dd_X7_strikeOrForgive_19 rfl (by decide) (fun z => ?_) (fun z => ?_)
      · replace h := h.1 z
        refine hb_aload_n (q := 36) hc dd_X7_strikeOrForgive_35 rfl rfl ?_
        refine hb_dup (q := 37) hc dd_X7_strikeOrForgive_36 rfl rfl ?_
        refine hb_getL (q := 40) (v := M.2 34 2) hc fl_X7_18 sh34 sl34 rfl rfl dd_X7_strikeOrForgive_37 rfl ?_
        refine hb_lload_n (q := 41) hc dd_X7_strikeOrForgive_40 rfl rfl ?_
        refine hb_lxor (q := 42) hc dd_X7_strikeOrForgive_41 rfl ?_
        refine hb_putL (q := 45) hc fl_X7_18 sh34 sl34 rfl dd_X7_strikeOrForgive_42 rfl ?_
        exact hb_vret hc rfl dd_X7_strikeOrForgive_45 h
      · replace h := h.2 z
        refine hb_aload_n (q := 23) hc dd_X7_strikeOrForgive_22 rfl rfl ?_
        refine hb_dup (q := 24) hc dd_X7_strikeOrForgive_23 rfl rfl ?_
        refine hb_getL (q := 27) (v := M.2 34 3) hc fl_X7_22 sh34 sl34 rfl rfl dd_X7_strikeOrForgive_24 rfl ?_
        refine hb_lload_n (q := 28) hc dd_X7_strikeOrForgive_27 rfl rfl ?_
        refine hb_lor (q := 29) hc dd_X7_strikeOrForgive_28 rfl ?_
        refine hb_putL (q := 32) hc fl_X7_22 sh34 sl34 rfl dd_X7_strikeOrForgive_29 rfl ?_
        refine hb_goto (tg := 45) hc dd_X7_strikeOrForgive_32 (by decide) ?_
        exact hb_vret hc rfl dd_X7_strikeOrForgive_45 h
theorem w_X7_shiftNow {d : Nat} {M : Mm} {v1 : Int32} {v2 : Int32} {K : Int32 → Mm → Prop}  (h : (v2 ≤ ((v1 - v1 / 8 * 8) + (M.1 34 4)) → (K (((v1 - v1 / 8 * 8) + (M.1 34 4)) - v2) M)) ∧ (¬ v2 ≤ ((v1 - v1 / 8 * 8) + (M.1 34 4)) → (K ((v1 - v1 / 8 * 8) + (M.1 34 4)) M))) : ACi (d + 1) X7_shiftNow [.ref 34, .int v1, .int v2] M K := by
  refine AC.ofW (lv := [some (.ref 34), some (.int v1), some (.int v2), none]) pn_X7 (Nat.le_of_ble_eq_true rfl) (show lvLe _ [some (.ref 34), some (.int v1), some (.int v2)] from (lvs (lvs (lvs (lve lvz))))) ?_
  intro p l e s m args below meth c G hc
  refine hb_iload_n (q := 1) hc dd_X7_shiftNow_0 rfl rfl ?_
  refine hb_bipush (q := 3) (v := 8) hc dd_X7_shiftNow_1 rfl bp_8 ?_
  refine hb_irem (q := 4) hc dd_X7_shiftNow_3 rfl (by decide) ?_
  refine hb_aload_n (q := 5) hc dd_X7_shiftNow_4 rfl rfl ?_
  refine hb_getI (q := 8) (v := M.1 34 4) hc fl_X7_25 sh34 sl34 rfl rfl dd_X7_shiftNow_5 rfl ?_
  refine hb_iadd (q := 9) hc dd_X7_shiftNow_8 rfl ?_
  refine hb_istore_n (q := 10) (lv' := [some (.ref 34), some (.int v1), some (.int v2), some (.int ((v1 - v1 / 8 * 8) + (M.1 34 4)))]) hc dd_X7_shiftNow_9 rfl (Nat.le_of_ble_eq_true rfl) rfl ?_
  refine hb_iload_n (q := 11) hc dd_X7_shiftNow_10 rfl rfl ?_
  refine hb_iload_n (q := 12) hc dd_X7_shiftNow_11 rfl rfl ?_
  refine hb_icmp_ge (q := 15) (tg := 19) hc dd_X7_shiftNow_12 rfl (by decide) (fun z => ?_) (fun z => ?_)
  · replace h := h.1 z
    refine hb_iload_n (q := 20) hc dd_X7_shiftNow_19 rfl rfl ?_
    refine hb_iload_n (q := 21) hc dd_X7_shiftNow_20 rfl rfl ?_
    refine hb_isub (q := 22) hc dd_X7_shiftNow_21 rfl ?_
    exact hb_iret hc rfl dd_X7_shiftNow_22 h
  · replace h := h.2 z
    refine hb_iload_n (q := 16) hc dd_X7_shiftNow_15 rfl rfl ?_
    refine hb_goto (tg := 22) hc dd_X7_shiftNow_16 (by decide) ?_
    exact hb_iret hc rfl dd_X7_shiftNow_22 h
def lp_X7_pairAt_5 (d : Nat) (M : Mm) (v2 : Int32) (v3 : Int32) (v4 : Int32) (K : Int32 → Mm → Prop) : Prop := AW (d + 1) X7_pairAt M 5 [some (.ref 34), none, some (.int v2), some (.int v3), some (.int v4)] [] (QI K)
theorem z_X7_pairAt_5 {d : Nat} {M : Mm} {v2 : Int32} {v3 : Int32} {v4 : Int32} {K : Int32 → Mm → Prop}  (h : (48 ≤ v4 → (K (-1) M)) ∧ (¬ 48 ≤ v4 → ((¬ (lg_cmp (((M.2 34 2) >>> (v4.toInt64 &&& 63)) &&& 1) 1) = 0 → (lp_X7_pairAt_5 d M v2 v3 (v4 + 1) K)) ∧ ((lg_cmp (((M.2 34 2) >>> (v4.toInt64 &&& 63)) &&& 1) 1) = 0 → ((¬ v3 = 0 → (lp_X7_pairAt_5 d M v2 (v3 + (-1)) (v4 + 1) K)) ∧ (v3 = 0 → (ACi d X7_shiftNow [.ref 34, .int v4, .int v2] M (fun r1 M1 => K (((v4 / 8) * 10) + r1) M1)))))))) : lp_X7_pairAt_5 d M v2 v3 v4 K := by
  intro p l e s m args below meth c G hc
  refine hb_iload (q := 7) hc dd_X7_pairAt_5 rfl rfl ?_
  refine hb_bipush (q := 9) (v := 48) hc dd_X7_pairAt_7 rfl bp_48 ?_
  refine hb_icmp_ge (q := 12) (tg := 56) hc dd_X7_pairAt_9 rfl (by decide) (fun z => ?_) (fun z => ?_)
  · replace h := h.1 z
    refine hb_iconst (q := 57) (v := (-1)) hc dd_X7_pairAt_56 rfl ic_m1 ?_
    exact hb_iret hc rfl dd_X7_pairAt_57 h
  · replace h := h.2 z
    refine hb_aload_n (q := 13) hc dd_X7_pairAt_12 rfl rfl ?_
    refine hb_getL (q := 16) (v := M.2 34 2) hc fl_X7_18 sh34 sl34 rfl rfl dd_X7_pairAt_13 rfl ?_
    refine hb_iload (q := 18) hc dd_X7_pairAt_16 rfl rfl ?_
    refine hb_lshr (q := 19) hc dd_X7_pairAt_18 rfl ?_
    refine hb_lconst (q := 20) (v := 1) hc dd_X7_pairAt_19 rfl lc_1 ?_
    refine hb_land (q := 21) hc dd_X7_pairAt_20 rfl ?_
    refine hb_lconst (q := 22) (v := 1) hc dd_X7_pairAt_21 rfl lc_1 ?_
    refine hb_lcmp (q := 23) hc dd_X7_pairAt_22 rfl ?_
    refine hb_if_ne (q := 26) (tg := 50) hc dd_X7_pairAt_23 rfl (by decide) (fun z => ?_) (fun z => ?_)
    · replace h := h.1 z
      refine hb_iinc (q := 53) (v := v4 + 1) (lv' := [some (.ref 34), none, some (.int v2), some (.int v3), some (.int (v4 + 1))]) hc dd_X7_pairAt_50 rfl rfl rfl (Nat.le_of_ble_eq_true rfl) rfl ?_
      refine hb_goto (tg := 5) hc dd_X7_pairAt_53 (by decide) ?_
      exact hb_weak (lvs (lvn (lvs (lvs (lvs lvz))))) (h p l e s m args below meth c G hc)
    · replace h := h.2 z
      refine hb_iload_n (q := 27) hc dd_X7_pairAt_26 rfl rfl ?_
      refine hb_if_ne (q := 30) (tg := 47) hc dd_X7_pairAt_27 rfl (by decide) (fun z => ?_) (fun z => ?_)
      · replace h := h.1 z
        refine hb_iinc (q := 50) (v := v3 + (-1)) (lv' := [some (.ref 34), none, some (.int v2), some (.int (v3 + (-1))), some (.int v4)]) hc dd_X7_pairAt_47 rfl rfl rfl (Nat.le_of_ble_eq_true rfl) rfl ?_
        refine hb_iinc (q := 53) (v := v4 + 1) (lv' := [some (.ref 34), none, some (.int v2), some (.int (v3 + (-1))), some (.int (v4 + 1))]) hc dd_X7_pairAt_50 rfl rfl rfl (Nat.le_of_ble_eq_true rfl) rfl ?_
        refine hb_goto (tg := 5) hc dd_X7_pairAt_53 (by decide) ?_
        exact hb_weak (lvs (lvn (lvs (lvs (lvs lvz))))) (h p l e s m args below meth c G hc)
      · replace h := h.2 z
        refine hb_iload (q := 32) hc dd_X7_pairAt_30 rfl rfl ?_
        refine hb_bipush (q := 34) (v := 8) hc dd_X7_pairAt_32 rfl bp_8 ?_
        refine hb_idiv (q := 35) hc dd_X7_pairAt_34 rfl (by decide) ?_
        refine hb_bipush (q := 37) (v := 10) hc dd_X7_pairAt_35 rfl bp_10 ?_
        refine hb_imul (q := 38) hc dd_X7_pairAt_37 rfl ?_
        refine hb_aload_n (q := 39) hc dd_X7_pairAt_38 rfl rfl ?_
        refine hb_iload (q := 41) hc dd_X7_pairAt_39 rfl rfl ?_
        refine hb_iload_n (q := 42) hc dd_X7_pairAt_41 rfl rfl ?_
        refine hb_callVi (q := 45) (vs := [.int v4, .int v2]) (st := [.int ((v4 / 8) * 10)]) hc mv_X7_38 h sh34 sl34 rfl rfl rfl (Nat.le_of_ble_eq_true rfl) ⟨Nat.le_refl _, Nat.le_refl _⟩ ⟨Nat.le_refl _, Nat.le_refl _⟩ dd_X7_pairAt_42 rfl (fun r1 M1 h => ?_)
        refine hb_iadd (q := 46) hc dd_X7_pairAt_45 rfl ?_
        exact hb_iret hc rfl dd_X7_pairAt_46 h
theorem w_X7_pairAt {d : Nat} {M : Mm} {v1 : Int32} {v2 : Int32} {K : Int32 → Mm → Prop}  (h : lp_X7_pairAt_5 d M v2 v1 0 K) : ACi (d + 1) X7_pairAt [.ref 34, .int v1, .int v2] M K := by
  refine AC.ofW (lv := [some (.ref 34), some (.int v1), some (.int v2), none, none]) pn_X7 (Nat.le_of_ble_eq_true rfl) (show lvLe _ [some (.ref 34), some (.int v1), some (.int v2)] from (lvs (lvs (lvs (lve (lve lvz)))))) ?_
  intro p l e s m args below meth c G hc
  refine hb_iload_n (q := 1) hc dd_X7_pairAt_0 rfl rfl ?_
  refine hb_istore_n (q := 2) (lv' := [some (.ref 34), some (.int v1), some (.int v2), some (.int v1), none]) hc dd_X7_pairAt_1 rfl (Nat.le_of_ble_eq_true rfl) rfl ?_
  refine hb_iconst (q := 3) (v := 0) hc dd_X7_pairAt_2 rfl ic_0 ?_
  refine hb_istore (q := 5) (lv' := [some (.ref 34), some (.int v1), some (.int v2), some (.int v1), some (.int 0)]) hc dd_X7_pairAt_3 rfl (Nat.le_of_ble_eq_true rfl) rfl ?_
  exact hb_weak (lvs (lvn (lvs (lvs (lvs lvz))))) (h p l e s m args below meth c G hc)
