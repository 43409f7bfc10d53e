/-! WALKS, by program (wip/whole/gen6.py). -/
def lp_X3_prepare_35 (d : Nat) (M : Mm) (v4 : Int32) (K : Mm → Prop) : Prop := AW (d + 1) X3_prepare M 35 [some (.ref 31), none, none, none, some (.int v4)] [] (QV K)
theorem z_X3_prepare_35 {d : Nat} {M : Mm} {v4 : Int32} {K : Mm → Prop}  (h : (6 ≤ v4 → ((¬ (lg_cmp (M.2 31 4) 0) = 0 → (K (wI (wL M 32 0 (M.2 31 4)) 31 2 1))) ∧ ((lg_cmp (M.2 31 4) 0) = 0 → (K (wI (wL M 32 0 (M.2 31 4)) 31 2 0))))) ∧ (¬ 6 ≤ v4 → (lp_X3_prepare_35 d (wL M 31 6 ((M.2 31 6) ||| ((1 : Int64) <<< ((((v4 * 8) + (M.1 31 3)) - 1).toInt64 &&& 63)))) (v4 + 1) K))) : lp_X3_prepare_35 d M v4 K := by
  intro p l e s m args below meth c G hc
  refine hb_iload (q := 37) hc dd_X3_prepare_35 rfl rfl ?_
  refine hb_bipush (q := 39) (v := 6) hc dd_X3_prepare_37 rfl bp_6 ?_
  refine hb_icmp_ge (q := 42) (tg := 71) hc dd_X3_prepare_39 rfl (by decide) (fun z => ?_) (fun z => ?_)
  · replace h := h.1 z
    refine hb_aload_n (q := 72) hc dd_X3_prepare_71 rfl rfl ?_
    refine hb_getR (q := 75) hc fl_X3_11 sh31 sl31 rfl dd_X3_prepare_72 rfl ?_
    refine hb_iconst (q := 76) (v := 0) hc dd_X3_prepare_75 rfl ic_0 ?_
    refine hb_aload_n (q := 77) hc dd_X3_prepare_76 rfl rfl ?_
    refine hb_getL (q := 80) (v := M.2 31 4) hc fl_X3_31 sh31 sl31 rfl rfl dd_X3_prepare_77 rfl ?_
    refine hb_last (q := 81) (k := 0) hc sh32 sl32 vl_0_256 cl_0 dd_X3_prepare_80 rfl ?_
    refine hb_aload_n (q := 82) hc dd_X3_prepare_81 rfl rfl ?_
    refine hb_aload_n (q := 83) hc dd_X3_prepare_82 rfl rfl ?_
    refine hb_getL (q := 86) (v := M.2 31 4) hc fl_X3_31 sh31 sl31 rfl rfl dd_X3_prepare_83 rfl ?_
    refine hb_lconst (q := 87) (v := 0) hc dd_X3_prepare_86 rfl lc_0 ?_
    refine hb_lcmp (q := 88) hc dd_X3_prepare_87 rfl ?_
    refine hb_if_ne (q := 91) (tg := 95) hc dd_X3_prepare_88 rfl (by decide) (fun z => ?_) (fun z => ?_)
    · replace h := h.1 z
      refine hb_iconst (q := 96) (v := 1) hc dd_X3_prepare_95 rfl ic_1 ?_
      refine hb_putI (q := 99) hc fl_X3_45 sh31 sl31 rfl dd_X3_prepare_96 rfl ?_
      exact hb_vret hc rfl dd_X3_prepare_99 h
    · replace h := h.2 z
      refine hb_iconst (q := 92) (v := 0) hc dd_X3_prepare_91 rfl ic_0 ?_
      refine hb_goto (tg := 96) hc dd_X3_prepare_92 (by decide) ?_
      refine hb_putI (q := 99) hc fl_X3_45 sh31 sl31 rfl dd_X3_prepare_96 rfl ?_
      exact hb_vret hc rfl dd_X3_prepare_99 h
  · replace h := h.2 z
    refine hb_aload_n (q := 43) hc dd_X3_prepare_42 rfl rfl ?_
    refine hb_dup (q := 44) hc dd_X3_prepare_43 rfl rfl ?_
    refine hb_getL (q := 47) (v := M.2 31 6) hc fl_X3_42 sh31 sl31 rfl rfl dd_X3_prepare_44 rfl ?_
    refine hb_lconst (q := 48) (v := 1) hc dd_X3_prepare_47 rfl lc_1 ?_
    refine hb_iload (q := 50) hc dd_X3_prepare_48 rfl rfl ?_
    refine hb_bipush (q := 52) (v := 8) hc dd_X3_prepare_50 rfl bp_8 ?_
    refine hb_imul (q := 53) hc dd_X3_prepare_52 rfl ?_
    refine hb_aload_n (q := 54) hc dd_X3_prepare_53 rfl rfl ?_
    refine hb_getI (q := 57) (v := M.1 31 3) hc fl_X3_24 sh31 sl31 rfl rfl dd_X3_prepare_54 rfl ?_
    refine hb_iadd (q := 58) hc dd_X3_prepare_57 rfl ?_
    refine hb_iconst (q := 59) (v := 1) hc dd_X3_prepare_58 rfl ic_1 ?_
    refine hb_isub (q := 60) hc dd_X3_prepare_59 rfl ?_
    refine hb_lshl (q := 61) hc dd_X3_prepare_60 rfl ?_
    refine hb_lor (q := 62) hc dd_X3_prepare_61 rfl ?_
    refine hb_putL (q := 65) hc fl_X3_42 sh31 sl31 rfl dd_X3_prepare_62 rfl ?_
    refine hb_iinc (q := 68) (v := v4 + 1) (lv' := [some (.ref 31), none, none, none, some (.int (v4 + 1))]) hc dd_X3_prepare_65 rfl rfl rfl (Nat.le_of_ble_eq_true rfl) rfl ?_
    refine hb_goto (tg := 35) hc dd_X3_prepare_68 (by decide) ?_
    exact hb_weak (lvs (lvn (lvn (lvn (lvs lvz))))) (h p l e s m args below meth c G hc)
theorem w_X3_prepare {d : Nat} {M : Mm} {v3 : Int32} {K : Mm → Prop}  (h : ACl d X2_pairsSeenFrom [.ref 13, .int v3, .ref 3] (wI M 31 3 (M.1 3 0)) (fun r1 M1 => ACl d X2_pairsThatFlash [.ref 13, .ref 3] (wL M1 31 4 r1) (fun r2 M2 => lp_X3_prepare_35 d (wL (wL M2 31 5 r2) 31 6 0) 0 K))) : ACv (d + 1) X3_prepare [.ref 31, .ref 3, .ref 13, .int v3] M K := by
  refine AC.ofW (lv := [some (.ref 31), some (.ref 3), some (.ref 13), some (.int v3), none]) pn_X3 (Nat.le_of_ble_eq_true rfl) (show lvLe _ [some (.ref 31), some (.ref 3), some (.ref 13), some (.int v3)] from (lvs (lvs (lvs (lvs (lve lvz)))))) ?_
  intro p l e s m args below meth c G hc
  refine hb_aload_n (q := 1) hc dd_X3_prepare_0 rfl rfl ?_
  refine hb_aload_n (q := 2) hc dd_X3_prepare_1 rfl rfl ?_
  refine hb_getI (q := 5) (v := M.1 3 0) hc fl_X3_18 sh3 sl3 rfl rfl dd_X3_prepare_2 rfl ?_
  refine hb_putI (q := 8) hc fl_X3_24 sh31 sl31 rfl dd_X3_prepare_5 rfl ?_
  refine hb_aload_n (q := 9) hc dd_X3_prepare_8 rfl rfl ?_
  refine hb_aload_n (q := 10) hc dd_X3_prepare_9 rfl rfl ?_
  refine hb_iload_n (q := 11) hc dd_X3_prepare_10 rfl rfl ?_
  refine hb_aload_n (q := 12) hc dd_X3_prepare_11 rfl rfl ?_
  refine hb_callVl (q := 15) (vs := [.int v3, .ref 3]) (st := [.ref 31]) hc mv_X3_25 h sh13 sl13 rfl rfl rfl (Nat.le_of_ble_eq_true rfl) ⟨Nat.le_refl _, Nat.le_refl _⟩ ⟨Nat.le_refl _, Nat.le_refl _⟩ dd_X3_prepare_12 rfl (fun r1 M1 h => ?_)
  refine hb_putL (q := 18) hc fl_X3_31 sh31 sl31 rfl dd_X3_prepare_15 rfl ?_
  refine hb_aload_n (q := 19) hc dd_X3_prepare_18 rfl rfl ?_
  refine hb_aload_n (q := 20) hc dd_X3_prepare_19 rfl rfl ?_
  refine hb_aload_n (q := 21) hc dd_X3_prepare_20 rfl rfl ?_
  refine hb_callVl (q := 24) (vs := [.ref 3]) (st := [.ref 31]) hc mv_X3_35 h sh13 sl13 rfl rfl rfl (Nat.le_of_ble_eq_true rfl) ⟨Nat.le_refl _, Nat.le_refl _⟩ ⟨Nat.le_refl _, Nat.le_refl _⟩ dd_X3_prepare_21 rfl (fun r2 M2 h => ?_)
  refine hb_putL (q := 27) hc fl_X3_39 sh31 sl31 rfl dd_X3_prepare_24 rfl ?_
  refine hb_aload_n (q := 28) hc dd_X3_prepare_27 rfl rfl ?_
  refine hb_lconst (q := 29) (v := 0) hc dd_X3_prepare_28 rfl lc_0 ?_
  refine hb_putL (q := 32) hc fl_X3_42 sh31 sl31 rfl dd_X3_prepare_29 rfl ?_
  refine hb_iconst (q := 33) (v := 0) hc dd_X3_prepare_32 rfl ic_0 ?_
  refine hb_istore (q := 35) (lv' := [some (.ref 31), some (.ref 3), some (.ref 13), some (.int v3), some (.int 0)]) hc dd_X3_prepare_33 rfl (Nat.le_of_ble_eq_true rfl) rfl ?_
  exact hb_weak (lvs (lvn (lvn (lvn (lvs lvz))))) (h p l e s m args below meth c G hc)
def lp_X3_states_2 (d : Nat) (M : Mm) (v1 : Int32) (K : Int32 → Mm → Prop) : Prop := AW (d + 1) X3_states M 2 [some (.ref 31), some (.int v1)] [] (QI K)
theorem z_X3_states_2 {d : Nat} {M : Mm} {v1 : Int32} {K : Int32 → Mm → Prop}  (h : ((M.1 31 2) ≤ v1 → (K (M.1 31 2) M)) ∧ (¬ (M.1 31 2) ≤ v1 → ((256 ≤ v1 → (K (M.1 31 2) M)) ∧ (¬ 256 ≤ v1 → (vp_in v1 256 ∧ (ACl d X3_behind [.ref 31, .long (M.2 32 v1.toNatClampNeg), .int 0] M (fun r1 M1 => ACv d X3_addIfNew [.ref 31, .long r1] M1 (fun M2 => vp_in v1 256 ∧ (ACl d X3_behind [.ref 31, .long (M2.2 32 v1.toNatClampNeg), .int 1] M2 (fun r3 M3 => ACv d X3_addIfNew [.ref 31, .long r3] M3 (fun M4 => lp_X3_states_2 d M4 (v1 + 1) K))))))))))) : lp_X3_states_2 d M v1 K := by
  intro p l e s m args below meth c G hc
  refine hb_iload_n (q := 3) hc dd_X3_states_2 rfl rfl ?_
  refine hb_aload_n (q := 4) hc dd_X3_states_3 rfl rfl ?_
  refine hb_getI (q := 7) (v := M.1 31 2) hc fl_X3_45 sh31 sl31 rfl rfl dd_X3_states_4 rfl ?_
  refine hb_icmp_ge (q := 10) (tg := 53) hc dd_X3_states_7 rfl (by decide) (fun z => ?_) (fun z => ?_)
  · replace h := h.1 z
    refine hb_aload_n (q := 54) hc dd_X3_states_53 rfl rfl ?_
    refine hb_getI (q := 57) (v := M.1 31 2) hc fl_X3_45 sh31 sl31 rfl rfl dd_X3_states_54 rfl ?_
    exact hb_iret hc rfl dd_X3_states_57 h
  · replace h := h.2 z
    refine hb_iload_n (q := 11) hc dd_X3_states_10 rfl rfl ?_
    refine hb_sipush (q := 14) (v := 256) hc dd_X3_states_11 rfl sp_256 ?_
    refine hb_icmp_ge (q := 17) (tg := 53) hc dd_X3_states_14 rfl (by decide) (fun z => ?_) (fun z => ?_)
    · replace h := h.1 z
      refine hb_aload_n (q := 54) hc dd_X3_states_53 rfl rfl ?_
      refine hb_getI (q := 57) (v := M.1 31 2) hc fl_X3_45 sh31 sl31 rfl rfl dd_X3_states_54 rfl ?_
      exact hb_iret hc rfl dd_X3_states_57 h
    · replace h := h.2 z
      refine hb_aload_n (q := 18) hc dd_X3_states_17 rfl rfl ?_
      refine hb_aload_n (q := 19) hc dd_X3_states_18 rfl rfl ?_
      refine hb_aload_n (q := 20) hc dd_X3_states_19 rfl rfl ?_
      refine hb_getR (q := 23) hc fl_X3_11 sh31 sl31 rfl dd_X3_states_20 rfl ?_
      refine hb_iload_n (q := 24) hc dd_X3_states_23 rfl rfl ?_
      obtain ⟨hi, h⟩ := h
      refine hb_lald (q := 25) (v := M.2 32 v1.toNatClampNeg) hc sh32 sl32 hi rfl rfl dd_X3_states_24 rfl ?_
      refine hb_iconst (q := 26) (v := 0) hc dd_X3_states_25 rfl ic_0 ?_
      refine hb_callVl (q := 29) (vs := [.long (M.2 32 v1.toNatClampNeg), .int 0]) (st := [.ref 31]) hc mv_X3_48 h sh31 sl31 rfl rfl rfl (Nat.le_of_ble_eq_true rfl) ⟨Nat.le_refl _, Nat.le_refl _⟩ ⟨Nat.le_refl _, Nat.le_refl _⟩ dd_X3_states_26 rfl (fun r1 M1 h => ?_)
      refine hb_callVv (q := 32) (vs := [.long r1]) (st := []) hc mv_X3_52 h sh31 sl31 rfl rfl rfl (Nat.le_of_ble_eq_true rfl) ⟨Nat.le_refl _, Nat.le_refl _⟩ ⟨Nat.le_refl _, Nat.le_refl _⟩ dd_X3_states_29 rfl (fun M2 h => ?_)
      refine hb_aload_n (q := 33) hc dd_X3_states_32 rfl rfl ?_
      refine hb_aload_n (q := 34) hc dd_X3_states_33 rfl rfl ?_
      refine hb_aload_n (q := 35) hc dd_X3_states_34 rfl rfl ?_
      refine hb_getR (q := 38) hc fl_X3_11 sh31 sl31 rfl dd_X3_states_35 rfl ?_
      refine hb_iload_n (q := 39) hc dd_X3_states_38 rfl rfl ?_
      obtain ⟨hi, h⟩ := h
      refine hb_lald (q := 40) (v := M2.2 32 v1.toNatClampNeg) hc sh32 sl32 hi rfl rfl dd_X3_states_39 rfl ?_
      refine hb_iconst (q := 41) (v := 1) hc dd_X3_states_40 rfl ic_1 ?_
      refine hb_callVl (q := 44) (vs := [.long (M2.2 32 v1.toNatClampNeg), .int 1]) (st := [.ref 31]) hc mv_X3_48 h sh31 sl31 rfl rfl rfl (Nat.le_of_ble_eq_true rfl) ⟨Nat.le_refl _, Nat.le_refl _⟩ ⟨Nat.le_refl _, Nat.le_refl _⟩ dd_X3_states_41 rfl (fun r3 M3 h => ?_)
      refine hb_callVv (q := 47) (vs := [.long r3]) (st := []) hc mv_X3_52 h sh31 sl31 rfl rfl rfl (Nat.le_of_ble_eq_true rfl) ⟨Nat.le_refl _, Nat.le_refl _⟩ ⟨Nat.le_refl _, Nat.le_refl _⟩ dd_X3_states_44 rfl (fun M4 h => ?_)
      refine hb_iinc (q := 50) (v := v1 + 1) (lv' := [some (.ref 31), some (.int (v1 + 1))]) hc dd_X3_states_47 rfl rfl rfl (Nat.le_of_ble_eq_true rfl) rfl ?_
      refine hb_goto (tg := 2) hc dd_X3_states_50 (by decide) ?_
      exact hb_weak (lvs (lvs lvz)) (h p l e s m args below meth c G hc)
theorem w_X3_states {d : Nat} {M : Mm}  {K : Int32 → Mm → Prop}  (h : lp_X3_states_2 d M 0 K) : ACi (d + 1) X3_states [.ref 31] M K := by
  refine AC.ofW (lv := [some (.ref 31), none]) pn_X3 (Nat.le_of_ble_eq_true rfl) (show lvLe _ [some (.ref 31)] from (lvs (lve lvz))) ?_
  intro p l e s m args below meth c G hc
  refine hb_iconst (q := 1) (v := 0) hc dd_X3_states_0 rfl ic_0 ?_
  refine hb_istore_n (q := 2) (lv' := [some (.ref 31), some (.int 0)]) hc dd_X3_states_1 rfl (Nat.le_of_ble_eq_true rfl) rfl ?_
  exact hb_weak (lvs (lvs lvz)) (h p l e s m args below meth c G hc)
def lp_X3_named_2 (d : Nat) (M : Mm) (v1 : Int32) (K : Int32 → Mm → Prop) : Prop := AW (d + 1) X3_named M 2 [some (.ref 31), some (.int v1)] [] (QI K)
theorem z_X3_named_2 {d : Nat} {M : Mm} {v1 : Int32} {K : Int32 → Mm → Prop}  (h : ((M.1 31 2) ≤ 0 → (K (-1) M)) ∧ (¬ (M.1 31 2) ≤ 0 → ((40 < v1 → (K (-1) M)) ∧ (¬ 40 < v1 → (ACi d X3_allNameOneLight [.ref 31] M (fun r1 M1 => (r1 = 0 → (ACv d X3_takeAnyBeat [.ref 31] M1 (fun M2 => lp_X3_named_2 d M2 (v1 + 1) K))) ∧ (¬ r1 = 0 → (K v1 M1)))))))) : lp_X3_named_2 d M v1 K := by
  intro p l e s m args below meth c G hc
  refine hb_aload_n (q := 3) hc dd_X3_named_2 rfl rfl ?_
  refine hb_getI (q := 6) (v := M.1 31 2) hc fl_X3_45 sh31 sl31 rfl rfl dd_X3_named_3 rfl ?_
  refine hb_if_le (q := 9) (tg := 34) hc dd_X3_named_6 rfl (by decide) (fun z => ?_) (fun z => ?_)
  · replace h := h.1 z
    refine hb_iconst (q := 35) (v := (-1)) hc dd_X3_named_34 rfl ic_m1 ?_
    exact hb_iret hc rfl dd_X3_named_35 h
  · replace h := h.2 z
    refine hb_iload_n (q := 10) hc dd_X3_named_9 rfl rfl ?_
    refine hb_bipush (q := 12) (v := 40) hc dd_X3_named_10 rfl bp_40 ?_
    refine hb_icmp_gt (q := 15) (tg := 34) hc dd_X3_named_12 rfl (by decide) (fun z => ?_) (fun z => ?_)
    · replace h := h.1 z
      refine hb_iconst (q := 35) (v := (-1)) hc dd_X3_named_34 rfl ic_m1 ?_
      exact hb_iret hc rfl dd_X3_named_35 h
    · replace h := h.2 z
      refine hb_aload_n (q := 16) hc dd_X3_named_15 rfl rfl ?_
      refine hb_callVi (q := 19) (vs := []) (st := []) hc mv_X3_56 h sh31 sl31 rfl rfl rfl (Nat.le_of_ble_eq_true rfl) ⟨Nat.le_refl _, Nat.le_refl _⟩ ⟨Nat.le_refl _, Nat.le_refl _⟩ dd_X3_named_16 rfl (fun r1 M1 h => ?_)
      refine hb_if_eq (q := 22) (tg := 24) hc dd_X3_named_19 rfl (by decide) (fun z => ?_) (fun z => ?_)
      · replace h := h.1 z
        refine hb_aload_n (q := 25) hc dd_X3_named_24 rfl rfl ?_
        refine hb_callVv (q := 28) (vs := []) (st := []) hc mv_X3_60 h sh31 sl31 rfl rfl rfl (Nat.le_of_ble_eq_true rfl) ⟨Nat.le_refl _, Nat.le_refl _⟩ ⟨Nat.le_refl _, Nat.le_refl _⟩ dd_X3_named_25 rfl (fun M2 h => ?_)
        refine hb_iinc (q := 31) (v := v1 + 1) (lv' := [some (.ref 31), some (.int (v1 + 1))]) hc dd_X3_named_28 rfl rfl rfl (Nat.le_of_ble_eq_true rfl) rfl ?_
        refine hb_goto (tg := 2) hc dd_X3_named_31 (by decide) ?_
        exact hb_weak (lvs (lvs lvz)) (h p l e s m args below meth c G hc)
      · replace h := h.2 z
        refine hb_iload_n (q := 23) hc dd_X3_named_22 rfl rfl ?_
        exact hb_iret hc rfl dd_X3_named_23 h
theorem w_X3_named {d : Nat} {M : Mm}  {K : Int32 → Mm → Prop}  (h : lp_X3_named_2 d M 0 K) : ACi (d + 1) X3_named [.ref 31] M K := by
  refine AC.ofW (lv := [some (.ref 31), none]) pn_X3 (Nat.le_of_ble_eq_true rfl) (show lvLe _ [some (.ref 31)] from (lvs (lve lvz))) ?_
  intro p l e s m args below meth c G hc
  refine hb_iconst (q := 1) (v := 0) hc dd_X3_named_0 rfl ic_0 ?_
  refine hb_istore_n (q := 2) (lv' := [some (.ref 31), some (.int 0)]) hc dd_X3_named_1 rfl (Nat.le_of_ble_eq_true rfl) rfl ?_
  exact hb_weak (lvs (lvs lvz)) (h p l e s m args below meth c G hc)
theorem w_X3_behind {d : Nat} {M : Mm} {v1 : Int64} {v3 : Int32} {K : Int64 → Mm → Prop}  (h : (¬ v3 = 1 → (K ((((v1 &&& ((M.2 31 5) ^^^ (-1))) ^^^ ((v1 &&& ((M.2 31 5) ^^^ (-1))) &&& (M.2 31 6))) <<< ((1 : Int32).toInt64 &&& 63)) ||| ((((v1 &&& ((M.2 31 5) ^^^ (-1))) &&& (M.2 31 6)).toUInt64 >>> (((M.1 31 3) - 1).toInt64.toUInt64 &&& Int64.toUInt64 63)).toInt64)) M)) ∧ (v3 = 1 → (K ((((v1 &&& (M.2 31 5)) ^^^ ((v1 &&& (M.2 31 5)) &&& (M.2 31 6))) <<< ((1 : Int32).toInt64 &&& 63)) ||| ((((v1 &&& (M.2 31 5)) &&& (M.2 31 6)).toUInt64 >>> (((M.1 31 3) - 1).toInt64.toUInt64 &&& Int64.toUInt64 63)).toInt64)) M))) : ACl (d + 1) X3_behind [.ref 31, .long v1, .int v3] M K := by
  refine AC.ofW (lv := [some (.ref 31), some (.long v1), none, some (.int v3), none, none, none, none]) pn_X3 (Nat.le_of_ble_eq_true rfl) (show lvLe _ [some (.ref 31), some (.long v1), none, some (.int v3)] from (lvs (lvs (lvn (lvs (lve (lve (lve (lve lvz))))))))) ?_
  intro p l e s m args below meth c G hc
  refine hb_iload_n (q := 1) hc dd_X3_behind_0 rfl rfl ?_
  refine hb_iconst (q := 2) (v := 1) hc dd_X3_behind_1 rfl ic_1 ?_
  refine hb_icmp_ne (q := 5) (tg := 14) hc dd_X3_behind_2 rfl (by decide) (fun z => ?_) (fun z => ?_)
  · replace h := h.1 z
    refine hb_lload_n (q := 15) hc dd_X3_behind_14 rfl rfl ?_
    refine hb_aload_n (q := 16) hc dd_X3_behind_15 rfl rfl ?_
    refine hb_getL (q := 19) (v := M.2 31 5) hc fl_X3_39 sh31 sl31 rfl rfl dd_X3_behind_16 rfl ?_
    refine hb_ldc2 (q := 22) (v := (-1)) hc dd_X3_behind_19 rfl iw_695 ?_
    refine hb_lxor (q := 23) hc dd_X3_behind_22 rfl ?_
    refine hb_land (q := 24) hc dd_X3_behind_23 rfl ?_
    refine hb_lstore (q := 26) (lv' := [some (.ref 31), some (.long v1), none, some (.int v3), some (.long (v1 &&& ((M.2 31 5) ^^^ (-1)))), none, none, none]) hc dd_X3_behind_24 rfl (Nat.le_of_ble_eq_true rfl) rfl ?_
    refine hb_lload (q := 28) hc dd_X3_behind_26 rfl rfl ?_
    refine hb_aload_n (q := 29) hc dd_X3_behind_28 rfl rfl ?_
    refine hb_getL (q := 32) (v := M.2 31 6) hc fl_X3_42 sh31 sl31 rfl rfl dd_X3_behind_29 rfl ?_
    refine hb_land (q := 33) hc dd_X3_behind_32 rfl ?_
    refine hb_lstore (q := 35) (lv' := [some (.ref 31), some (.long v1), none, some (.int v3), some (.long (v1 &&& ((M.2 31 5) ^^^ (-1)))), none, some (.long ((v1 &&& ((M.2 31 5) ^^^ (-1))) &&& (M.2 31 6))), none]) hc dd_X3_behind_33 rfl (Nat.le_of_ble_eq_true rfl) rfl ?_
    refine hb_lload (q := 37) hc dd_X3_behind_35 rfl rfl ?_
    refine hb_lload (q := 39) hc dd_X3_behind_37 rfl rfl ?_
    refine hb_lxor (q := 40) hc dd_X3_behind_39 rfl ?_
    refine hb_iconst (q := 41) (v := 1) hc dd_X3_behind_40 rfl ic_1 ?_
    refine hb_lshl (q := 42) hc dd_X3_behind_41 rfl ?_
    refine hb_lload (q := 44) hc dd_X3_behind_42 rfl rfl ?_
    refine hb_aload_n (q := 45) hc dd_X3_behind_44 rfl rfl ?_
    refine hb_getI (q := 48) (v := M.1 31 3) hc fl_X3_24 sh31 sl31 rfl rfl dd_X3_behind_45 rfl ?_
    refine hb_iconst (q := 49) (v := 1) hc dd_X3_behind_48 rfl ic_1 ?_
    refine hb_isub (q := 50) hc dd_X3_behind_49 rfl ?_
    refine hb_lushr (q := 51) hc dd_X3_behind_50 rfl ?_
    refine hb_lor (q := 52) hc dd_X3_behind_51 rfl ?_
    exact hb_lret hc rfl dd_X3_behind_52 h
  · replace h := h.2 z
    refine hb_lload_n (q := 6) hc dd_X3_behind_5 rfl rfl ?_
    refine hb_aload_n (q := 7) hc dd_X3_behind_6 rfl rfl ?_
    refine hb_getL (q := 10) (v := M.2 31 5) hc fl_X3_39 sh31 sl31 rfl rfl dd_X3_behind_7 rfl ?_
    refine hb_land (q := 11) hc dd_X3_behind_10 rfl ?_
    refine hb_goto (tg := 24) hc dd_X3_behind_11 (by decide) ?_
    refine hb_lstore (q := 26) (lv' := [some (.ref 31), some (.long v1), none, some (.int v3), some (.long (v1 &&& (M.2 31 5))), none, none, none]) hc dd_X3_behind_24 rfl (Nat.le_of_ble_eq_true rfl) rfl ?_
    refine hb_lload (q := 28) hc dd_X3_behind_26 rfl rfl ?_
    refine hb_aload_n (q := 29) hc dd_X3_behind_28 rfl rfl ?_
    refine hb_getL (q := 32) (v := M.2 31 6) hc fl_X3_42 sh31 sl31 rfl rfl dd_X3_behind_29 rfl ?_
    refine hb_land (q := 33) hc dd_X3_behind_32 rfl ?_
    refine hb_lstore (q := 35) (lv' := [some (.ref 31), some (.long v1), none, some (.int v3), some (.long (v1 &&& (M.2 31 5))), none, some (.long ((v1 &&& (M.2 31 5)) &&& (M.2 31 6))), none]) hc dd_X3_behind_33 rfl (Nat.le_of_ble_eq_true rfl) rfl ?_
    refine hb_lload (q := 37) hc dd_X3_behind_35 rfl rfl ?_
    refine hb_lload (q := 39) hc dd_X3_behind_37 rfl rfl ?_
    refine hb_lxor (q := 40) hc dd_X3_behind_39 rfl ?_
    refine hb_iconst (q := 41) (v := 1) hc dd_X3_behind_40 rfl ic_1 ?_
    refine hb_lshl (q := 42) hc dd_X3_behind_41 rfl ?_
    refine hb_lload (q := 44) hc dd_X3_behind_42 rfl rfl ?_
    refine hb_aload_n (q := 45) hc dd_X3_behind_44 rfl rfl ?_
    refine hb_getI (q := 48) (v := M.1 31 3) hc fl_X3_24 sh31 sl31 rfl rfl dd_X3_behind_45 rfl ?_
    refine hb_iconst (q := 49) (v := 1) hc dd_X3_behind_48 rfl ic_1 ?_
    refine hb_isub (q := 50) hc dd_X3_behind_49 rfl ?_
    refine hb_lushr (q := 51) hc dd_X3_behind_50 rfl ?_
    refine hb_lor (q := 52) hc dd_X3_behind_51 rfl ?_
    exact hb_lret hc rfl dd_X3_behind_52 h
def lp_X3_addIfNew_19 (d : Nat) (M : Mm) (v1 : Int64) (v3 : Int32) (K : Mm → Prop) : Prop := AW (d + 1) X3_addIfNew M 19 [some (.ref 31), some (.long v1), none, some (.int v3)] [] (QV K)
theorem z_X3_addIfNew_19 {d : Nat} {M : Mm} {v1 : Int64} {v3 : Int32} {K : Mm → Prop}  (h : ((M.1 31 2) ≤ v3 → (vp_in (M.1 31 2) 256 ∧ (K (wI (wL M 32 ((M.1 31 2).toNatClampNeg) v1) 31 2 ((M.1 31 2) + 1))))) ∧ (¬ (M.1 31 2) ≤ v3 → (vp_in v3 256 ∧ ((¬ (lg_cmp (M.2 32 v3.toNatClampNeg) v1) = 0 → (lp_X3_addIfNew_19 d M v1 (v3 + 1) K)) ∧ ((lg_cmp (M.2 32 v3.toNatClampNeg) v1) = 0 → (K M)))))) : lp_X3_addIfNew_19 d M v1 v3 K := by
  intro p l e s m args below meth c G hc
  refine hb_iload_n (q := 20) hc dd_X3_addIfNew_19 rfl rfl ?_
  refine hb_aload_n (q := 21) hc dd_X3_addIfNew_20 rfl rfl ?_
  refine hb_getI (q := 24) (v := M.1 31 2) hc fl_X3_45 sh31 sl31 rfl rfl dd_X3_addIfNew_21 rfl ?_
  refine hb_icmp_ge (q := 27) (tg := 45) hc dd_X3_addIfNew_24 rfl (by decide) (fun z => ?_) (fun z => ?_)
  · replace h := h.1 z
    refine hb_aload_n (q := 46) hc dd_X3_addIfNew_45 rfl rfl ?_
    refine hb_getR (q := 49) hc fl_X3_11 sh31 sl31 rfl dd_X3_addIfNew_46 rfl ?_
    refine hb_aload_n (q := 50) hc dd_X3_addIfNew_49 rfl rfl ?_
    refine hb_getI (q := 53) (v := M.1 31 2) hc fl_X3_45 sh31 sl31 rfl rfl dd_X3_addIfNew_50 rfl ?_
    refine hb_lload_n (q := 54) hc dd_X3_addIfNew_53 rfl rfl ?_
    obtain ⟨hi, h⟩ := h
    refine hb_last (q := 55) hc sh32 sl32 hi rfl dd_X3_addIfNew_54 rfl ?_
    refine hb_aload_n (q := 56) hc dd_X3_addIfNew_55 rfl rfl ?_
    refine hb_dup (q := 57) hc dd_X3_addIfNew_56 rfl rfl ?_
    refine hb_getI (q := 60) (v := M.1 31 2) hc fl_X3_45 sh31 sl31 rfl (by simp [wI, wL, cpI, cpL]) dd_X3_addIfNew_57 rfl ?_
    refine hb_iconst (q := 61) (v := 1) hc dd_X3_addIfNew_60 rfl ic_1 ?_
    refine hb_iadd (q := 62) hc dd_X3_addIfNew_61 rfl ?_
    refine hb_putI (q := 65) hc fl_X3_45 sh31 sl31 rfl dd_X3_addIfNew_62 rfl ?_
    exact hb_vret hc rfl dd_X3_addIfNew_65 h
  · replace h := h.2 z
    refine hb_aload_n (q := 28) hc dd_X3_addIfNew_27 rfl rfl ?_
    refine hb_getR (q := 31) hc fl_X3_11 sh31 sl31 rfl dd_X3_addIfNew_28 rfl ?_
    refine hb_iload_n (q := 32) hc dd_X3_addIfNew_31 rfl rfl ?_
    obtain ⟨hi, h⟩ := h
    refine hb_lald (q := 33) (v := M.2 32 v3.toNatClampNeg) hc sh32 sl32 hi rfl rfl dd_X3_addIfNew_32 rfl ?_
    refine hb_lload_n (q := 34) hc dd_X3_addIfNew_33 rfl rfl ?_
    refine hb_lcmp (q := 35) hc dd_X3_addIfNew_34 rfl ?_
    refine hb_if_ne (q := 38) (tg := 39) hc dd_X3_addIfNew_35 rfl (by decide) (fun z => ?_) (fun z => ?_)
    · replace h := h.1 z
      refine hb_iinc (q := 42) (v := v3 + 1) (lv' := [some (.ref 31), some (.long v1), none, some (.int (v3 + 1))]) hc dd_X3_addIfNew_39 rfl rfl rfl (Nat.le_of_ble_eq_true rfl) rfl ?_
      refine hb_goto (tg := 19) hc dd_X3_addIfNew_42 (by decide) ?_
      exact hb_weak (lvs (lvs (lvn (lvs lvz)))) (h p l e s m args below meth c G hc)
    · replace h := h.2 z
      exact hb_vret hc rfl dd_X3_addIfNew_38 h
theorem w_X3_addIfNew {d : Nat} {M : Mm} {v1 : Int64} {K : Mm → Prop}  (h : ((lg_cmp v1 0) = 0 → (K M)) ∧ (¬ (lg_cmp v1 0) = 0 → (((M.1 31 2) < 256 → (lp_X3_addIfNew_19 d M v1 0 K)) ∧ (¬ (M.1 31 2) < 256 → (K M))))) : ACv (d + 1) X3_addIfNew [.ref 31, .long v1] M K := by
  refine AC.ofW (lv := [some (.ref 31), some (.long v1), none, none]) pn_X3 (Nat.le_of_ble_eq_true rfl) (show lvLe _ [some (.ref 31), some (.long v1), none] from (lvs (lvs (lvn (lve lvz))))) ?_
  intro p l e s m args below meth c G hc
  refine hb_lload_n (q := 1) hc dd_X3_addIfNew_0 rfl rfl ?_
  refine hb_lconst (q := 2) (v := 0) hc dd_X3_addIfNew_1 rfl lc_0 ?_
  refine hb_lcmp (q := 3) hc dd_X3_addIfNew_2 rfl ?_
  refine hb_if_eq (q := 6) (tg := 16) hc dd_X3_addIfNew_3 rfl (by decide) (fun z => ?_) (fun z => ?_)
  · replace h := h.1 z
    exact hb_vret hc rfl dd_X3_addIfNew_16 h
  · replace h := h.2 z
    refine hb_aload_n (q := 7) hc dd_X3_addIfNew_6 rfl rfl ?_
    refine hb_getI (q := 10) (v := M.1 31 2) hc fl_X3_45 sh31 sl31 rfl rfl dd_X3_addIfNew_7 rfl ?_
    refine hb_sipush (q := 13) (v := 256) hc dd_X3_addIfNew_10 rfl sp_256 ?_
    refine hb_icmp_lt (q := 16) (tg := 17) hc dd_X3_addIfNew_13 rfl (by decide) (fun z => ?_) (fun z => ?_)
    · replace h := h.1 z
      refine hb_iconst (q := 18) (v := 0) hc dd_X3_addIfNew_17 rfl ic_0 ?_
      refine hb_istore_n (q := 19) (lv' := [some (.ref 31), some (.long v1), none, some (.int 0)]) hc dd_X3_addIfNew_18 rfl (Nat.le_of_ble_eq_true rfl) rfl ?_
      exact hb_weak (lvs (lvs (lvn (lvs lvz)))) (h p l e s m args below meth c G hc)
    · replace h := h.2 z
      exact hb_vret hc rfl dd_X3_addIfNew_16 h
def lp_X3_takeAnyBeat_4 (d : Nat) (M : Mm) (v1 : Int32) (v2 : Int32) (K : Mm → Prop) : Prop := AW (d + 1) X3_takeAnyBeat M 4 [some (.ref 31), some (.int v1), some (.int v2), none, none, none] [] (QV K)
def lp_X3_takeAnyBeat_14 (d : Nat) (M : Mm) (v1 : Int32) (v2 : Int32) (v3 : Int32) (K : Mm → Prop) : Prop := AW (d + 1) X3_takeAnyBeat M 14 [some (.ref 31), some (.int v1), some (.int v2), some (.int v3), none, none] [] (QV K)
theorem z_X3_takeAnyBeat_4 {d : Nat} {M : Mm} {v1 : Int32} {v2 : Int32} {K : Mm → Prop}  (h : ((M.1 31 2) ≤ v2 → (¬ v1 < 0 ∧ 0 + v1.toNatClampNeg ≤ 48 ∧ 0 + v1.toNatClampNeg ≤ 256 ∧ (K (cpL (wI M 31 2 v1) 33 0 32 0 v1.toNatClampNeg)))) ∧ (¬ (M.1 31 2) ≤ v2 → (lp_X3_takeAnyBeat_14 d M v1 v2 0 K))) : lp_X3_takeAnyBeat_4 d M v1 v2 K := by
  intro p l e s m args below meth c G hc
  refine hb_iload_n (q := 5) hc dd_X3_takeAnyBeat_4 rfl rfl ?_
  refine hb_aload_n (q := 6) hc dd_X3_takeAnyBeat_5 rfl rfl ?_
  refine hb_getI (q := 9) (v := M.1 31 2) hc fl_X3_45 sh31 sl31 rfl rfl dd_X3_takeAnyBeat_6 rfl ?_
  refine hb_icmp_ge (q := 12) (tg := 68) hc dd_X3_takeAnyBeat_9 rfl (by decide) (fun z => ?_) (fun z => ?_)
  · replace h := h.1 z
    refine hb_aload_n (q := 69) hc dd_X3_takeAnyBeat_68 rfl rfl ?_
    refine hb_iload_n (q := 70) hc dd_X3_takeAnyBeat_69 rfl rfl ?_
    refine hb_putI (q := 73) hc fl_X3_45 sh31 sl31 rfl dd_X3_takeAnyBeat_70 rfl ?_
    refine hb_aload_n (q := 74) hc dd_X3_takeAnyBeat_73 rfl rfl ?_
    refine hb_getR (q := 77) hc fl_X3_15 sh31 sl31 rfl dd_X3_takeAnyBeat_74 rfl ?_
    refine hb_iconst (q := 78) (v := 0) hc dd_X3_takeAnyBeat_77 rfl ic_0 ?_
    refine hb_aload_n (q := 79) hc dd_X3_takeAnyBeat_78 rfl rfl ?_
    refine hb_getR (q := 82) hc fl_X3_11 sh31 sl31 rfl dd_X3_takeAnyBeat_79 rfl ?_
    refine hb_iconst (q := 83) (v := 0) hc dd_X3_takeAnyBeat_82 rfl ic_0 ?_
    refine hb_aload_n (q := 84) hc dd_X3_takeAnyBeat_83 rfl rfl ?_
    refine hb_getI (q := 87) (v := v1) hc fl_X3_45 sh31 sl31 rfl rfl dd_X3_takeAnyBeat_84 rfl ?_
    obtain ⟨hn1, h⟩ := h
    obtain ⟨hn2, h⟩ := h
    obtain ⟨hn3, h⟩ := h
    refine hb_copyL (q := 90) (k1 := 0) (k2 := 0) (k3 := v1.toNatClampNeg) (st := []) hc mv_X3_65 sh33 sl33 sh32 sl32 ng_0 ng_0 hn1 cl_0 cl_0 rfl hn2 hn3 (Nat.le_add_left 1 d) (rm_lo (Nat.le_of_ble_eq_true rfl)) dd_X3_takeAnyBeat_87 rfl ?_
    exact hb_vret hc rfl dd_X3_takeAnyBeat_90 h
  · replace h := h.2 z
    refine hb_iconst (q := 13) (v := 0) hc dd_X3_takeAnyBeat_12 rfl ic_0 ?_
    refine hb_istore_n (q := 14) (lv' := [some (.ref 31), some (.int v1), some (.int v2), some (.int 0), none, none]) hc dd_X3_takeAnyBeat_13 rfl (Nat.le_of_ble_eq_true rfl) rfl ?_
    exact hb_weak (lvs (lvs (lvs (lvs (lvn (lvn lvz)))))) (h p l e s m args below meth c G hc)
theorem z_X3_takeAnyBeat_14 {d : Nat} {M : Mm} {v1 : Int32} {v2 : Int32} {v3 : Int32} {K : Mm → Prop}  (h : (1 < v3 → (lp_X3_takeAnyBeat_4 d M v1 (v2 + 1) K)) ∧ (¬ 1 < v3 → (vp_in v2 256 ∧ (ACl d X3_behind [.ref 31, .long (M.2 32 v2.toNatClampNeg), .int v3] M (fun r1 M1 => ((lg_cmp r1 0) = 0 → (lp_X3_takeAnyBeat_14 d M1 v1 v2 (v3 + 1) K)) ∧ (¬ (lg_cmp r1 0) = 0 → ((48 ≤ v1 → (lp_X3_takeAnyBeat_14 d M1 v1 v2 (v3 + 1) K)) ∧ (¬ 48 ≤ v1 → (vp_in v1 48 ∧ (lp_X3_takeAnyBeat_14 d (wL M1 33 v1.toNatClampNeg r1) (v1 + 1) v2 (v3 + 1) K)))))))))) : lp_X3_takeAnyBeat_14 d M v1 v2 v3 K := by
  intro p l e s m args below meth c G hc
  refine hb_iload_n (q := 15) hc dd_X3_takeAnyBeat_14 rfl rfl ?_
  refine hb_iconst (q := 16) (v := 1) hc dd_X3_takeAnyBeat_15 rfl ic_1 ?_
  refine hb_icmp_gt (q := 19) (tg := 62) hc dd_X3_takeAnyBeat_16 rfl (by decide) (fun z => ?_) (fun z => ?_)
  · replace h := h.1 z
    refine hb_iinc (q := 65) (v := v2 + 1) (lv' := [some (.ref 31), some (.int v1), some (.int (v2 + 1)), some (.int v3), none, none]) hc dd_X3_takeAnyBeat_62 rfl rfl rfl (Nat.le_of_ble_eq_true rfl) rfl ?_
    refine hb_goto (tg := 4) hc dd_X3_takeAnyBeat_65 (by decide) ?_
    exact hb_weak (lvs (lvs (lvs (lvn (lvn (lvn lvz)))))) (h p l e s m args below meth c G hc)
  · replace h := h.2 z
    refine hb_aload_n (q := 20) hc dd_X3_takeAnyBeat_19 rfl rfl ?_
    refine hb_aload_n (q := 21) hc dd_X3_takeAnyBeat_20 rfl rfl ?_
    refine hb_getR (q := 24) hc fl_X3_11 sh31 sl31 rfl dd_X3_takeAnyBeat_21 rfl ?_
    refine hb_iload_n (q := 25) hc dd_X3_takeAnyBeat_24 rfl rfl ?_
    obtain ⟨hi, h⟩ := h
    refine hb_lald (q := 26) (v := M.2 32 v2.toNatClampNeg) hc sh32 sl32 hi rfl rfl dd_X3_takeAnyBeat_25 rfl ?_
    refine hb_iload_n (q := 27) hc dd_X3_takeAnyBeat_26 rfl rfl ?_
    refine hb_callVl (q := 30) (vs := [.long (M.2 32 v2.toNatClampNeg), .int v3]) (st := []) hc mv_X3_48 h sh31 sl31 rfl rfl rfl (Nat.le_of_ble_eq_true rfl) ⟨Nat.le_refl _, Nat.le_refl _⟩ ⟨Nat.le_refl _, Nat.le_refl _⟩ dd_X3_takeAnyBeat_27 rfl (fun r1 M1 h => ?_)
    refine hb_lstore (q := 32) (lv' := [some (.ref 31), some (.int v1), some (.int v2), some (.int v3), some (.long r1), none]) hc dd_X3_takeAnyBeat_30 rfl (Nat.le_of_ble_eq_true rfl) rfl ?_
    refine hb_lload (q := 34) hc dd_X3_takeAnyBeat_32 rfl rfl ?_
    refine hb_lconst (q := 35) (v := 0) hc dd_X3_takeAnyBeat_34 rfl lc_0 ?_
    refine hb_lcmp (q := 36) hc dd_X3_takeAnyBeat_35 rfl ?_
    refine hb_if_eq (q := 39) (tg := 56) hc dd_X3_takeAnyBeat_36 rfl (by decide) (fun z => ?_) (fun z => ?_)
    · replace h := h.1 z
      refine hb_iinc (q := 59) (v := v3 + 1) (lv' := [some (.ref 31), some (.int v1), some (.int v2), some (.int (v3 + 1)), some (.long r1), none]) hc dd_X3_takeAnyBeat_56 rfl rfl rfl (Nat.le_of_ble_eq_true rfl) rfl ?_
      refine hb_goto (tg := 14) hc dd_X3_takeAnyBeat_59 (by decide) ?_
      exact hb_weak (lvs (lvs (lvs (lvs (lvn (lvn lvz)))))) (h p l e s m args below meth c G hc)
    · replace h := h.2 z
      refine hb_iload_n (q := 40) hc dd_X3_takeAnyBeat_39 rfl rfl ?_
      refine hb_bipush (q := 42) (v := 48) hc dd_X3_takeAnyBeat_40 rfl bp_48 ?_
      refine hb_icmp_ge (q := 45) (tg := 56) hc dd_X3_takeAnyBeat_42 rfl (by decide) (fun z => ?_) (fun z => ?_)
      · replace h := h.1 z
        refine hb_iinc (q := 59) (v := v3 + 1) (lv' := [some (.ref 31), some (.int v1), some (.int v2), some (.int (v3 + 1)), some (.long r1), none]) hc dd_X3_takeAnyBeat_56 rfl rfl rfl (Nat.le_of_ble_eq_true rfl) rfl ?_
        refine hb_goto (tg := 14) hc dd_X3_takeAnyBeat_59 (by decide) ?_
        exact hb_weak (lvs (lvs (lvs (lvs (lvn (lvn lvz)))))) (h p l e s m args below meth c G hc)
      · replace h := h.2 z
        refine hb_aload_n (q := 46) hc dd_X3_takeAnyBeat_45 rfl rfl ?_
        refine hb_getR (q := 49) hc fl_X3_15 sh31 sl31 rfl dd_X3_takeAnyBeat_46 rfl ?_
        refine hb_iload_n (q := 50) hc dd_X3_takeAnyBeat_49 rfl rfl ?_
        refine hb_lload (q := 52) hc dd_X3_takeAnyBeat_50 rfl rfl ?_
        obtain ⟨hi, h⟩ := h
        refine hb_last (q := 53) hc sh33 sl33 hi rfl dd_X3_takeAnyBeat_52 rfl ?_
        refine hb_iinc (q := 56) (v := v1 + 1) (lv' := [some (.ref 31), some (.int (v1 + 1)), some (.int v2), some (.int v3), some (.long r1), none]) hc dd_X3_takeAnyBeat_53 rfl rfl rfl (Nat.le_of_ble_eq_true rfl) rfl ?_
        refine hb_iinc (q := 59) (v := v3 + 1) (lv' := [some (.ref 31), some (.int (v1 + 1)), some (.int v2), some (.int (v3 + 1)), some (.long r1), none]) hc dd_X3_takeAnyBeat_56 rfl rfl rfl (Nat.le_of_ble_eq_true rfl) rfl ?_
        refine hb_goto (tg := 14) hc dd_X3_takeAnyBeat_59 (by decide) ?_
        exact hb_weak (lvs (lvs (lvs (lvs (lvn (lvn lvz)))))) (h p l e s m args below meth c G hc)
theorem w_X3_takeAnyBeat {d : Nat} {M : Mm}  {K : Mm → Prop}  (h : lp_X3_takeAnyBeat_4 d M 0 0 K) : ACv (d + 1) X3_takeAnyBeat [.ref 31] M K := by
  refine AC.ofW (lv := [some (.ref 31), none, none, none, none, none]) pn_X3 (Nat.le_of_ble_eq_true rfl) (show lvLe _ [some (.ref 31)] from (lvs (lve (lve (lve (lve (lve lvz))))))) ?_
  intro p l e s m args below meth c G hc
  refine hb_iconst (q := 1) (v := 0) hc dd_X3_takeAnyBeat_0 rfl ic_0 ?_
  refine hb_istore_n (q := 2) (lv' := [some (.ref 31), some (.int 0), none, none, none, none]) hc dd_X3_takeAnyBeat_1 rfl (Nat.le_of_ble_eq_true rfl) rfl ?_
  refine hb_iconst (q := 3) (v := 0) hc dd_X3_takeAnyBeat_2 rfl ic_0 ?_
  refine hb_istore_n (q := 4) (lv' := [some (.ref 31), some (.int 0), some (.int 0), none, none, none]) hc dd_X3_takeAnyBeat_3 rfl (Nat.le_of_ble_eq_true rfl) rfl ?_
  exact hb_weak (lvs (lvs (lvs (lvn (lvn (lvn lvz)))))) (h p l e s m args below meth c G hc)
def lp_X3_allNameOneLight_2 (d : Nat) (M : Mm) (v1 : Int32) (K : Int32 → Mm → Prop) : Prop := AW (d + 1) X3_allNameOneLight M 2 [some (.ref 31), some (.int v1)] [] (QI K)
theorem z_X3_allNameOneLight_2 {d : Nat} {M : Mm} {v1 : Int32} {K : Int32 → Mm → Prop}  (h : ((M.1 31 2) ≤ v1 → (K 1 M)) ∧ (¬ (M.1 31 2) ≤ v1 → (vp_in v1 256 ∧ (ACi d X8_lightsIn [.long (M.2 32 v1.toNatClampNeg)] M (fun r1 M1 => ACi d J6_bitCount_0f7a4 [.int r1] M1 (fun r2 M2 => (r2 = 1 → (lp_X3_allNameOneLight_2 d M2 (v1 + 1) K)) ∧ (¬ r2 = 1 → (K 0 M2)))))))) : lp_X3_allNameOneLight_2 d M v1 K := by
  intro p l e s m args below meth c G hc
  refine hb_iload_n (q := 3) hc dd_X3_allNameOneLight_2 rfl rfl ?_
  refine hb_aload_n (q := 4) hc dd_X3_allNameOneLight_3 rfl rfl ?_
  refine hb_getI (q := 7) (v := M.1 31 2) hc fl_X3_45 sh31 sl31 rfl rfl dd_X3_allNameOneLight_4 rfl ?_
  refine hb_icmp_ge (q := 10) (tg := 34) hc dd_X3_allNameOneLight_7 rfl (by decide) (fun z => ?_) (fun z => ?_)
  · replace h := h.1 z
    refine hb_iconst (q := 35) (v := 1) hc dd_X3_allNameOneLight_34 rfl ic_1 ?_
    exact hb_zret hc rfl (by decide) dd_X3_allNameOneLight_35 h
  · replace h := h.2 z
    refine hb_aload_n (q := 11) hc dd_X3_allNameOneLight_10 rfl rfl ?_
    refine hb_getR (q := 14) hc fl_X3_11 sh31 sl31 rfl dd_X3_allNameOneLight_11 rfl ?_
    refine hb_iload_n (q := 15) hc dd_X3_allNameOneLight_14 rfl rfl ?_
    obtain ⟨hi, h⟩ := h
    refine hb_lald (q := 16) (v := M.2 32 v1.toNatClampNeg) hc sh32 sl32 hi rfl rfl dd_X3_allNameOneLight_15 rfl ?_
    refine hb_callNi (q := 19) (Y := X8_lightsIn) (idx := 71) (vs := [.long (M.2 32 v1.toNatClampNeg)]) (st := []) hc (fun z => show va_Nw (.methodLinkNest RX3 71 yX8_lightsIn RX8) _ from z.2.2.1) mv_X3_71 h rfl rfl (Nat.le_of_ble_eq_true rfl) ⟨Nat.le_refl _, Nat.le_refl _⟩ ⟨Nat.le_refl _, Nat.le_refl _⟩ dd_X3_allNameOneLight_16 rfl (fun r1 M1 h => ?_)
    refine hb_callSi (q := 22) (vs := [.int r1]) (st := []) hc mv_X3_75 h rfl rfl (Nat.le_of_ble_eq_true rfl) ⟨Nat.le_refl _, Nat.le_refl _⟩ ⟨Nat.le_refl _, Nat.le_refl _⟩ dd_X3_allNameOneLight_19 rfl (fun r2 M2 h => ?_)
    refine hb_iconst (q := 23) (v := 1) hc dd_X3_allNameOneLight_22 rfl ic_1 ?_
    refine hb_icmp_eq (q := 26) (tg := 28) hc dd_X3_allNameOneLight_23 rfl (by decide) (fun z => ?_) (fun z => ?_)
    · replace h := h.1 z
      refine hb_iinc (q := 31) (v := v1 + 1) (lv' := [some (.ref 31), some (.int (v1 + 1))]) hc dd_X3_allNameOneLight_28 rfl rfl rfl (Nat.le_of_ble_eq_true rfl) rfl ?_
      refine hb_goto (tg := 2) hc dd_X3_allNameOneLight_31 (by decide) ?_
      exact hb_weak (lvs (lvs lvz)) (h p l e s m args below meth c G hc)
    · replace h := h.2 z
      refine hb_iconst (q := 27) (v := 0) hc dd_X3_allNameOneLight_26 rfl ic_0 ?_
      exact hb_zret hc rfl (by decide) dd_X3_allNameOneLight_27 h
theorem w_X3_allNameOneLight {d : Nat} {M : Mm}  {K : Int32 → Mm → Prop}  (h : lp_X3_allNameOneLight_2 d M 0 K) : ACi (d + 1) X3_allNameOneLight [.ref 31] M K := by
  refine AC.ofW (lv := [some (.ref 31), none]) pn_X3 (Nat.le_of_ble_eq_true rfl) (show lvLe _ [some (.ref 31)] from (lvs (lve lvz))) ?_
  intro p l e s m args below meth c G hc
  refine hb_iconst (q := 1) (v := 0) hc dd_X3_allNameOneLight_0 rfl ic_0 ?_
  refine hb_istore_n (q := 2) (lv' := [some (.ref 31), some (.int 0)]) hc dd_X3_allNameOneLight_1 rfl (Nat.le_of_ble_eq_true rfl) rfl ?_
  exact hb_weak (lvs (lvs lvz)) (h p l e s m args below meth c G hc)
