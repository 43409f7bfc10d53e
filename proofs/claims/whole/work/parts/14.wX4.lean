/-! WALKS, by program (wip/whole/gen6.py). -/
def lp_X4_makePlan_17 (d : Nat) (M : Mm) (v4 : Int32) (K : Int32 → Mm → Prop) : Prop := AW (d + 1) X4_makePlan M 17 [some (.ref 26), some (.ref 3), some (.ref 13), none, some (.int v4)] [] (QI K)
theorem z_X4_makePlan_17 {d : Nat} {M : Mm} {v4 : Int32} {K : Int32 → Mm → Prop}  (h : ((M.1 26 2) ≤ v4 → (ACi d X4_chooseFrom [.ref 26, .int 0, .int 0] (wI M 26 0 9) (fun r1 M1 => (8 < (M1.1 26 0) → (K 0 M1)) ∧ (¬ 8 < (M1.1 26 0) → (K 1 M1))))) ∧ (¬ (M.1 26 2) ≤ v4 → (ACi d X2_neighbours [.ref 13, .int v4, .int (M.1 3 2)] M (fun r2 M2 => vp_in v4 6 ∧ (lp_X4_makePlan_17 d (wI M2 29 v4.toNatClampNeg r2) (v4 + 1) K))))) : lp_X4_makePlan_17 d M v4 K := by
  intro p l e s m args below meth c G hc
  refine hb_iload (q := 19) hc dd_X4_makePlan_17 rfl rfl ?_
  refine hb_aload_n (q := 20) hc dd_X4_makePlan_19 rfl rfl ?_
  refine hb_getI (q := 23) (v := M.1 26 2) hc fl_X4_34 sh26 sl26 rfl rfl dd_X4_makePlan_20 rfl ?_
  refine hb_icmp_ge (q := 26) (tg := 49) hc dd_X4_makePlan_23 rfl (by decide) (fun z => ?_) (fun z => ?_)
  · replace h := h.1 z
    refine hb_aload_n (q := 50) hc dd_X4_makePlan_49 rfl rfl ?_
    refine hb_bipush (q := 52) (v := 9) hc dd_X4_makePlan_50 rfl bp_9 ?_
    refine hb_putI (q := 55) hc fl_X4_45 sh26 sl26 rfl dd_X4_makePlan_52 rfl ?_
    refine hb_aload_n (q := 56) hc dd_X4_makePlan_55 rfl rfl ?_
    refine hb_iconst (q := 57) (v := 0) hc dd_X4_makePlan_56 rfl ic_0 ?_
    refine hb_iconst (q := 58) (v := 0) hc dd_X4_makePlan_57 rfl ic_0 ?_
    refine hb_callVi (q := 61) (vs := [.int 0, .int 0]) (st := []) hc mv_X4_48 h sh26 sl26 rfl rfl rfl (Nat.le_of_ble_eq_true rfl) ⟨Nat.le_refl _, Nat.le_refl _⟩ ⟨Nat.le_refl _, Nat.le_refl _⟩ dd_X4_makePlan_58 rfl (fun r1 M1 h => ?_)
    refine hb_pop (q := 62) hc dd_X4_makePlan_61 rfl rfl ?_
    refine hb_aload_n (q := 63) hc dd_X4_makePlan_62 rfl rfl ?_
    refine hb_getI (q := 66) (v := M1.1 26 0) hc fl_X4_45 sh26 sl26 rfl rfl dd_X4_makePlan_63 rfl ?_
    refine hb_bipush (q := 68) (v := 8) hc dd_X4_makePlan_66 rfl bp_8 ?_
    refine hb_icmp_gt (q := 71) (tg := 75) hc dd_X4_makePlan_68 rfl (by decide) (fun z => ?_) (fun z => ?_)
    · replace h := h.1 z
      refine hb_iconst (q := 76) (v := 0) hc dd_X4_makePlan_75 rfl ic_0 ?_
      exact hb_zret hc rfl (by decide) dd_X4_makePlan_76 h
    · replace h := h.2 z
      refine hb_iconst (q := 72) (v := 1) hc dd_X4_makePlan_71 rfl ic_1 ?_
      refine hb_goto (tg := 76) hc dd_X4_makePlan_72 (by decide) ?_
      exact hb_zret hc rfl (by decide) dd_X4_makePlan_76 h
  · replace h := h.2 z
    refine hb_aload_n (q := 27) hc dd_X4_makePlan_26 rfl rfl ?_
    refine hb_getR (q := 30) hc fl_X4_18 sh26 sl26 rfl dd_X4_makePlan_27 rfl ?_
    refine hb_iload (q := 32) hc dd_X4_makePlan_30 rfl rfl ?_
    refine hb_aload_n (q := 33) hc dd_X4_makePlan_32 rfl rfl ?_
    refine hb_iload (q := 35) hc dd_X4_makePlan_33 rfl rfl ?_
    refine hb_aload_n (q := 36) hc dd_X4_makePlan_35 rfl rfl ?_
    refine hb_getI (q := 39) (v := M.1 3 2) hc fl_X4_37 sh3 sl3 rfl rfl dd_X4_makePlan_36 rfl ?_
    refine hb_callVi (q := 42) (vs := [.int v4, .int (M.1 3 2)]) (st := [.int v4, .ref 29]) hc mv_X4_42 h sh13 sl13 rfl rfl rfl (Nat.le_of_ble_eq_true rfl) ⟨Nat.le_refl _, Nat.le_refl _⟩ ⟨Nat.le_refl _, Nat.le_refl _⟩ dd_X4_makePlan_39 rfl (fun r2 M2 h => ?_)
    obtain ⟨hi, h⟩ := h
    refine hb_iast (q := 43) hc sh29 sl29 hi rfl dd_X4_makePlan_42 rfl ?_
    refine hb_iinc (q := 46) (v := v4 + 1) (lv' := [some (.ref 26), some (.ref 3), some (.ref 13), none, some (.int (v4 + 1))]) hc dd_X4_makePlan_43 rfl rfl rfl (Nat.le_of_ble_eq_true rfl) rfl ?_
    refine hb_goto (tg := 17) hc dd_X4_makePlan_46 (by decide) ?_
    exact hb_weak (lvs (lvs (lvs (lvn (lvs lvz))))) (h p l e s m args below meth c G hc)
theorem w_X4_makePlan {d : Nat} {M : Mm} {v3 : Int32} {K : Int32 → Mm → Prop}  (h : ACv d X4_compareRhythms [.ref 26, .ref 3, .int v3] M (fun M1 => lp_X4_makePlan_17 d (wI M1 26 2 (M1.1 13 0)) 0 K)) : ACi (d + 1) X4_makePlan [.ref 26, .ref 3, .ref 13, .int v3] M K := by
  refine AC.ofW (lv := [some (.ref 26), some (.ref 3), some (.ref 13), some (.int v3), none]) pn_X4 (Nat.le_of_ble_eq_true rfl) (show lvLe _ [some (.ref 26), some (.ref 3), some (.ref 13), some (.int v3)] from (lvs (lvs (lvs (lvs (lve lvz)))))) ?_
  intro p l e s m args below meth c G hc
  refine hb_aload_n (q := 1) hc dd_X4_makePlan_0 rfl rfl ?_
  refine hb_aload_n (q := 2) hc dd_X4_makePlan_1 rfl rfl ?_
  refine hb_iload_n (q := 3) hc dd_X4_makePlan_2 rfl rfl ?_
  refine hb_callVv (q := 6) (vs := [.ref 3, .int v3]) (st := []) hc mv_X4_24 h sh26 sl26 rfl rfl rfl (Nat.le_of_ble_eq_true rfl) ⟨Nat.le_refl _, Nat.le_refl _⟩ ⟨Nat.le_refl _, Nat.le_refl _⟩ dd_X4_makePlan_3 rfl (fun M1 h => ?_)
  refine hb_aload_n (q := 7) hc dd_X4_makePlan_6 rfl rfl ?_
  refine hb_aload_n (q := 8) hc dd_X4_makePlan_7 rfl rfl ?_
  refine hb_getI (q := 11) (v := M1.1 13 0) hc fl_X4_28 sh13 sl13 rfl rfl dd_X4_makePlan_8 rfl ?_
  refine hb_putI (q := 14) hc fl_X4_34 sh26 sl26 rfl dd_X4_makePlan_11 rfl ?_
  refine hb_iconst (q := 15) (v := 0) hc dd_X4_makePlan_14 rfl ic_0 ?_
  refine hb_istore (q := 17) (lv' := [some (.ref 26), some (.ref 3), some (.ref 13), some (.int v3), some (.int 0)]) hc dd_X4_makePlan_15 rfl (Nat.le_of_ble_eq_true rfl) rfl ?_
  exact hb_weak (lvs (lvs (lvs (lvn (lvs lvz))))) (h p l e s m args below meth c G hc)
def lp_X4_compareRhythms_10 (d : Nat) (M : Mm) (v2 : Int32) (v3 : Int32) (K : Mm → Prop) : Prop := AW (d + 1) X4_compareRhythms M 10 [some (.ref 26), some (.ref 3), some (.int v2), some (.int v3)] [] (QV K)
theorem z_X4_compareRhythms_10 {d : Nat} {M : Mm} {v2 : Int32} {v3 : Int32} {K : Mm → Prop}  (h : ((M.1 26 3) ≤ v3 → (K M)) ∧ (¬ (M.1 26 3) ≤ v3 → (ACi d X0_suchOnes [.ref 3, .int v3, .int v2] M (fun r1 M1 => vp_in v3 8 ∧ (lp_X4_compareRhythms_10 d (wI M1 30 v3.toNatClampNeg r1) v2 (v3 + 1) K))))) : lp_X4_compareRhythms_10 d M v2 v3 K := by
  intro p l e s m args below meth c G hc
  refine hb_iload_n (q := 11) hc dd_X4_compareRhythms_10 rfl rfl ?_
  refine hb_aload_n (q := 12) hc dd_X4_compareRhythms_11 rfl rfl ?_
  refine hb_getI (q := 15) (v := M.1 26 3) hc fl_X4_52 sh26 sl26 rfl rfl dd_X4_compareRhythms_12 rfl ?_
  refine hb_icmp_ge (q := 18) (tg := 36) hc dd_X4_compareRhythms_15 rfl (by decide) (fun z => ?_) (fun z => ?_)
  · replace h := h.1 z
    exact hb_vret hc rfl dd_X4_compareRhythms_36 h
  · replace h := h.2 z
    refine hb_aload_n (q := 19) hc dd_X4_compareRhythms_18 rfl rfl ?_
    refine hb_getR (q := 22) hc fl_X4_21 sh26 sl26 rfl dd_X4_compareRhythms_19 rfl ?_
    refine hb_iload_n (q := 23) hc dd_X4_compareRhythms_22 rfl rfl ?_
    refine hb_aload_n (q := 24) hc dd_X4_compareRhythms_23 rfl rfl ?_
    refine hb_iload_n (q := 25) hc dd_X4_compareRhythms_24 rfl rfl ?_
    refine hb_iload_n (q := 26) hc dd_X4_compareRhythms_25 rfl rfl ?_
    refine hb_callVi (q := 29) (vs := [.int v3, .int v2]) (st := [.int v3, .ref 30]) hc mv_X4_55 h sh3 sl3 rfl rfl rfl (Nat.le_of_ble_eq_true rfl) ⟨Nat.le_refl _, Nat.le_refl _⟩ ⟨Nat.le_refl _, Nat.le_refl _⟩ dd_X4_compareRhythms_26 rfl (fun r1 M1 h => ?_)
    obtain ⟨hi, h⟩ := h
    refine hb_iast (q := 30) hc sh30 sl30 hi rfl dd_X4_compareRhythms_29 rfl ?_
    refine hb_iinc (q := 33) (v := v3 + 1) (lv' := [some (.ref 26), some (.ref 3), some (.int v2), some (.int (v3 + 1))]) hc dd_X4_compareRhythms_30 rfl rfl rfl (Nat.le_of_ble_eq_true rfl) rfl ?_
    refine hb_goto (tg := 10) hc dd_X4_compareRhythms_33 (by decide) ?_
    exact hb_weak (lvs (lvs (lvs (lvs lvz)))) (h p l e s m args below meth c G hc)
theorem w_X4_compareRhythms {d : Nat} {M : Mm} {v2 : Int32} {K : Mm → Prop}  (h : lp_X4_compareRhythms_10 d (wI M 26 3 (M.1 3 3)) v2 0 K) : ACv (d + 1) X4_compareRhythms [.ref 26, .ref 3, .int v2] M K := by
  refine AC.ofW (lv := [some (.ref 26), some (.ref 3), some (.int v2), none]) pn_X4 (Nat.le_of_ble_eq_true rfl) (show lvLe _ [some (.ref 26), some (.ref 3), some (.int v2)] from (lvs (lvs (lvs (lve lvz))))) ?_
  intro p l e s m args below meth c G hc
  refine hb_aload_n (q := 1) hc dd_X4_compareRhythms_0 rfl rfl ?_
  refine hb_aload_n (q := 2) hc dd_X4_compareRhythms_1 rfl rfl ?_
  refine hb_getI (q := 5) (v := M.1 3 3) hc fl_X4_51 sh3 sl3 rfl rfl dd_X4_compareRhythms_2 rfl ?_
  refine hb_putI (q := 8) hc fl_X4_52 sh26 sl26 rfl dd_X4_compareRhythms_5 rfl ?_
  refine hb_iconst (q := 9) (v := 0) hc dd_X4_compareRhythms_8 rfl ic_0 ?_
  refine hb_istore_n (q := 10) (lv' := [some (.ref 26), some (.ref 3), some (.int v2), some (.int 0)]) hc dd_X4_compareRhythms_9 rfl (Nat.le_of_ble_eq_true rfl) rfl ?_
  exact hb_weak (lvs (lvs (lvs (lvs lvz)))) (h p l e s m args below meth c G hc)
def lp_X4_chooseFrom_51 (d : Nat) (M : Mm) (v1 : Int32) (v2 : Int32) (v3 : Int32) (v4 : Int32) (v5 : Int32) (K : Int32 → Mm → Prop) : Prop := AW (d + 1) X4_chooseFrom M 51 [some (.ref 26), some (.int v1), some (.int v2), some (.int v3), some (.int v4), some (.int v5), none, none, none] [] (QI K)
def lp_X4_chooseFrom_82 (d : Nat) (M : Mm) (v1 : Int32) (v2 : Int32) (v3 : Int32) (v4 : Int32) (v5 : Int32) (v6 : Int32) (s0 : Int32) (K : Int32 → Mm → Prop) : Prop := AW (d + 1) X4_chooseFrom M 82 [some (.ref 26), some (.int v1), some (.int v2), some (.int v3), some (.int v4), some (.int v5), some (.int v6), none, none] [.int s0] (QI K)
theorem z_X4_chooseFrom_51 {d : Nat} {M : Mm} {v1 : Int32} {v2 : Int32} {v3 : Int32} {v4 : Int32} {v5 : Int32} {K : Int32 → Mm → Prop}  (h : ((M.1 26 3) ≤ v5 → (K v4 M)) ∧ (¬ (M.1 26 3) ≤ v5 → ((¬ ((v3 >>> (v5 &&& 31)) &&& 1) = 0 → (lp_X4_chooseFrom_82 d M v1 v2 v3 v4 v5 (v2 ||| (1 <<< (v5 &&& 31))) 0 K)) ∧ (((v3 >>> (v5 &&& 31)) &&& 1) = 0 → (lp_X4_chooseFrom_82 d M v1 v2 v3 v4 v5 (v2 ||| (1 <<< (v5 &&& 31))) 1 K))))) : lp_X4_chooseFrom_51 d M v1 v2 v3 v4 v5 K := by
  intro p l e s m args below meth c G hc
  refine hb_iload (q := 53) hc dd_X4_chooseFrom_51 rfl rfl ?_
  refine hb_aload_n (q := 54) hc dd_X4_chooseFrom_53 rfl rfl ?_
  refine hb_getI (q := 57) (v := M.1 26 3) hc fl_X4_52 sh26 sl26 rfl rfl dd_X4_chooseFrom_54 rfl ?_
  refine hb_icmp_ge (q := 60) (tg := 157) hc dd_X4_chooseFrom_57 rfl (by decide) (fun z => ?_) (fun z => ?_)
  · replace h := h.1 z
    refine hb_iload (q := 159) hc dd_X4_chooseFrom_157 rfl rfl ?_
    exact hb_iret hc rfl dd_X4_chooseFrom_159 h
  · replace h := h.2 z
    refine hb_iload_n (q := 61) hc dd_X4_chooseFrom_60 rfl rfl ?_
    refine hb_iconst (q := 62) (v := 1) hc dd_X4_chooseFrom_61 rfl ic_1 ?_
    refine hb_iload (q := 64) hc dd_X4_chooseFrom_62 rfl rfl ?_
    refine hb_ishl (q := 65) hc dd_X4_chooseFrom_64 rfl ?_
    refine hb_ior (q := 66) hc dd_X4_chooseFrom_65 rfl ?_
    refine hb_istore (q := 68) (lv' := [some (.ref 26), some (.int v1), some (.int v2), some (.int v3), some (.int v4), some (.int v5), some (.int (v2 ||| (1 <<< (v5 &&& 31)))), none, none]) hc dd_X4_chooseFrom_66 rfl (Nat.le_of_ble_eq_true rfl) rfl ?_
    refine hb_iload_n (q := 69) hc dd_X4_chooseFrom_68 rfl rfl ?_
    refine hb_iload (q := 71) hc dd_X4_chooseFrom_69 rfl rfl ?_
    refine hb_ishr (q := 72) hc dd_X4_chooseFrom_71 rfl ?_
    refine hb_iconst (q := 73) (v := 1) hc dd_X4_chooseFrom_72 rfl ic_1 ?_
    refine hb_iand (q := 74) hc dd_X4_chooseFrom_73 rfl ?_
    refine hb_if_ne (q := 77) (tg := 81) hc dd_X4_chooseFrom_74 rfl (by decide) (fun z => ?_) (fun z => ?_)
    · replace h := h.1 z
      refine hb_iconst (q := 82) (v := 0) hc dd_X4_chooseFrom_81 rfl ic_0 ?_
      exact hb_weak (lvs (lvs (lvs (lvs (lvs (lvs (lvs (lvn (lvn lvz))))))))) (h p l e s m args below meth c G hc)
    · replace h := h.2 z
      refine hb_iconst (q := 78) (v := 1) hc dd_X4_chooseFrom_77 rfl ic_1 ?_
      refine hb_goto (tg := 82) hc dd_X4_chooseFrom_78 (by decide) ?_
      exact hb_weak (lvs (lvs (lvs (lvs (lvs (lvs (lvs (lvn (lvn lvz))))))))) (h p l e s m args below meth c G hc)
theorem z_X4_chooseFrom_82 {d : Nat} {M : Mm} {v1 : Int32} {v2 : Int32} {v3 : Int32} {v4 : Int32} {v5 : Int32} {v6 : Int32} {s0 : Int32} {K : Int32 → Mm → Prop}  (h : (s0 = 0 → ((s0 = 0 → (lp_X4_chooseFrom_51 d M v1 v2 v3 v4 (v5 + 1) K)) ∧ (¬ s0 = 0 → (vp_in v1 6 ∧ (ACi d X4_chooseFrom [.ref 26, .int (v1 + 1), .int v6] (wI M 28 v1.toNatClampNeg v5) (fun r1 M1 => (¬ ((r1 >>> (v1 &&& 31)) &&& 1) = 0 → (lp_X4_chooseFrom_51 d M1 v1 v2 v3 (v4 ||| r1) (v5 + 1) K)) ∧ (((r1 >>> (v1 &&& 31)) &&& 1) = 0 → (K r1 M1)))))))) ∧ (¬ s0 = 0 → (ACi d J6_bitCount_0f7a4 [.int v6] M (fun r2 M2 => (r2 < (M2.1 26 0) → ((s0 = 0 → (lp_X4_chooseFrom_51 d M2 v1 v2 v3 v4 (v5 + 1) K)) ∧ (¬ s0 = 0 → (vp_in v1 6 ∧ (ACi d X4_chooseFrom [.ref 26, .int (v1 + 1), .int v6] (wI M2 28 v1.toNatClampNeg v5) (fun r3 M3 => (¬ ((r3 >>> (v1 &&& 31)) &&& 1) = 0 → (lp_X4_chooseFrom_51 d M3 v1 v2 v3 (v4 ||| r3) (v5 + 1) K)) ∧ (((r3 >>> (v1 &&& 31)) &&& 1) = 0 → (K r3 M3)))))))) ∧ (¬ r2 < (M2.1 26 0) → (lp_X4_chooseFrom_51 d M2 v1 v2 v3 63 (v5 + 1) K)))))) : lp_X4_chooseFrom_82 d M v1 v2 v3 v4 v5 v6 s0 K := by
  intro p l e s m args below meth c G hc
  refine hb_istore (q := 84) (lv' := [some (.ref 26), some (.int v1), some (.int v2), some (.int v3), some (.int v4), some (.int v5), some (.int v6), some (.int s0), none]) hc dd_X4_chooseFrom_82 rfl (Nat.le_of_ble_eq_true rfl) rfl ?_
  refine hb_iload (q := 86) hc dd_X4_chooseFrom_84 rfl rfl ?_
  refine hb_if_eq (q := 89) (tg := 108) hc dd_X4_chooseFrom_86 rfl (by decide) (fun z => ?_) (fun z => ?_)
  · replace h := h.1 z
    refine hb_iload (q := 110) hc dd_X4_chooseFrom_108 rfl rfl ?_
    refine hb_if_eq (q := 113) (tg := 151) hc dd_X4_chooseFrom_110 rfl (by decide) (fun z => ?_) (fun z => ?_)
    · replace h := h.1 z
      refine hb_iinc (q := 154) (v := v5 + 1) (lv' := [some (.ref 26), some (.int v1), some (.int v2), some (.int v3), some (.int v4), some (.int (v5 + 1)), some (.int v6), some (.int s0), none]) hc dd_X4_chooseFrom_151 rfl rfl rfl (Nat.le_of_ble_eq_true rfl) rfl ?_
      refine hb_goto (tg := 51) hc dd_X4_chooseFrom_154 (by decide) ?_
      exact hb_weak (lvs (lvs (lvs (lvs (lvs (lvs (lvn (lvn (lvn lvz))))))))) (h p l e s m args below meth c G hc)
    · replace h := h.2 z
      refine hb_aload_n (q := 114) hc dd_X4_chooseFrom_113 rfl rfl ?_
      refine hb_getR (q := 117) hc fl_X4_15 sh26 sl26 rfl dd_X4_chooseFrom_114 rfl ?_
      refine hb_iload_n (q := 118) hc dd_X4_chooseFrom_117 rfl rfl ?_
      refine hb_iload (q := 120) hc dd_X4_chooseFrom_118 rfl rfl ?_
      obtain ⟨hi, h⟩ := h
      refine hb_iast (q := 121) hc sh28 sl28 hi rfl dd_X4_chooseFrom_120 rfl ?_
      refine hb_aload_n (q := 122) hc dd_X4_chooseFrom_121 rfl rfl ?_
      refine hb_iload_n (q := 123) hc dd_X4_chooseFrom_122 rfl rfl ?_
      refine hb_iconst (q := 124) (v := 1) hc dd_X4_chooseFrom_123 rfl ic_1 ?_
      refine hb_iadd (q := 125) hc dd_X4_chooseFrom_124 rfl ?_
      refine hb_iload (q := 127) hc dd_X4_chooseFrom_125 rfl rfl ?_
      refine hb_callVi (q := 130) (vs := [.int (v1 + 1), .int v6]) (st := []) hc mv_X4_48 h sh26 sl26 rfl rfl rfl (Nat.le_of_ble_eq_true rfl) ⟨Nat.le_refl _, Nat.le_refl _⟩ ⟨Nat.le_refl _, Nat.le_refl _⟩ dd_X4_chooseFrom_127 rfl (fun r1 M1 h => ?_)
      refine hb_istore (q := 132) (lv' := [some (.ref 26), some (.int v1), some (.int v2), some (.int v3), some (.int v4), some (.int v5), some (.int v6), some (.int s0), some (.int r1)]) hc dd_X4_chooseFrom_130 rfl (Nat.le_of_ble_eq_true rfl) rfl ?_
      refine hb_iload (q := 134) hc dd_X4_chooseFrom_132 rfl rfl ?_
      refine hb_iload_n (q := 135) hc dd_X4_chooseFrom_134 rfl rfl ?_
      refine hb_ishr (q := 136) hc dd_X4_chooseFrom_135 rfl ?_
      refine hb_iconst (q := 137) (v := 1) hc dd_X4_chooseFrom_136 rfl ic_1 ?_
      refine hb_iand (q := 138) hc dd_X4_chooseFrom_137 rfl ?_
      refine hb_if_ne (q := 141) (tg := 144) hc dd_X4_chooseFrom_138 rfl (by decide) (fun z => ?_) (fun z => ?_)
      · replace h := h.1 z
        refine hb_iload (q := 146) hc dd_X4_chooseFrom_144 rfl rfl ?_
        refine hb_iload (q := 148) hc dd_X4_chooseFrom_146 rfl rfl ?_
        refine hb_ior (q := 149) hc dd_X4_chooseFrom_148 rfl ?_
        refine hb_istore (q := 151) (lv' := [some (.ref 26), some (.int v1), some (.int v2), some (.int v3), some (.int (v4 ||| r1)), some (.int v5), some (.int v6), some (.int s0), some (.int r1)]) hc dd_X4_chooseFrom_149 rfl (Nat.le_of_ble_eq_true rfl) rfl ?_
        refine hb_iinc (q := 154) (v := v5 + 1) (lv' := [some (.ref 26), some (.int v1), some (.int v2), some (.int v3), some (.int (v4 ||| r1)), some (.int (v5 + 1)), some (.int v6), some (.int s0), some (.int r1)]) hc dd_X4_chooseFrom_151 rfl rfl rfl (Nat.le_of_ble_eq_true rfl) rfl ?_
        refine hb_goto (tg := 51) hc dd_X4_chooseFrom_154 (by decide) ?_
        exact hb_weak (lvs (lvs (lvs (lvs (lvs (lvs (lvn (lvn (lvn lvz))))))))) (h p l e s m args below meth c G hc)
      · replace h := h.2 z
        refine hb_iload (q := 143) hc dd_X4_chooseFrom_141 rfl rfl ?_
        exact hb_iret hc rfl dd_X4_chooseFrom_143 h
  · replace h := h.2 z
    refine hb_iload (q := 91) hc dd_X4_chooseFrom_89 rfl rfl ?_
    refine hb_callSi (q := 94) (vs := [.int v6]) (st := []) hc mv_X4_58 h rfl rfl (Nat.le_of_ble_eq_true rfl) ⟨Nat.le_refl _, Nat.le_refl _⟩ ⟨Nat.le_refl _, Nat.le_refl _⟩ dd_X4_chooseFrom_91 rfl (fun r2 M2 h => ?_)
    refine hb_aload_n (q := 95) hc dd_X4_chooseFrom_94 rfl rfl ?_
    refine hb_getI (q := 98) (v := M2.1 26 0) hc fl_X4_45 sh26 sl26 rfl rfl dd_X4_chooseFrom_95 rfl ?_
    refine hb_icmp_lt (q := 101) (tg := 108) hc dd_X4_chooseFrom_98 rfl (by decide) (fun z => ?_) (fun z => ?_)
    · replace h := h.1 z
      refine hb_iload (q := 110) hc dd_X4_chooseFrom_108 rfl rfl ?_
      refine hb_if_eq (q := 113) (tg := 151) hc dd_X4_chooseFrom_110 rfl (by decide) (fun z => ?_) (fun z => ?_)
      · replace h := h.1 z
        refine hb_iinc (q := 154) (v := v5 + 1) (lv' := [some (.ref 26), some (.int v1), some (.int v2), some (.int v3), some (.int v4), some (.int (v5 + 1)), some (.int v6), some (.int s0), none]) hc dd_X4_chooseFrom_151 rfl rfl rfl (Nat.le_of_ble_eq_true rfl) rfl ?_
        refine hb_goto (tg := 51) hc dd_X4_chooseFrom_154 (by decide) ?_
        exact hb_weak (lvs (lvs (lvs (lvs (lvs (lvs (lvn (lvn (lvn lvz))))))))) (h p l e s m args below meth c G hc)
      · replace h := h.2 z
        refine hb_aload_n (q := 114) hc dd_X4_chooseFrom_113 rfl rfl ?_
        refine hb_getR (q := 117) hc fl_X4_15 sh26 sl26 rfl dd_X4_chooseFrom_114 rfl ?_
        refine hb_iload_n (q := 118) hc dd_X4_chooseFrom_117 rfl rfl ?_
        refine hb_iload (q := 120) hc dd_X4_chooseFrom_118 rfl rfl ?_
        obtain ⟨hi, h⟩ := h
        refine hb_iast (q := 121) hc sh28 sl28 hi rfl dd_X4_chooseFrom_120 rfl ?_
        refine hb_aload_n (q := 122) hc dd_X4_chooseFrom_121 rfl rfl ?_
        refine hb_iload_n (q := 123) hc dd_X4_chooseFrom_122 rfl rfl ?_
        refine hb_iconst (q := 124) (v := 1) hc dd_X4_chooseFrom_123 rfl ic_1 ?_
        refine hb_iadd (q := 125) hc dd_X4_chooseFrom_124 rfl ?_
        refine hb_iload (q := 127) hc dd_X4_chooseFrom_125 rfl rfl ?_
        refine hb_callVi (q := 130) (vs := [.int (v1 + 1), .int v6]) (st := []) hc mv_X4_48 h sh26 sl26 rfl rfl rfl (Nat.le_of_ble_eq_true rfl) ⟨Nat.le_refl _, Nat.le_refl _⟩ ⟨Nat.le_refl _, Nat.le_refl _⟩ dd_X4_chooseFrom_127 rfl (fun r3 M3 h => ?_)
        refine hb_istore (q := 132) (lv' := [some (.ref 26), some (.int v1), some (.int v2), some (.int v3), some (.int v4), some (.int v5), some (.int v6), some (.int s0), some (.int r3)]) hc dd_X4_chooseFrom_130 rfl (Nat.le_of_ble_eq_true rfl) rfl ?_
        refine hb_iload (q := 134) hc dd_X4_chooseFrom_132 rfl rfl ?_
        refine hb_iload_n (q := 135) hc dd_X4_chooseFrom_134 rfl rfl ?_
        refine hb_ishr (q := 136) hc dd_X4_chooseFrom_135 rfl ?_
        refine hb_iconst (q := 137) (v := 1) hc dd_X4_chooseFrom_136 rfl ic_1 ?_
        refine hb_iand (q := 138) hc dd_X4_chooseFrom_137 rfl ?_
        refine hb_if_ne (q := 141) (tg := 144) hc dd_X4_chooseFrom_138 rfl (by decide) (fun z => ?_) (fun z => ?_)
        · replace h := h.1 z
          refine hb_iload (q := 146) hc dd_X4_chooseFrom_144 rfl rfl ?_
          refine hb_iload (q := 148) hc dd_X4_chooseFrom_146 rfl rfl ?_
          refine hb_ior (q := 149) hc dd_X4_chooseFrom_148 rfl ?_
          refine hb_istore (q := 151) (lv' := [some (.ref 26), some (.int v1), some (.int v2), some (.int v3), some (.int (v4 ||| r3)), some (.int v5), some (.int v6), some (.int s0), some (.int r3)]) hc dd_X4_chooseFrom_149 rfl (Nat.le_of_ble_eq_true rfl) rfl ?_
          refine hb_iinc (q := 154) (v := v5 + 1) (lv' := [some (.ref 26), some (.int v1), some (.int v2), some (.int v3), some (.int (v4 ||| r3)), some (.int (v5 + 1)), some (.int v6), some (.int s0), some (.int r3)]) hc dd_X4_chooseFrom_151 rfl rfl rfl (Nat.le_of_ble_eq_true rfl) rfl ?_
          refine hb_goto (tg := 51) hc dd_X4_chooseFrom_154 (by decide) ?_
          exact hb_weak (lvs (lvs (lvs (lvs (lvs (lvs (lvn (lvn (lvn lvz))))))))) (h p l e s m args below meth c G hc)
        · replace h := h.2 z
          refine hb_iload (q := 143) hc dd_X4_chooseFrom_141 rfl rfl ?_
          exact hb_iret hc rfl dd_X4_chooseFrom_143 h
    · replace h := h.2 z
      refine hb_bipush (q := 103) (v := 63) hc dd_X4_chooseFrom_101 rfl bp_63 ?_
      refine hb_istore (q := 105) (lv' := [some (.ref 26), some (.int v1), some (.int v2), some (.int v3), some (.int 63), some (.int v5), some (.int v6), some (.int s0), none]) hc dd_X4_chooseFrom_103 rfl (Nat.le_of_ble_eq_true rfl) rfl ?_
      refine hb_goto (tg := 151) hc dd_X4_chooseFrom_105 (by decide) ?_
      refine hb_iinc (q := 154) (v := v5 + 1) (lv' := [some (.ref 26), some (.int v1), some (.int v2), some (.int v3), some (.int 63), some (.int (v5 + 1)), some (.int v6), some (.int s0), none]) hc dd_X4_chooseFrom_151 rfl rfl rfl (Nat.le_of_ble_eq_true rfl) rfl ?_
      refine hb_goto (tg := 51) hc dd_X4_chooseFrom_154 (by decide) ?_
      exact hb_weak (lvs (lvs (lvs (lvs (lvs (lvs (lvn (lvn (lvn lvz))))))))) (h p l e s m args below meth c G hc)
theorem w_X4_chooseFrom {d : Nat} {M : Mm} {v1 : Int32} {v2 : Int32} {K : Int32 → Mm → Prop}  (h : (v1 < (M.1 26 2) → (ACi d X4_refusedFor [.ref 26, .int v1] M (fun r1 M1 => vp_in v1 6 ∧ (lp_X4_chooseFrom_51 d M1 v1 v2 r1 (M1.1 29 v1.toNatClampNeg) 0 K)))) ∧ (¬ v1 < (M.1 26 2) → (ACi d J6_bitCount_0f7a4 [.int v2] M (fun r2 M2 => K 63 (cpI (wI M2 26 0 r2) 28 0 27 0 6))))) : ACi (d + 1) X4_chooseFrom [.ref 26, .int v1, .int v2] M K := by
  refine AC.ofW (lv := [some (.ref 26), some (.int v1), some (.int v2), none, none, none, none, none, none]) pn_X4 (Nat.le_of_ble_eq_true rfl) (show lvLe _ [some (.ref 26), some (.int v1), some (.int v2)] from (lvs (lvs (lvs (lve (lve (lve (lve (lve (lve lvz)))))))))) ?_
  intro p l e s m args below meth c G hc
  refine hb_iload_n (q := 1) hc dd_X4_chooseFrom_0 rfl rfl ?_
  refine hb_aload_n (q := 2) hc dd_X4_chooseFrom_1 rfl rfl ?_
  refine hb_getI (q := 5) (v := M.1 26 2) hc fl_X4_34 sh26 sl26 rfl rfl dd_X4_chooseFrom_2 rfl ?_
  refine hb_icmp_lt (q := 8) (tg := 34) hc dd_X4_chooseFrom_5 rfl (by decide) (fun z => ?_) (fun z => ?_)
  · replace h := h.1 z
    refine hb_aload_n (q := 35) hc dd_X4_chooseFrom_34 rfl rfl ?_
    refine hb_iload_n (q := 36) hc dd_X4_chooseFrom_35 rfl rfl ?_
    refine hb_callVi (q := 39) (vs := [.int v1]) (st := []) hc mv_X4_70 h sh26 sl26 rfl rfl rfl (Nat.le_of_ble_eq_true rfl) ⟨Nat.le_refl _, Nat.le_refl _⟩ ⟨Nat.le_refl _, Nat.le_refl _⟩ dd_X4_chooseFrom_36 rfl (fun r1 M1 h => ?_)
    refine hb_istore_n (q := 40) (lv' := [some (.ref 26), some (.int v1), some (.int v2), some (.int r1), none, none, none, none, none]) hc dd_X4_chooseFrom_39 rfl (Nat.le_of_ble_eq_true rfl) rfl ?_
    refine hb_aload_n (q := 41) hc dd_X4_chooseFrom_40 rfl rfl ?_
    refine hb_getR (q := 44) hc fl_X4_18 sh26 sl26 rfl dd_X4_chooseFrom_41 rfl ?_
    refine hb_iload_n (q := 45) hc dd_X4_chooseFrom_44 rfl rfl ?_
    obtain ⟨hi, h⟩ := h
    refine hb_iald (q := 46) (v := M1.1 29 v1.toNatClampNeg) hc sh29 sl29 hi rfl rfl dd_X4_chooseFrom_45 rfl ?_
    refine hb_istore (q := 48) (lv' := [some (.ref 26), some (.int v1), some (.int v2), some (.int r1), some (.int (M1.1 29 v1.toNatClampNeg)), none, none, none, none]) hc dd_X4_chooseFrom_46 rfl (Nat.le_of_ble_eq_true rfl) rfl ?_
    refine hb_iconst (q := 49) (v := 0) hc dd_X4_chooseFrom_48 rfl ic_0 ?_
    refine hb_istore (q := 51) (lv' := [some (.ref 26), some (.int v1), some (.int v2), some (.int r1), some (.int (M1.1 29 v1.toNatClampNeg)), some (.int 0), none, none, none]) hc dd_X4_chooseFrom_49 rfl (Nat.le_of_ble_eq_true rfl) rfl ?_
    exact hb_weak (lvs (lvs (lvs (lvs (lvs (lvs (lvn (lvn (lvn lvz))))))))) (h p l e s m args below meth c G hc)
  · replace h := h.2 z
    refine hb_aload_n (q := 9) hc dd_X4_chooseFrom_8 rfl rfl ?_
    refine hb_iload_n (q := 10) hc dd_X4_chooseFrom_9 rfl rfl ?_
    refine hb_callSi (q := 13) (vs := [.int v2]) (st := [.ref 26]) hc mv_X4_58 h rfl rfl (Nat.le_of_ble_eq_true rfl) ⟨Nat.le_refl _, Nat.le_refl _⟩ ⟨Nat.le_refl _, Nat.le_refl _⟩ dd_X4_chooseFrom_10 rfl (fun r2 M2 h => ?_)
    refine hb_putI (q := 16) hc fl_X4_45 sh26 sl26 rfl dd_X4_chooseFrom_13 rfl ?_
    refine hb_aload_n (q := 17) hc dd_X4_chooseFrom_16 rfl rfl ?_
    refine hb_getR (q := 20) hc fl_X4_15 sh26 sl26 rfl dd_X4_chooseFrom_17 rfl ?_
    refine hb_iconst (q := 21) (v := 0) hc dd_X4_chooseFrom_20 rfl ic_0 ?_
    refine hb_aload_n (q := 22) hc dd_X4_chooseFrom_21 rfl rfl ?_
    refine hb_getR (q := 25) hc fl_X4_9 sh26 sl26 rfl dd_X4_chooseFrom_22 rfl ?_
    refine hb_iconst (q := 26) (v := 0) hc dd_X4_chooseFrom_25 rfl ic_0 ?_
    refine hb_bipush (q := 28) (v := 6) hc dd_X4_chooseFrom_26 rfl bp_6 ?_
    refine hb_copyI (q := 31) (k1 := 0) (k2 := 0) (k3 := 6) (st := []) hc mv_X4_64 sh28 sl28 sh27 sl27 ng_0 ng_0 ng_6 cl_0 cl_0 cl_6 (by decide) (by decide) (Nat.le_add_left 1 d) (rm_lo (Nat.le_of_ble_eq_true rfl)) dd_X4_chooseFrom_28 rfl ?_
    refine hb_bipush (q := 33) (v := 63) hc dd_X4_chooseFrom_31 rfl bp_63 ?_
    exact hb_iret hc rfl dd_X4_chooseFrom_33 h
def lp_X4_refusedFor_4 (d : Nat) (M : Mm) (v1 : Int32) (v2 : Int32) (v3 : Int32) (K : Int32 → Mm → Prop) : Prop := AW (d + 1) X4_refusedFor M 4 [some (.ref 26), some (.int v1), some (.int v2), some (.int v3)] [] (QI K)
theorem z_X4_refusedFor_4 {d : Nat} {M : Mm} {v1 : Int32} {v2 : Int32} {v3 : Int32} {K : Int32 → Mm → Prop}  (h : (v1 ≤ v3 → (K v2 M)) ∧ (¬ v1 ≤ v3 → (vp_in v1 6 ∧ ((¬ (((M.1 29 v1.toNatClampNeg) >>> (v3 &&& 31)) &&& 1) = 1 → (lp_X4_refusedFor_4 d M v1 v2 (v3 + 1) K)) ∧ ((((M.1 29 v1.toNatClampNeg) >>> (v3 &&& 31)) &&& 1) = 1 → (vp_in v3 6 ∧ (vp_in (M.1 28 v3.toNatClampNeg) 8 ∧ (lp_X4_refusedFor_4 d M v1 (v2 ||| (M.1 30 ((M.1 28 v3.toNatClampNeg).toNatClampNeg))) (v3 + 1) K)))))))) : lp_X4_refusedFor_4 d M v1 v2 v3 K := by
  intro p l e s m args below meth c G hc
  refine hb_iload_n (q := 5) hc dd_X4_refusedFor_4 rfl rfl ?_
  refine hb_iload_n (q := 6) hc dd_X4_refusedFor_5 rfl rfl ?_
  refine hb_icmp_ge (q := 9) (tg := 43) hc dd_X4_refusedFor_6 rfl (by decide) (fun z => ?_) (fun z => ?_)
  · replace h := h.1 z
    refine hb_iload_n (q := 44) hc dd_X4_refusedFor_43 rfl rfl ?_
    exact hb_iret hc rfl dd_X4_refusedFor_44 h
  · replace h := h.2 z
    refine hb_aload_n (q := 10) hc dd_X4_refusedFor_9 rfl rfl ?_
    refine hb_getR (q := 13) hc fl_X4_18 sh26 sl26 rfl dd_X4_refusedFor_10 rfl ?_
    refine hb_iload_n (q := 14) hc dd_X4_refusedFor_13 rfl rfl ?_
    obtain ⟨hi, h⟩ := h
    refine hb_iald (q := 15) (v := M.1 29 v1.toNatClampNeg) hc sh29 sl29 hi rfl rfl dd_X4_refusedFor_14 rfl ?_
    refine hb_iload_n (q := 16) hc dd_X4_refusedFor_15 rfl rfl ?_
    refine hb_ishr (q := 17) hc dd_X4_refusedFor_16 rfl ?_
    refine hb_iconst (q := 18) (v := 1) hc dd_X4_refusedFor_17 rfl ic_1 ?_
    refine hb_iand (q := 19) hc dd_X4_refusedFor_18 rfl ?_
    refine hb_iconst (q := 20) (v := 1) hc dd_X4_refusedFor_19 rfl ic_1 ?_
    refine hb_icmp_ne (q := 23) (tg := 37) hc dd_X4_refusedFor_20 rfl (by decide) (fun z => ?_) (fun z => ?_)
    · replace h := h.1 z
      refine hb_iinc (q := 40) (v := v3 + 1) (lv' := [some (.ref 26), some (.int v1), some (.int v2), some (.int (v3 + 1))]) hc dd_X4_refusedFor_37 rfl rfl rfl (Nat.le_of_ble_eq_true rfl) rfl ?_
      refine hb_goto (tg := 4) hc dd_X4_refusedFor_40 (by decide) ?_
      exact hb_weak (lvs (lvs (lvs (lvs lvz)))) (h p l e s m args below meth c G hc)
    · replace h := h.2 z
      refine hb_iload_n (q := 24) hc dd_X4_refusedFor_23 rfl rfl ?_
      refine hb_aload_n (q := 25) hc dd_X4_refusedFor_24 rfl rfl ?_
      refine hb_getR (q := 28) hc fl_X4_21 sh26 sl26 rfl dd_X4_refusedFor_25 rfl ?_
      refine hb_aload_n (q := 29) hc dd_X4_refusedFor_28 rfl rfl ?_
      refine hb_getR (q := 32) hc fl_X4_15 sh26 sl26 rfl dd_X4_refusedFor_29 rfl ?_
      refine hb_iload_n (q := 33) hc dd_X4_refusedFor_32 rfl rfl ?_
      obtain ⟨hi, h⟩ := h
      refine hb_iald (q := 34) (v := M.1 28 v3.toNatClampNeg) hc sh28 sl28 hi rfl rfl dd_X4_refusedFor_33 rfl ?_
      obtain ⟨hi, h⟩ := h
      refine hb_iald (q := 35) (v := M.1 30 ((M.1 28 v3.toNatClampNeg).toNatClampNeg)) hc sh30 sl30 hi rfl rfl dd_X4_refusedFor_34 rfl ?_
      refine hb_ior (q := 36) hc dd_X4_refusedFor_35 rfl ?_
      refine hb_istore_n (q := 37) (lv' := [some (.ref 26), some (.int v1), some (.int (v2 ||| (M.1 30 ((M.1 28 v3.toNatClampNeg).toNatClampNeg)))), some (.int v3)]) hc dd_X4_refusedFor_36 rfl (Nat.le_of_ble_eq_true rfl) rfl ?_
      refine hb_iinc (q := 40) (v := v3 + 1) (lv' := [some (.ref 26), some (.int v1), some (.int (v2 ||| (M.1 30 ((M.1 28 v3.toNatClampNeg).toNatClampNeg)))), some (.int (v3 + 1))]) hc dd_X4_refusedFor_37 rfl rfl rfl (Nat.le_of_ble_eq_true rfl) rfl ?_
      refine hb_goto (tg := 4) hc dd_X4_refusedFor_40 (by decide) ?_
      exact hb_weak (lvs (lvs (lvs (lvs lvz)))) (h p l e s m args below meth c G hc)
theorem w_X4_refusedFor {d : Nat} {M : Mm} {v1 : Int32} {K : Int32 → Mm → Prop}  (h : lp_X4_refusedFor_4 d M v1 0 0 K) : ACi (d + 1) X4_refusedFor [.ref 26, .int v1] M K := by
  refine AC.ofW (lv := [some (.ref 26), some (.int v1), none, none]) pn_X4 (Nat.le_of_ble_eq_true rfl) (show lvLe _ [some (.ref 26), some (.int v1)] from (lvs (lvs (lve (lve lvz))))) ?_
  intro p l e s m args below meth c G hc
  refine hb_iconst (q := 1) (v := 0) hc dd_X4_refusedFor_0 rfl ic_0 ?_
  refine hb_istore_n (q := 2) (lv' := [some (.ref 26), some (.int v1), some (.int 0), none]) hc dd_X4_refusedFor_1 rfl (Nat.le_of_ble_eq_true rfl) rfl ?_
  refine hb_iconst (q := 3) (v := 0) hc dd_X4_refusedFor_2 rfl ic_0 ?_
  refine hb_istore_n (q := 4) (lv' := [some (.ref 26), some (.int v1), some (.int 0), some (.int 0)]) hc dd_X4_refusedFor_3 rfl (Nat.le_of_ble_eq_true rfl) rfl ?_
  exact hb_weak (lvs (lvs (lvs (lvs lvz)))) (h p l e s m args below meth c G hc)
def lp_X4_greatestUnlikeSet_11 (d : Nat) (M : Mm) (v3 : Int32) (v4 : Int32) (K : Int32 → Mm → Prop) : Prop := AW (d + 1) X4_greatestUnlikeSet M 11 [some (.ref 26), none, none, some (.int v3), some (.int v4)] [] (QI K)
theorem z_X4_greatestUnlikeSet_11 {d : Nat} {M : Mm} {v3 : Int32} {v4 : Int32} {K : Int32 → Mm → Prop}  (h : ((1 <<< ((M.1 26 3) &&& 31)) ≤ v4 → (K v3 M)) ∧ (¬ (1 <<< ((M.1 26 3) &&& 31)) ≤ v4 → (ACi d J6_bitCount_0f7a4 [.int v4] M (fun r1 M1 => ACi d J6_bitCount_0f7a4 [.int v3] M1 (fun r2 M2 => (r1 ≤ r2 → (lp_X4_greatestUnlikeSet_11 d M2 v3 (v4 + 1) K)) ∧ (¬ r1 ≤ r2 → (ACi d X4_isUnlike [.ref 26, .int v4] M2 (fun r3 M3 => (r3 = 0 → (lp_X4_greatestUnlikeSet_11 d M3 v3 (v4 + 1) K)) ∧ (¬ r3 = 0 → (lp_X4_greatestUnlikeSet_11 d M3 v4 (v4 + 1) K)))))))))) : lp_X4_greatestUnlikeSet_11 d M v3 v4 K := by
  intro p l e s m args below meth c G hc
  refine hb_iload (q := 13) hc dd_X4_greatestUnlikeSet_11 rfl rfl ?_
  refine hb_iconst (q := 14) (v := 1) hc dd_X4_greatestUnlikeSet_13 rfl ic_1 ?_
  refine hb_aload_n (q := 15) hc dd_X4_greatestUnlikeSet_14 rfl rfl ?_
  refine hb_getI (q := 18) (v := M.1 26 3) hc fl_X4_52 sh26 sl26 rfl rfl dd_X4_greatestUnlikeSet_15 rfl ?_
  refine hb_ishl (q := 19) hc dd_X4_greatestUnlikeSet_18 rfl ?_
  refine hb_icmp_ge (q := 22) (tg := 52) hc dd_X4_greatestUnlikeSet_19 rfl (by decide) (fun z => ?_) (fun z => ?_)
  · replace h := h.1 z
    refine hb_iload_n (q := 53) hc dd_X4_greatestUnlikeSet_52 rfl rfl ?_
    exact hb_iret hc rfl dd_X4_greatestUnlikeSet_53 h
  · replace h := h.2 z
    refine hb_iload (q := 24) hc dd_X4_greatestUnlikeSet_22 rfl rfl ?_
    refine hb_callSi (q := 27) (vs := [.int v4]) (st := []) hc mv_X4_58 h rfl rfl (Nat.le_of_ble_eq_true rfl) ⟨Nat.le_refl _, Nat.le_refl _⟩ ⟨Nat.le_refl _, Nat.le_refl _⟩ dd_X4_greatestUnlikeSet_24 rfl (fun r1 M1 h => ?_)
    refine hb_iload_n (q := 28) hc dd_X4_greatestUnlikeSet_27 rfl rfl ?_
    refine hb_callSi (q := 31) (vs := [.int v3]) (st := [.int r1]) hc mv_X4_58 h rfl rfl (Nat.le_of_ble_eq_true rfl) ⟨Nat.le_refl _, Nat.le_refl _⟩ ⟨Nat.le_refl _, Nat.le_refl _⟩ dd_X4_greatestUnlikeSet_28 rfl (fun r2 M2 h => ?_)
    refine hb_icmp_le (q := 34) (tg := 46) hc dd_X4_greatestUnlikeSet_31 rfl (by decide) (fun z => ?_) (fun z => ?_)
    · replace h := h.1 z
      refine hb_iinc (q := 49) (v := v4 + 1) (lv' := [some (.ref 26), none, none, some (.int v3), some (.int (v4 + 1))]) hc dd_X4_greatestUnlikeSet_46 rfl rfl rfl (Nat.le_of_ble_eq_true rfl) rfl ?_
      refine hb_goto (tg := 11) hc dd_X4_greatestUnlikeSet_49 (by decide) ?_
      exact hb_weak (lvs (lvn (lvn (lvs (lvs lvz))))) (h p l e s m args below meth c G hc)
    · replace h := h.2 z
      refine hb_aload_n (q := 35) hc dd_X4_greatestUnlikeSet_34 rfl rfl ?_
      refine hb_iload (q := 37) hc dd_X4_greatestUnlikeSet_35 rfl rfl ?_
      refine hb_callVi (q := 40) (vs := [.int v4]) (st := []) hc mv_X4_73 h sh26 sl26 rfl rfl rfl (Nat.le_of_ble_eq_true rfl) ⟨Nat.le_refl _, Nat.le_refl _⟩ ⟨Nat.le_refl _, Nat.le_refl _⟩ dd_X4_greatestUnlikeSet_37 rfl (fun r3 M3 h => ?_)
      refine hb_if_eq (q := 43) (tg := 46) hc dd_X4_greatestUnlikeSet_40 rfl (by decide) (fun z => ?_) (fun z => ?_)
      · replace h := h.1 z
        refine hb_iinc (q := 49) (v := v4 + 1) (lv' := [some (.ref 26), none, none, some (.int v3), some (.int (v4 + 1))]) hc dd_X4_greatestUnlikeSet_46 rfl rfl rfl (Nat.le_of_ble_eq_true rfl) rfl ?_
        refine hb_goto (tg := 11) hc dd_X4_greatestUnlikeSet_49 (by decide) ?_
        exact hb_weak (lvs (lvn (lvn (lvs (lvs lvz))))) (h p l e s m args below meth c G hc)
      · replace h := h.2 z
        refine hb_iload (q := 45) hc dd_X4_greatestUnlikeSet_43 rfl rfl ?_
        refine hb_istore_n (q := 46) (lv' := [some (.ref 26), none, none, some (.int v4), some (.int v4)]) hc dd_X4_greatestUnlikeSet_45 rfl (Nat.le_of_ble_eq_true rfl) rfl ?_
        refine hb_iinc (q := 49) (v := v4 + 1) (lv' := [some (.ref 26), none, none, some (.int v4), some (.int (v4 + 1))]) hc dd_X4_greatestUnlikeSet_46 rfl rfl rfl (Nat.le_of_ble_eq_true rfl) rfl ?_
        refine hb_goto (tg := 11) hc dd_X4_greatestUnlikeSet_49 (by decide) ?_
        exact hb_weak (lvs (lvn (lvn (lvs (lvs lvz))))) (h p l e s m args below meth c G hc)
theorem w_X4_greatestUnlikeSet {d : Nat} {M : Mm} {v2 : Int32} {K : Int32 → Mm → Prop}  (h : ACv d X4_compareRhythms [.ref 26, .ref 3, .int v2] M (fun M1 => lp_X4_greatestUnlikeSet_11 d M1 0 1 K)) : ACi (d + 1) X4_greatestUnlikeSet [.ref 26, .ref 3, .int v2] M K := by
  refine AC.ofW (lv := [some (.ref 26), some (.ref 3), some (.int v2), none, none]) pn_X4 (Nat.le_of_ble_eq_true rfl) (show lvLe _ [some (.ref 26), some (.ref 3), some (.int v2)] from (lvs (lvs (lvs (lve (lve lvz)))))) ?_
  intro p l e s m args below meth c G hc
  refine hb_aload_n (q := 1) hc dd_X4_greatestUnlikeSet_0 rfl rfl ?_
  refine hb_aload_n (q := 2) hc dd_X4_greatestUnlikeSet_1 rfl rfl ?_
  refine hb_iload_n (q := 3) hc dd_X4_greatestUnlikeSet_2 rfl rfl ?_
  refine hb_callVv (q := 6) (vs := [.ref 3, .int v2]) (st := []) hc mv_X4_24 h sh26 sl26 rfl rfl rfl (Nat.le_of_ble_eq_true rfl) ⟨Nat.le_refl _, Nat.le_refl _⟩ ⟨Nat.le_refl _, Nat.le_refl _⟩ dd_X4_greatestUnlikeSet_3 rfl (fun M1 h => ?_)
  refine hb_iconst (q := 7) (v := 0) hc dd_X4_greatestUnlikeSet_6 rfl ic_0 ?_
  refine hb_istore_n (q := 8) (lv' := [some (.ref 26), some (.ref 3), some (.int v2), some (.int 0), none]) hc dd_X4_greatestUnlikeSet_7 rfl (Nat.le_of_ble_eq_true rfl) rfl ?_
  refine hb_iconst (q := 9) (v := 1) hc dd_X4_greatestUnlikeSet_8 rfl ic_1 ?_
  refine hb_istore (q := 11) (lv' := [some (.ref 26), some (.ref 3), some (.int v2), some (.int 0), some (.int 1)]) hc dd_X4_greatestUnlikeSet_9 rfl (Nat.le_of_ble_eq_true rfl) rfl ?_
  exact hb_weak (lvs (lvn (lvn (lvs (lvs lvz))))) (h p l e s m args below meth c G hc)
def lp_X4_isUnlike_2 (d : Nat) (M : Mm) (v1 : Int32) (v2 : Int32) (K : Int32 → Mm → Prop) : Prop := AW (d + 1) X4_isUnlike M 2 [some (.ref 26), some (.int v1), some (.int v2), none] [] (QI K)
theorem z_X4_isUnlike_2 {d : Nat} {M : Mm} {v1 : Int32} {v2 : Int32} {K : Int32 → Mm → Prop}  (h : ((M.1 26 3) ≤ v2 → (K 1 M)) ∧ (¬ (M.1 26 3) ≤ v2 → (((v1 &&& ((1 <<< (v2 &&& 31)) ^^^ (-1))) = v1 → (lp_X4_isUnlike_2 d M v1 (v2 + 1) K)) ∧ (¬ (v1 &&& ((1 <<< (v2 &&& 31)) ^^^ (-1))) = v1 → (vp_in v2 8 ∧ ((((M.1 30 v2.toNatClampNeg) &&& (v1 &&& ((1 <<< (v2 &&& 31)) ^^^ (-1)))) = 0 → (lp_X4_isUnlike_2 d M v1 (v2 + 1) K)) ∧ (¬ ((M.1 30 v2.toNatClampNeg) &&& (v1 &&& ((1 <<< (v2 &&& 31)) ^^^ (-1)))) = 0 → (K 0 M)))))))) : lp_X4_isUnlike_2 d M v1 v2 K := by
  intro p l e s m args below meth c G hc
  refine hb_iload_n (q := 3) hc dd_X4_isUnlike_2 rfl rfl ?_
  refine hb_aload_n (q := 4) hc dd_X4_isUnlike_3 rfl rfl ?_
  refine hb_getI (q := 7) (v := M.1 26 3) hc fl_X4_52 sh26 sl26 rfl rfl dd_X4_isUnlike_4 rfl ?_
  refine hb_icmp_ge (q := 10) (tg := 42) hc dd_X4_isUnlike_7 rfl (by decide) (fun z => ?_) (fun z => ?_)
  · replace h := h.1 z
    refine hb_iconst (q := 43) (v := 1) hc dd_X4_isUnlike_42 rfl ic_1 ?_
    exact hb_zret hc rfl (by decide) dd_X4_isUnlike_43 h
  · replace h := h.2 z
    refine hb_iload_n (q := 11) hc dd_X4_isUnlike_10 rfl rfl ?_
    refine hb_iconst (q := 12) (v := 1) hc dd_X4_isUnlike_11 rfl ic_1 ?_
    refine hb_iload_n (q := 13) hc dd_X4_isUnlike_12 rfl rfl ?_
    refine hb_ishl (q := 14) hc dd_X4_isUnlike_13 rfl ?_
    refine hb_iconst (q := 15) (v := (-1)) hc dd_X4_isUnlike_14 rfl ic_m1 ?_
    refine hb_ixor (q := 16) hc dd_X4_isUnlike_15 rfl ?_
    refine hb_iand (q := 17) hc dd_X4_isUnlike_16 rfl ?_
    refine hb_istore_n (q := 18) (lv' := [some (.ref 26), some (.int v1), some (.int v2), some (.int (v1 &&& ((1 <<< (v2 &&& 31)) ^^^ (-1))))]) hc dd_X4_isUnlike_17 rfl (Nat.le_of_ble_eq_true rfl) rfl ?_
    refine hb_iload_n (q := 19) hc dd_X4_isUnlike_18 rfl rfl ?_
    refine hb_iload_n (q := 20) hc dd_X4_isUnlike_19 rfl rfl ?_
    refine hb_icmp_eq (q := 23) (tg := 36) hc dd_X4_isUnlike_20 rfl (by decide) (fun z => ?_) (fun z => ?_)
    · replace h := h.1 z
      refine hb_iinc (q := 39) (v := v2 + 1) (lv' := [some (.ref 26), some (.int v1), some (.int (v2 + 1)), some (.int (v1 &&& ((1 <<< (v2 &&& 31)) ^^^ (-1))))]) hc dd_X4_isUnlike_36 rfl rfl rfl (Nat.le_of_ble_eq_true rfl) rfl ?_
      refine hb_goto (tg := 2) hc dd_X4_isUnlike_39 (by decide) ?_
      exact hb_weak (lvs (lvs (lvs (lvn lvz)))) (h p l e s m args below meth c G hc)
    · replace h := h.2 z
      refine hb_aload_n (q := 24) hc dd_X4_isUnlike_23 rfl rfl ?_
      refine hb_getR (q := 27) hc fl_X4_21 sh26 sl26 rfl dd_X4_isUnlike_24 rfl ?_
      refine hb_iload_n (q := 28) hc dd_X4_isUnlike_27 rfl rfl ?_
      obtain ⟨hi, h⟩ := h
      refine hb_iald (q := 29) (v := M.1 30 v2.toNatClampNeg) hc sh30 sl30 hi rfl rfl dd_X4_isUnlike_28 rfl ?_
      refine hb_iload_n (q := 30) hc dd_X4_isUnlike_29 rfl rfl ?_
      refine hb_iand (q := 31) hc dd_X4_isUnlike_30 rfl ?_
      refine hb_if_eq (q := 34) (tg := 36) hc dd_X4_isUnlike_31 rfl (by decide) (fun z => ?_) (fun z => ?_)
      · replace h := h.1 z
        refine hb_iinc (q := 39) (v := v2 + 1) (lv' := [some (.ref 26), some (.int v1), some (.int (v2 + 1)), some (.int (v1 &&& ((1 <<< (v2 &&& 31)) ^^^ (-1))))]) hc dd_X4_isUnlike_36 rfl rfl rfl (Nat.le_of_ble_eq_true rfl) rfl ?_
        refine hb_goto (tg := 2) hc dd_X4_isUnlike_39 (by decide) ?_
        exact hb_weak (lvs (lvs (lvs (lvn lvz)))) (h p l e s m args below meth c G hc)
      · replace h := h.2 z
        refine hb_iconst (q := 35) (v := 0) hc dd_X4_isUnlike_34 rfl ic_0 ?_
        exact hb_zret hc rfl (by decide) dd_X4_isUnlike_35 h
theorem w_X4_isUnlike {d : Nat} {M : Mm} {v1 : Int32} {K : Int32 → Mm → Prop}  (h : lp_X4_isUnlike_2 d M v1 0 K) : ACi (d + 1) X4_isUnlike [.ref 26, .int v1] M K := by
  refine AC.ofW (lv := [some (.ref 26), some (.int v1), none, none]) pn_X4 (Nat.le_of_ble_eq_true rfl) (show lvLe _ [some (.ref 26), some (.int v1)] from (lvs (lvs (lve (lve lvz))))) ?_
  intro p l e s m args below meth c G hc
  refine hb_iconst (q := 1) (v := 0) hc dd_X4_isUnlike_0 rfl ic_0 ?_
  refine hb_istore_n (q := 2) (lv' := [some (.ref 26), some (.int v1), some (.int 0), none]) hc dd_X4_isUnlike_1 rfl (Nat.le_of_ble_eq_true rfl) rfl ?_
  exact hb_weak (lvs (lvs (lvs (lvn lvz)))) (h p l e s m args below meth c G hc)
