/-! WALKS, by program (wip/whole/gen6.py). -/
theorem w_X5_begin {d : Nat} {M : Mm} {a : Nat} {K : Mm → Prop} (ha : isTp a) (h : K (wI (wI M a 0 1) a 1 0)) : ACv (d + 1) X5_begin [.ref a] M K := by
  refine AC.ofW (lv := [some (.ref a)]) pn_X5 (Nat.le_of_ble_eq_true rfl) (show lvLe _ [some (.ref a)] from (lvs lvz)) ?_
  intro p l e s m args below meth c G hc
  refine hb_aload_n (q := 1) hc dd_X5_begin_0 rfl rfl ?_
  refine hb_iconst (q := 2) (v := 1) hc dd_X5_begin_1 rfl ic_1 ?_
  refine hb_putZ (q := 5) hc fl_X5_15 (tp_s ha) (tp_l ha) rfl (by decide) dd_X5_begin_2 rfl ?_
  refine hb_aload_n (q := 6) hc dd_X5_begin_5 rfl rfl ?_
  refine hb_iconst (q := 7) (v := 0) hc dd_X5_begin_6 rfl ic_0 ?_
  refine hb_putI (q := 10) hc fl_X5_19 (tp_s ha) (tp_l ha) rfl dd_X5_begin_7 rfl ?_
  exact hb_vret hc rfl dd_X5_begin_10 h
theorem w_X5_vanish {d : Nat} {M : Mm} {a : Nat} {K : Mm → Prop} (ha : isTp a) (h : K (wI (wI M a 0 0) a 1 0)) : ACv (d + 1) X5_vanish [.ref a] M K := by
  refine AC.ofW (lv := [some (.ref a)]) pn_X5 (Nat.le_of_ble_eq_true rfl) (show lvLe _ [some (.ref a)] from (lvs lvz)) ?_
  intro p l e s m args below meth c G hc
  refine hb_aload_n (q := 1) hc dd_X5_vanish_0 rfl rfl ?_
  refine hb_iconst (q := 2) (v := 0) hc dd_X5_vanish_1 rfl ic_0 ?_
  refine hb_putZ (q := 5) hc fl_X5_15 (tp_s ha) (tp_l ha) rfl (by decide) dd_X5_vanish_2 rfl ?_
  refine hb_aload_n (q := 6) hc dd_X5_vanish_5 rfl rfl ?_
  refine hb_iconst (q := 7) (v := 0) hc dd_X5_vanish_6 rfl ic_0 ?_
  refine hb_putI (q := 10) hc fl_X5_19 (tp_s ha) (tp_l ha) rfl dd_X5_vanish_7 rfl ?_
  exact hb_vret hc rfl dd_X5_vanish_10 h
theorem w_X5_addInFront {d : Nat} {M : Mm} {a : Nat} {v1 : Int32} {K : Mm → Prop} (ha : isTp a) (h : (12 ≤ (M.1 a 1) → (K M)) ∧ (¬ 12 ≤ (M.1 a 1) → (¬ (M.1 a 1) < 0 ∧ 0 + (M.1 a 1).toNatClampNeg ≤ 12 ∧ 1 + (M.1 a 1).toNatClampNeg ≤ 12 ∧ (K (wI (wI (cpI M (a + 1) 0 (a + 1) 1 ((M.1 a 1).toNatClampNeg)) (a + 1) 0 v1) a 1 (((wI (cpI M (a + 1) 0 (a + 1) 1 ((M.1 a 1).toNatClampNeg)) (a + 1) 0 v1).1 a 1) + 1)))))) : ACv (d + 1) X5_addInFront [.ref a, .int v1] M K := by
  refine AC.ofW (lv := [some (.ref a), some (.int v1)]) pn_X5 (Nat.le_of_ble_eq_true rfl) (show lvLe _ [some (.ref a), some (.int v1)] from (lvs (lvs lvz))) ?_
  intro p l e s m args below meth c G hc
  refine hb_aload_n (q := 1) hc dd_X5_addInFront_0 rfl rfl ?_
  refine hb_getI (q := 4) (v := M.1 a 1) hc fl_X5_19 (tp_s ha) (tp_l ha) rfl rfl dd_X5_addInFront_1 rfl ?_
  refine hb_bipush (q := 6) (v := 12) hc dd_X5_addInFront_4 rfl bp_12 ?_
  refine hb_icmp_ge (q := 9) (tg := 43) hc dd_X5_addInFront_6 rfl (by decide) (fun z => ?_) (fun z => ?_)
  · replace h := h.1 z
    exact hb_vret hc rfl dd_X5_addInFront_43 h
  · replace h := h.2 z
    refine hb_aload_n (q := 10) hc dd_X5_addInFront_9 rfl rfl ?_
    refine hb_getR (q := 13) hc fl_X5_9 (tp_s ha) (tp_l ha) rfl dd_X5_addInFront_10 rfl ?_
    refine hb_iconst (q := 14) (v := 0) hc dd_X5_addInFront_13 rfl ic_0 ?_
    refine hb_aload_n (q := 15) hc dd_X5_addInFront_14 rfl rfl ?_
    refine hb_getR (q := 18) hc fl_X5_9 (tp_s ha) (tp_l ha) rfl dd_X5_addInFront_15 rfl ?_
    refine hb_iconst (q := 19) (v := 1) hc dd_X5_addInFront_18 rfl ic_1 ?_
    refine hb_aload_n (q := 20) hc dd_X5_addInFront_19 rfl rfl ?_
    refine hb_getI (q := 23) (v := M.1 a 1) hc fl_X5_19 (tp_s ha) (tp_l ha) rfl rfl dd_X5_addInFront_20 rfl ?_
    obtain ⟨hn1, h⟩ := h
    obtain ⟨hn2, h⟩ := h
    obtain ⟨hn3, h⟩ := h
    refine hb_copyI (q := 26) (k1 := 0) (k2 := 1) (k3 := (M.1 a 1).toNatClampNeg) (st := []) hc mv_X5_23 (tp_s1 ha) (tp_l1 ha) (tp_s1 ha) (tp_l1 ha) ng_0 ng_1 hn1 cl_0 cl_1 rfl hn2 hn3 (Nat.le_add_left 1 d) (rm_lo (Nat.le_of_ble_eq_true rfl)) dd_X5_addInFront_23 rfl ?_
    refine hb_aload_n (q := 27) hc dd_X5_addInFront_26 rfl rfl ?_
    refine hb_getR (q := 30) hc fl_X5_9 (tp_s ha) (tp_l ha) rfl dd_X5_addInFront_27 rfl ?_
    refine hb_iconst (q := 31) (v := 0) hc dd_X5_addInFront_30 rfl ic_0 ?_
    refine hb_iload_n (q := 32) hc dd_X5_addInFront_31 rfl rfl ?_
    refine hb_iast (q := 33) (k := 0) hc (tp_s1 ha) (tp_l1 ha) vl_0_12 cl_0 dd_X5_addInFront_32 rfl ?_
    refine hb_aload_n (q := 34) hc dd_X5_addInFront_33 rfl rfl ?_
    refine hb_dup (q := 35) hc dd_X5_addInFront_34 rfl rfl ?_
    refine hb_getI (q := 38) (v := (wI (cpI M (a + 1) 0 (a + 1) 1 ((M.1 a 1).toNatClampNeg)) (a + 1) 0 v1).1 a 1) hc fl_X5_19 (tp_s ha) (tp_l ha) rfl rfl dd_X5_addInFront_35 rfl ?_
    refine hb_iconst (q := 39) (v := 1) hc dd_X5_addInFront_38 rfl ic_1 ?_
    refine hb_iadd (q := 40) hc dd_X5_addInFront_39 rfl ?_
    refine hb_putI (q := 43) hc fl_X5_19 (tp_s ha) (tp_l ha) rfl dd_X5_addInFront_40 rfl ?_
    exact hb_vret hc rfl dd_X5_addInFront_43 h
theorem w_X5_addBehind {d : Nat} {M : Mm} {a : Nat} {v1 : Int32} {K : Mm → Prop} (ha : isTp a) (h : (12 ≤ (M.1 a 1) → (K M)) ∧ (¬ 12 ≤ (M.1 a 1) → (vp_in (M.1 a 1) 12 ∧ (K (wI (wI M (a + 1) ((M.1 a 1).toNatClampNeg) v1) a 1 (((wI M (a + 1) ((M.1 a 1).toNatClampNeg) v1).1 a 1) + 1)))))) : ACv (d + 1) X5_addBehind [.ref a, .int v1] M K := by
  refine AC.ofW (lv := [some (.ref a), some (.int v1)]) pn_X5 (Nat.le_of_ble_eq_true rfl) (show lvLe _ [some (.ref a), some (.int v1)] from (lvs (lvs lvz))) ?_
  intro p l e s m args below meth c G hc
  refine hb_aload_n (q := 1) hc dd_X5_addBehind_0 rfl rfl ?_
  refine hb_getI (q := 4) (v := M.1 a 1) hc fl_X5_19 (tp_s ha) (tp_l ha) rfl rfl dd_X5_addBehind_1 rfl ?_
  refine hb_bipush (q := 6) (v := 12) hc dd_X5_addBehind_4 rfl bp_12 ?_
  refine hb_icmp_ge (q := 9) (tg := 29) hc dd_X5_addBehind_6 rfl (by decide) (fun z => ?_) (fun z => ?_)
  · replace h := h.1 z
    exact hb_vret hc rfl dd_X5_addBehind_29 h
  · replace h := h.2 z
    refine hb_aload_n (q := 10) hc dd_X5_addBehind_9 rfl rfl ?_
    refine hb_getR (q := 13) hc fl_X5_9 (tp_s ha) (tp_l ha) rfl dd_X5_addBehind_10 rfl ?_
    refine hb_aload_n (q := 14) hc dd_X5_addBehind_13 rfl rfl ?_
    refine hb_getI (q := 17) (v := M.1 a 1) hc fl_X5_19 (tp_s ha) (tp_l ha) rfl rfl dd_X5_addBehind_14 rfl ?_
    refine hb_iload_n (q := 18) hc dd_X5_addBehind_17 rfl rfl ?_
    obtain ⟨hi, h⟩ := h
    refine hb_iast (q := 19) hc (tp_s1 ha) (tp_l1 ha) hi rfl dd_X5_addBehind_18 rfl ?_
    refine hb_aload_n (q := 20) hc dd_X5_addBehind_19 rfl rfl ?_
    refine hb_dup (q := 21) hc dd_X5_addBehind_20 rfl rfl ?_
    refine hb_getI (q := 24) (v := (wI M (a + 1) ((M.1 a 1).toNatClampNeg) v1).1 a 1) hc fl_X5_19 (tp_s ha) (tp_l ha) rfl rfl dd_X5_addBehind_21 rfl ?_
    refine hb_iconst (q := 25) (v := 1) hc dd_X5_addBehind_24 rfl ic_1 ?_
    refine hb_iadd (q := 26) hc dd_X5_addBehind_25 rfl ?_
    refine hb_putI (q := 29) hc fl_X5_19 (tp_s ha) (tp_l ha) rfl dd_X5_addBehind_26 rfl ?_
    exact hb_vret hc rfl dd_X5_addBehind_29 h
theorem w_X5_takeFirst {d : Nat} {M : Mm} {a : Nat} {K : Int32 → Mm → Prop} (ha : isTp a) (h : ((M.1 a 1) ≤ 0 → (K (M.1 (a + 1) 0) M)) ∧ (¬ (M.1 a 1) ≤ 0 → (¬ ((M.1 a 1) - 1) < 0 ∧ 1 + ((M.1 a 1) - 1).toNatClampNeg ≤ 12 ∧ 0 + ((M.1 a 1) - 1).toNatClampNeg ≤ 12 ∧ (K (M.1 (a + 1) 0) (cpI (wI M a 1 ((M.1 a 1) - 1)) (a + 1) 1 (a + 1) 0 (((M.1 a 1) - 1).toNatClampNeg)))))) : ACi (d + 1) X5_takeFirst [.ref a] M K := by
  refine AC.ofW (lv := [some (.ref a), none]) pn_X5 (Nat.le_of_ble_eq_true rfl) (show lvLe _ [some (.ref a)] from (lvs (lve lvz))) ?_
  intro p l e s m args below meth c G hc
  refine hb_aload_n (q := 1) hc dd_X5_takeFirst_0 rfl rfl ?_
  refine hb_getR (q := 4) hc fl_X5_9 (tp_s ha) (tp_l ha) rfl dd_X5_takeFirst_1 rfl ?_
  refine hb_iconst (q := 5) (v := 0) hc dd_X5_takeFirst_4 rfl ic_0 ?_
  refine hb_iald (q := 6) (k := 0) (v := M.1 (a + 1) 0) hc (tp_s1 ha) (tp_l1 ha) vl_0_12 cl_0 rfl dd_X5_takeFirst_5 rfl ?_
  refine hb_istore_n (q := 7) (lv' := [some (.ref a), some (.int (M.1 (a + 1) 0))]) hc dd_X5_takeFirst_6 rfl (Nat.le_of_ble_eq_true rfl) rfl ?_
  refine hb_aload_n (q := 8) hc dd_X5_takeFirst_7 rfl rfl ?_
  refine hb_getI (q := 11) (v := M.1 a 1) hc fl_X5_19 (tp_s ha) (tp_l ha) rfl rfl dd_X5_takeFirst_8 rfl ?_
  refine hb_if_le (q := 14) (tg := 41) hc dd_X5_takeFirst_11 rfl (by decide) (fun z => ?_) (fun z => ?_)
  · replace h := h.1 z
    refine hb_iload_n (q := 42) hc dd_X5_takeFirst_41 rfl rfl ?_
    exact hb_iret hc rfl dd_X5_takeFirst_42 h
  · replace h := h.2 z
    refine hb_aload_n (q := 15) hc dd_X5_takeFirst_14 rfl rfl ?_
    refine hb_dup (q := 16) hc dd_X5_takeFirst_15 rfl rfl ?_
    refine hb_getI (q := 19) (v := M.1 a 1) hc fl_X5_19 (tp_s ha) (tp_l ha) rfl rfl dd_X5_takeFirst_16 rfl ?_
    refine hb_iconst (q := 20) (v := 1) hc dd_X5_takeFirst_19 rfl ic_1 ?_
    refine hb_isub (q := 21) hc dd_X5_takeFirst_20 rfl ?_
    refine hb_putI (q := 24) hc fl_X5_19 (tp_s ha) (tp_l ha) rfl dd_X5_takeFirst_21 rfl ?_
    refine hb_aload_n (q := 25) hc dd_X5_takeFirst_24 rfl rfl ?_
    refine hb_getR (q := 28) hc fl_X5_9 (tp_s ha) (tp_l ha) rfl dd_X5_takeFirst_25 rfl ?_
    refine hb_iconst (q := 29) (v := 1) hc dd_X5_takeFirst_28 rfl ic_1 ?_
    refine hb_aload_n (q := 30) hc dd_X5_takeFirst_29 rfl rfl ?_
    refine hb_getR (q := 33) hc fl_X5_9 (tp_s ha) (tp_l ha) rfl dd_X5_takeFirst_30 rfl ?_
    refine hb_iconst (q := 34) (v := 0) hc dd_X5_takeFirst_33 rfl ic_0 ?_
    refine hb_aload_n (q := 35) hc dd_X5_takeFirst_34 rfl rfl ?_
    refine hb_getI (q := 38) (v := (M.1 a 1) - 1) hc fl_X5_19 (tp_s ha) (tp_l ha) rfl (by simp [wI, wL, cpI, cpL]) dd_X5_takeFirst_35 rfl ?_
    obtain ⟨hn1, h⟩ := h
    obtain ⟨hn2, h⟩ := h
    obtain ⟨hn3, h⟩ := h
    refine hb_copyI (q := 41) (k1 := 1) (k2 := 0) (k3 := ((M.1 a 1) - 1).toNatClampNeg) (st := []) hc mv_X5_23 (tp_s1 ha) (tp_l1 ha) (tp_s1 ha) (tp_l1 ha) ng_1 ng_0 hn1 cl_1 cl_0 rfl hn2 hn3 (Nat.le_add_left 1 d) (rm_lo (Nat.le_of_ble_eq_true rfl)) dd_X5_takeFirst_38 rfl ?_
    refine hb_iload_n (q := 42) hc dd_X5_takeFirst_41 rfl rfl ?_
    exact hb_iret hc rfl dd_X5_takeFirst_42 h
theorem w_X5_takeLast {d : Nat} {M : Mm} {a : Nat} {K : Int32 → Mm → Prop} (ha : isTp a) (h : ((M.1 a 1) ≤ 0 → (vp_in (M.1 a 1) 12 ∧ (K (M.1 (a + 1) ((M.1 a 1).toNatClampNeg)) M))) ∧ (¬ (M.1 a 1) ≤ 0 → (vp_in ((M.1 a 1) - 1) 12 ∧ (K ((wI M a 1 ((M.1 a 1) - 1)).1 (a + 1) (((M.1 a 1) - 1).toNatClampNeg)) (wI M a 1 ((M.1 a 1) - 1)))))) : ACi (d + 1) X5_takeLast [.ref a] M K := by
  refine AC.ofW (lv := [some (.ref a)]) pn_X5 (Nat.le_of_ble_eq_true rfl) (show lvLe _ [some (.ref a)] from (lvs lvz)) ?_
  intro p l e s m args below meth c G hc
  refine hb_aload_n (q := 1) hc dd_X5_takeLast_0 rfl rfl ?_
  refine hb_getI (q := 4) (v := M.1 a 1) hc fl_X5_19 (tp_s ha) (tp_l ha) rfl rfl dd_X5_takeLast_1 rfl ?_
  refine hb_if_le (q := 7) (tg := 17) hc dd_X5_takeLast_4 rfl (by decide) (fun z => ?_) (fun z => ?_)
  · replace h := h.1 z
    refine hb_aload_n (q := 18) hc dd_X5_takeLast_17 rfl rfl ?_
    refine hb_getR (q := 21) hc fl_X5_9 (tp_s ha) (tp_l ha) rfl dd_X5_takeLast_18 rfl ?_
    refine hb_aload_n (q := 22) hc dd_X5_takeLast_21 rfl rfl ?_
    refine hb_getI (q := 25) (v := M.1 a 1) hc fl_X5_19 (tp_s ha) (tp_l ha) rfl rfl dd_X5_takeLast_22 rfl ?_
    obtain ⟨hi, h⟩ := h
    refine hb_iald (q := 26) (v := M.1 (a + 1) ((M.1 a 1).toNatClampNeg)) hc (tp_s1 ha) (tp_l1 ha) hi rfl rfl dd_X5_takeLast_25 rfl ?_
    exact hb_iret hc rfl dd_X5_takeLast_26 h
  · replace h := h.2 z
    refine hb_aload_n (q := 8) hc dd_X5_takeLast_7 rfl rfl ?_
    refine hb_dup (q := 9) hc dd_X5_takeLast_8 rfl rfl ?_
    refine hb_getI (q := 12) (v := M.1 a 1) hc fl_X5_19 (tp_s ha) (tp_l ha) rfl rfl dd_X5_takeLast_9 rfl ?_
    refine hb_iconst (q := 13) (v := 1) hc dd_X5_takeLast_12 rfl ic_1 ?_
    refine hb_isub (q := 14) hc dd_X5_takeLast_13 rfl ?_
    refine hb_putI (q := 17) hc fl_X5_19 (tp_s ha) (tp_l ha) rfl dd_X5_takeLast_14 rfl ?_
    refine hb_aload_n (q := 18) hc dd_X5_takeLast_17 rfl rfl ?_
    refine hb_getR (q := 21) hc fl_X5_9 (tp_s ha) (tp_l ha) rfl dd_X5_takeLast_18 rfl ?_
    refine hb_aload_n (q := 22) hc dd_X5_takeLast_21 rfl rfl ?_
    refine hb_getI (q := 25) (v := (M.1 a 1) - 1) hc fl_X5_19 (tp_s ha) (tp_l ha) rfl (by simp [wI, wL, cpI, cpL]) dd_X5_takeLast_22 rfl ?_
    obtain ⟨hi, h⟩ := h
    refine hb_iald (q := 26) (v := (wI M a 1 ((M.1 a 1) - 1)).1 (a + 1) (((M.1 a 1) - 1).toNatClampNeg)) hc (tp_s1 ha) (tp_l1 ha) hi rfl rfl dd_X5_takeLast_25 rfl ?_
    exact hb_iret hc rfl dd_X5_takeLast_26 h
def lp_X5_greatest_9 (d : Nat) (M : Mm) (v0 : Nat) (v1 : Int32) (v2 : Int32) (K : Int32 → Mm → Prop) : Prop := AW (d + 1) X5_greatest M 9 [some (.ref v0), some (.int v1), some (.int v2)] [] (QI K)
theorem z_X5_greatest_9 {d : Nat} {M : Mm} {v0 : Nat} {v1 : Int32} {v2 : Int32} {K : Int32 → Mm → Prop} (hv0 : isTp v0) (h : ((M.1 v0 1) ≤ v2 → (K v1 M)) ∧ (¬ (M.1 v0 1) ≤ v2 → (vp_in v2 12 ∧ (lp_X5_greatest_9 d M v0 (if v1 < (M.1 (v0 + 1) v2.toNatClampNeg) then (M.1 (v0 + 1) v2.toNatClampNeg) else v1) (v2 + 1) K)))) : lp_X5_greatest_9 d M v0 v1 v2 K := by
  intro p l e s m args below meth c G hc
  refine hb_iload_n (q := 10) hc dd_X5_greatest_9 rfl rfl ?_
  refine hb_aload_n (q := 11) hc dd_X5_greatest_10 rfl rfl ?_
  refine hb_getI (q := 14) (v := M.1 v0 1) hc fl_X5_19 (tp_s hv0) (tp_l hv0) rfl rfl dd_X5_greatest_11 rfl ?_
  refine hb_icmp_ge (q := 17) (tg := 34) hc dd_X5_greatest_14 rfl (by decide) (fun z => ?_) (fun z => ?_)
  · replace h := h.1 z
    refine hb_iload_n (q := 35) hc dd_X5_greatest_34 rfl rfl ?_
    exact hb_iret hc rfl dd_X5_greatest_35 h
  · replace h := h.2 z
    refine hb_iload_n (q := 18) hc dd_X5_greatest_17 rfl rfl ?_
    refine hb_aload_n (q := 19) hc dd_X5_greatest_18 rfl rfl ?_
    refine hb_getR (q := 22) hc fl_X5_9 (tp_s hv0) (tp_l hv0) rfl dd_X5_greatest_19 rfl ?_
    refine hb_iload_n (q := 23) hc dd_X5_greatest_22 rfl rfl ?_
    obtain ⟨hi, h⟩ := h
    refine hb_iald (q := 24) (v := M.1 (v0 + 1) v2.toNatClampNeg) hc (tp_s1 hv0) (tp_l1 hv0) hi rfl rfl dd_X5_greatest_23 rfl ?_
    refine hb_mmax (q := 27) (st := []) hc mv_X5_29 (Nat.le_add_left 1 d) (rm_lo (Nat.le_of_ble_eq_true rfl)) ⟨Nat.le_refl _, Nat.le_refl _⟩ dd_X5_greatest_24 rfl ?_
    refine hb_istore_n (q := 28) (lv' := [some (.ref v0), some (.int (if v1 < (M.1 (v0 + 1) v2.toNatClampNeg) then (M.1 (v0 + 1) v2.toNatClampNeg) else v1)), some (.int v2)]) hc dd_X5_greatest_27 rfl (Nat.le_of_ble_eq_true rfl) rfl ?_
    refine hb_iinc (q := 31) (v := v2 + 1) (lv' := [some (.ref v0), some (.int (if v1 < (M.1 (v0 + 1) v2.toNatClampNeg) then (M.1 (v0 + 1) v2.toNatClampNeg) else v1)), some (.int (v2 + 1))]) hc dd_X5_greatest_28 rfl rfl rfl (Nat.le_of_ble_eq_true rfl) rfl ?_
    refine hb_goto (tg := 9) hc dd_X5_greatest_31 (by decide) ?_
    exact hb_weak (lvs (lvs (lvs lvz))) (h p l e s m args below meth c G hc)
theorem w_X5_greatest {d : Nat} {M : Mm} {a : Nat} {K : Int32 → Mm → Prop} (ha : isTp a) (h : lp_X5_greatest_9 d M a (M.1 (a + 1) 0) 1 K) : ACi (d + 1) X5_greatest [.ref a] M K := by
  refine AC.ofW (lv := [some (.ref a), none, none]) pn_X5 (Nat.le_of_ble_eq_true rfl) (show lvLe _ [some (.ref a)] from (lvs (lve (lve lvz)))) ?_
  intro p l e s m args below meth c G hc
  refine hb_aload_n (q := 1) hc dd_X5_greatest_0 rfl rfl ?_
  refine hb_getR (q := 4) hc fl_X5_9 (tp_s ha) (tp_l ha) rfl dd_X5_greatest_1 rfl ?_
  refine hb_iconst (q := 5) (v := 0) hc dd_X5_greatest_4 rfl ic_0 ?_
  refine hb_iald (q := 6) (k := 0) (v := M.1 (a + 1) 0) hc (tp_s1 ha) (tp_l1 ha) vl_0_12 cl_0 rfl dd_X5_greatest_5 rfl ?_
  refine hb_istore_n (q := 7) (lv' := [some (.ref a), some (.int (M.1 (a + 1) 0)), none]) hc dd_X5_greatest_6 rfl (Nat.le_of_ble_eq_true rfl) rfl ?_
  refine hb_iconst (q := 8) (v := 1) hc dd_X5_greatest_7 rfl ic_1 ?_
  refine hb_istore_n (q := 9) (lv' := [some (.ref a), some (.int (M.1 (a + 1) 0)), some (.int 1)]) hc dd_X5_greatest_8 rfl (Nat.le_of_ble_eq_true rfl) rfl ?_
  exact hb_weak (lvs (lvs (lvs lvz))) (h p l e s m args below meth c G hc)
def lp_X5_least_9 (d : Nat) (M : Mm) (v0 : Nat) (v1 : Int32) (v2 : Int32) (K : Int32 → Mm → Prop) : Prop := AW (d + 1) X5_least M 9 [some (.ref v0), some (.int v1), some (.int v2)] [] (QI K)
theorem z_X5_least_9 {d : Nat} {M : Mm} {v0 : Nat} {v1 : Int32} {v2 : Int32} {K : Int32 → Mm → Prop} (hv0 : isTp v0) (h : ((M.1 v0 1) ≤ v2 → (K v1 M)) ∧ (¬ (M.1 v0 1) ≤ v2 → (vp_in v2 12 ∧ (lp_X5_least_9 d M v0 (if (M.1 (v0 + 1) v2.toNatClampNeg) < v1 then (M.1 (v0 + 1) v2.toNatClampNeg) else v1) (v2 + 1) K)))) : lp_X5_least_9 d M v0 v1 v2 K := by
  intro p l e s m args below meth c G hc
  refine hb_iload_n (q := 10) hc dd_X5_least_9 rfl rfl ?_
  refine hb_aload_n (q := 11) hc dd_X5_least_10 rfl rfl ?_
  refine hb_getI (q := 14) (v := M.1 v0 1) hc fl_X5_19 (tp_s hv0) (tp_l hv0) rfl rfl dd_X5_least_11 rfl ?_
  refine hb_icmp_ge (q := 17) (tg := 34) hc dd_X5_least_14 rfl (by decide) (fun z => ?_) (fun z => ?_)
  · replace h := h.1 z
    refine hb_iload_n (q := 35) hc dd_X5_least_34 rfl rfl ?_
    exact hb_iret hc rfl dd_X5_least_35 h
  · replace h := h.2 z
    refine hb_iload_n (q := 18) hc dd_X5_least_17 rfl rfl ?_
    refine hb_aload_n (q := 19) hc dd_X5_least_18 rfl rfl ?_
    refine hb_getR (q := 22) hc fl_X5_9 (tp_s hv0) (tp_l hv0) rfl dd_X5_least_19 rfl ?_
    refine hb_iload_n (q := 23) hc dd_X5_least_22 rfl rfl ?_
    obtain ⟨hi, h⟩ := h
    refine hb_iald (q := 24) (v := M.1 (v0 + 1) v2.toNatClampNeg) hc (tp_s1 hv0) (tp_l1 hv0) hi rfl rfl dd_X5_least_23 rfl ?_
    refine hb_mmin (q := 27) (st := []) hc mv_X5_35 (Nat.le_add_left 1 d) (rm_lo (Nat.le_of_ble_eq_true rfl)) ⟨Nat.le_refl _, Nat.le_refl _⟩ dd_X5_least_24 rfl ?_
    refine hb_istore_n (q := 28) (lv' := [some (.ref v0), some (.int (if (M.1 (v0 + 1) v2.toNatClampNeg) < v1 then (M.1 (v0 + 1) v2.toNatClampNeg) else v1)), some (.int v2)]) hc dd_X5_least_27 rfl (Nat.le_of_ble_eq_true rfl) rfl ?_
    refine hb_iinc (q := 31) (v := v2 + 1) (lv' := [some (.ref v0), some (.int (if (M.1 (v0 + 1) v2.toNatClampNeg) < v1 then (M.1 (v0 + 1) v2.toNatClampNeg) else v1)), some (.int (v2 + 1))]) hc dd_X5_least_28 rfl rfl rfl (Nat.le_of_ble_eq_true rfl) rfl ?_
    refine hb_goto (tg := 9) hc dd_X5_least_31 (by decide) ?_
    exact hb_weak (lvs (lvs (lvs lvz))) (h p l e s m args below meth c G hc)
theorem w_X5_least {d : Nat} {M : Mm} {a : Nat} {K : Int32 → Mm → Prop} (ha : isTp a) (h : lp_X5_least_9 d M a (M.1 (a + 1) 0) 1 K) : ACi (d + 1) X5_least [.ref a] M K := by
  refine AC.ofW (lv := [some (.ref a), none, none]) pn_X5 (Nat.le_of_ble_eq_true rfl) (show lvLe _ [some (.ref a)] from (lvs (lve (lve lvz)))) ?_
  intro p l e s m args below meth c G hc
  refine hb_aload_n (q := 1) hc dd_X5_least_0 rfl rfl ?_
  refine hb_getR (q := 4) hc fl_X5_9 (tp_s ha) (tp_l ha) rfl dd_X5_least_1 rfl ?_
  refine hb_iconst (q := 5) (v := 0) hc dd_X5_least_4 rfl ic_0 ?_
  refine hb_iald (q := 6) (k := 0) (v := M.1 (a + 1) 0) hc (tp_s1 ha) (tp_l1 ha) vl_0_12 cl_0 rfl dd_X5_least_5 rfl ?_
  refine hb_istore_n (q := 7) (lv' := [some (.ref a), some (.int (M.1 (a + 1) 0)), none]) hc dd_X5_least_6 rfl (Nat.le_of_ble_eq_true rfl) rfl ?_
  refine hb_iconst (q := 8) (v := 1) hc dd_X5_least_7 rfl ic_1 ?_
  refine hb_istore_n (q := 9) (lv' := [some (.ref a), some (.int (M.1 (a + 1) 0)), some (.int 1)]) hc dd_X5_least_8 rfl (Nat.le_of_ble_eq_true rfl) rfl ?_
  exact hb_weak (lvs (lvs (lvs lvz))) (h p l e s m args below meth c G hc)
def lp_X5_howMany_4 (d : Nat) (M : Mm) (v0 : Nat) (v1 : Int32) (v2 : Int32) (v3 : Int32) (K : Int32 → Mm → Prop) : Prop := AW (d + 1) X5_howMany M 4 [some (.ref v0), some (.int v1), some (.int v2), some (.int v3)] [] (QI K)
theorem z_X5_howMany_4 {d : Nat} {M : Mm} {v0 : Nat} {v1 : Int32} {v2 : Int32} {v3 : Int32} {K : Int32 → Mm → Prop} (hv0 : isTp v0) (h : ((M.1 v0 1) ≤ v3 → (K v2 M)) ∧ (¬ (M.1 v0 1) ≤ v3 → (vp_in v3 12 ∧ ((¬ (M.1 (v0 + 1) v3.toNatClampNeg) = v1 → (lp_X5_howMany_4 d M v0 v1 v2 (v3 + 1) K)) ∧ ((M.1 (v0 + 1) v3.toNatClampNeg) = v1 → (lp_X5_howMany_4 d M v0 v1 (v2 + 1) (v3 + 1) K)))))) : lp_X5_howMany_4 d M v0 v1 v2 v3 K := by
  intro p l e s m args below meth c G hc
  refine hb_iload_n (q := 5) hc dd_X5_howMany_4 rfl rfl ?_
  refine hb_aload_n (q := 6) hc dd_X5_howMany_5 rfl rfl ?_
  refine hb_getI (q := 9) (v := M.1 v0 1) hc fl_X5_19 (tp_s hv0) (tp_l hv0) rfl rfl dd_X5_howMany_6 rfl ?_
  refine hb_icmp_ge (q := 12) (tg := 31) hc dd_X5_howMany_9 rfl (by decide) (fun z => ?_) (fun z => ?_)
  · replace h := h.1 z
    refine hb_iload_n (q := 32) hc dd_X5_howMany_31 rfl rfl ?_
    exact hb_iret hc rfl dd_X5_howMany_32 h
  · replace h := h.2 z
    refine hb_aload_n (q := 13) hc dd_X5_howMany_12 rfl rfl ?_
    refine hb_getR (q := 16) hc fl_X5_9 (tp_s hv0) (tp_l hv0) rfl dd_X5_howMany_13 rfl ?_
    refine hb_iload_n (q := 17) hc dd_X5_howMany_16 rfl rfl ?_
    obtain ⟨hi, h⟩ := h
    refine hb_iald (q := 18) (v := M.1 (v0 + 1) v3.toNatClampNeg) hc (tp_s1 hv0) (tp_l1 hv0) hi rfl rfl dd_X5_howMany_17 rfl ?_
    refine hb_iload_n (q := 19) hc dd_X5_howMany_18 rfl rfl ?_
    refine hb_icmp_ne (q := 22) (tg := 25) hc dd_X5_howMany_19 rfl (by decide) (fun z => ?_) (fun z => ?_)
    · replace h := h.1 z
      refine hb_iinc (q := 28) (v := v3 + 1) (lv' := [some (.ref v0), some (.int v1), some (.int v2), some (.int (v3 + 1))]) hc dd_X5_howMany_25 rfl rfl rfl (Nat.le_of_ble_eq_true rfl) rfl ?_
      refine hb_goto (tg := 4) hc dd_X5_howMany_28 (by decide) ?_
      exact hb_weak (lvs (lvs (lvs (lvs lvz)))) (h p l e s m args below meth c G hc)
    · replace h := h.2 z
      refine hb_iinc (q := 25) (v := v2 + 1) (lv' := [some (.ref v0), some (.int v1), some (.int (v2 + 1)), some (.int v3)]) hc dd_X5_howMany_22 rfl rfl rfl (Nat.le_of_ble_eq_true rfl) rfl ?_
      refine hb_iinc (q := 28) (v := v3 + 1) (lv' := [some (.ref v0), some (.int v1), some (.int (v2 + 1)), some (.int (v3 + 1))]) hc dd_X5_howMany_25 rfl rfl rfl (Nat.le_of_ble_eq_true rfl) rfl ?_
      refine hb_goto (tg := 4) hc dd_X5_howMany_28 (by decide) ?_
      exact hb_weak (lvs (lvs (lvs (lvs lvz)))) (h p l e s m args below meth c G hc)
theorem w_X5_howMany {d : Nat} {M : Mm} {a : Nat} {v1 : Int32} {K : Int32 → Mm → Prop} (ha : isTp a) (h : lp_X5_howMany_4 d M a v1 0 0 K) : ACi (d + 1) X5_howMany [.ref a, .int v1] M K := by
  refine AC.ofW (lv := [some (.ref a), some (.int v1), none, none]) pn_X5 (Nat.le_of_ble_eq_true rfl) (show lvLe _ [some (.ref a), some (.int v1)] from (lvs (lvs (lve (lve lvz))))) ?_
  intro p l e s m args below meth c G hc
  refine hb_iconst (q := 1) (v := 0) hc dd_X5_howMany_0 rfl ic_0 ?_
  refine hb_istore_n (q := 2) (lv' := [some (.ref a), some (.int v1), some (.int 0), none]) hc dd_X5_howMany_1 rfl (Nat.le_of_ble_eq_true rfl) rfl ?_
  refine hb_iconst (q := 3) (v := 0) hc dd_X5_howMany_2 rfl ic_0 ?_
  refine hb_istore_n (q := 4) (lv' := [some (.ref a), some (.int v1), some (.int 0), some (.int 0)]) hc dd_X5_howMany_3 rfl (Nat.le_of_ble_eq_true rfl) rfl ?_
  exact hb_weak (lvs (lvs (lvs (lvs lvz)))) (h p l e s m args below meth c G hc)
def lp_X5_removeAll_12 (d : Nat) (M : Mm) (v0 : Nat) (v1 : Int32) (v2 : Int32) (v3 : Int32) (K : Int32 → Mm → Prop) : Prop := AW (d + 1) X5_removeAll M 12 [some (.ref v0), some (.int v1), some (.int v2), some (.int v3)] [] (QI K)
theorem z_X5_removeAll_12 {d : Nat} {M : Mm} {v0 : Nat} {v1 : Int32} {v2 : Int32} {v3 : Int32} {K : Int32 → Mm → Prop} (hv0 : isTp v0) (h : (v2 ≤ v3 → (K (v2 - (M.1 v0 1)) M)) ∧ (¬ v2 ≤ v3 → (vp_in v3 12 ∧ (((M.1 (v0 + 1) v3.toNatClampNeg) = v1 → (lp_X5_removeAll_12 d M v0 v1 v2 (v3 + 1) K)) ∧ (¬ (M.1 (v0 + 1) v3.toNatClampNeg) = v1 → (vp_in v3 12 ∧ (vp_in (M.1 v0 1) 12 ∧ (lp_X5_removeAll_12 d (wI (wI M (v0 + 1) ((M.1 v0 1).toNatClampNeg) (M.1 (v0 + 1) v3.toNatClampNeg)) v0 1 (((wI M (v0 + 1) ((M.1 v0 1).toNatClampNeg) (M.1 (v0 + 1) v3.toNatClampNeg)).1 v0 1) + 1)) v0 v1 v2 (v3 + 1) K)))))))) : lp_X5_removeAll_12 d M v0 v1 v2 v3 K := by
  intro p l e s m args below meth c G hc
  refine hb_iload_n (q := 13) hc dd_X5_removeAll_12 rfl rfl ?_
  refine hb_iload_n (q := 14) hc dd_X5_removeAll_13 rfl rfl ?_
  refine hb_icmp_ge (q := 17) (tg := 58) hc dd_X5_removeAll_14 rfl (by decide) (fun z => ?_) (fun z => ?_)
  · replace h := h.1 z
    refine hb_iload_n (q := 59) hc dd_X5_removeAll_58 rfl rfl ?_
    refine hb_aload_n (q := 60) hc dd_X5_removeAll_59 rfl rfl ?_
    refine hb_getI (q := 63) (v := M.1 v0 1) hc fl_X5_19 (tp_s hv0) (tp_l hv0) rfl rfl dd_X5_removeAll_60 rfl ?_
    refine hb_isub (q := 64) hc dd_X5_removeAll_63 rfl ?_
    exact hb_iret hc rfl dd_X5_removeAll_64 h
  · replace h := h.2 z
    refine hb_aload_n (q := 18) hc dd_X5_removeAll_17 rfl rfl ?_
    refine hb_getR (q := 21) hc fl_X5_9 (tp_s hv0) (tp_l hv0) rfl dd_X5_removeAll_18 rfl ?_
    refine hb_iload_n (q := 22) hc dd_X5_removeAll_21 rfl rfl ?_
    obtain ⟨hi, h⟩ := h
    refine hb_iald (q := 23) (v := M.1 (v0 + 1) v3.toNatClampNeg) hc (tp_s1 hv0) (tp_l1 hv0) hi rfl rfl dd_X5_removeAll_22 rfl ?_
    refine hb_iload_n (q := 24) hc dd_X5_removeAll_23 rfl rfl ?_
    refine hb_icmp_eq (q := 27) (tg := 52) hc dd_X5_removeAll_24 rfl (by decide) (fun z => ?_) (fun z => ?_)
    · replace h := h.1 z
      refine hb_iinc (q := 55) (v := v3 + 1) (lv' := [some (.ref v0), some (.int v1), some (.int v2), some (.int (v3 + 1))]) hc dd_X5_removeAll_52 rfl rfl rfl (Nat.le_of_ble_eq_true rfl) rfl ?_
      refine hb_goto (tg := 12) hc dd_X5_removeAll_55 (by decide) ?_
      exact hb_weak (lvs (lvs (lvs (lvs lvz)))) (h p l e s m args below meth c G hc)
    · replace h := h.2 z
      refine hb_aload_n (q := 28) hc dd_X5_removeAll_27 rfl rfl ?_
      refine hb_getR (q := 31) hc fl_X5_9 (tp_s hv0) (tp_l hv0) rfl dd_X5_removeAll_28 rfl ?_
      refine hb_aload_n (q := 32) hc dd_X5_removeAll_31 rfl rfl ?_
      refine hb_getI (q := 35) (v := M.1 v0 1) hc fl_X5_19 (tp_s hv0) (tp_l hv0) rfl rfl dd_X5_removeAll_32 rfl ?_
      refine hb_aload_n (q := 36) hc dd_X5_removeAll_35 rfl rfl ?_
      refine hb_getR (q := 39) hc fl_X5_9 (tp_s hv0) (tp_l hv0) rfl dd_X5_removeAll_36 rfl ?_
      refine hb_iload_n (q := 40) hc dd_X5_removeAll_39 rfl rfl ?_
      obtain ⟨hi, h⟩ := h
      refine hb_iald (q := 41) (v := M.1 (v0 + 1) v3.toNatClampNeg) hc (tp_s1 hv0) (tp_l1 hv0) hi rfl rfl dd_X5_removeAll_40 rfl ?_
      obtain ⟨hi, h⟩ := h
      refine hb_iast (q := 42) hc (tp_s1 hv0) (tp_l1 hv0) hi rfl dd_X5_removeAll_41 rfl ?_
      refine hb_aload_n (q := 43) hc dd_X5_removeAll_42 rfl rfl ?_
      refine hb_dup (q := 44) hc dd_X5_removeAll_43 rfl rfl ?_
      refine hb_getI (q := 47) (v := (wI M (v0 + 1) ((M.1 v0 1).toNatClampNeg) (M.1 (v0 + 1) v3.toNatClampNeg)).1 v0 1) hc fl_X5_19 (tp_s hv0) (tp_l hv0) rfl rfl dd_X5_removeAll_44 rfl ?_
      refine hb_iconst (q := 48) (v := 1) hc dd_X5_removeAll_47 rfl ic_1 ?_
      refine hb_iadd (q := 49) hc dd_X5_removeAll_48 rfl ?_
      refine hb_putI (q := 52) hc fl_X5_19 (tp_s hv0) (tp_l hv0) rfl dd_X5_removeAll_49 rfl ?_
      refine hb_iinc (q := 55) (v := v3 + 1) (lv' := [some (.ref v0), some (.int v1), some (.int v2), some (.int (v3 + 1))]) hc dd_X5_removeAll_52 rfl rfl rfl (Nat.le_of_ble_eq_true rfl) rfl ?_
      refine hb_goto (tg := 12) hc dd_X5_removeAll_55 (by decide) ?_
      exact hb_weak (lvs (lvs (lvs (lvs lvz)))) (h p l e s m args below meth c G hc)
theorem w_X5_removeAll {d : Nat} {M : Mm} {a : Nat} {v1 : Int32} {K : Int32 → Mm → Prop} (ha : isTp a) (h : lp_X5_removeAll_12 d (wI M a 1 0) a v1 (M.1 a 1) 0 K) : ACi (d + 1) X5_removeAll [.ref a, .int v1] M K := by
  refine AC.ofW (lv := [some (.ref a), some (.int v1), none, none]) pn_X5 (Nat.le_of_ble_eq_true rfl) (show lvLe _ [some (.ref a), some (.int v1)] from (lvs (lvs (lve (lve lvz))))) ?_
  intro p l e s m args below meth c G hc
  refine hb_aload_n (q := 1) hc dd_X5_removeAll_0 rfl rfl ?_
  refine hb_getI (q := 4) (v := M.1 a 1) hc fl_X5_19 (tp_s ha) (tp_l ha) rfl rfl dd_X5_removeAll_1 rfl ?_
  refine hb_istore_n (q := 5) (lv' := [some (.ref a), some (.int v1), some (.int (M.1 a 1)), none]) hc dd_X5_removeAll_4 rfl (Nat.le_of_ble_eq_true rfl) rfl ?_
  refine hb_aload_n (q := 6) hc dd_X5_removeAll_5 rfl rfl ?_
  refine hb_iconst (q := 7) (v := 0) hc dd_X5_removeAll_6 rfl ic_0 ?_
  refine hb_putI (q := 10) hc fl_X5_19 (tp_s ha) (tp_l ha) rfl dd_X5_removeAll_7 rfl ?_
  refine hb_iconst (q := 11) (v := 0) hc dd_X5_removeAll_10 rfl ic_0 ?_
  refine hb_istore_n (q := 12) (lv' := [some (.ref a), some (.int v1), some (.int (M.1 a 1)), some (.int 0)]) hc dd_X5_removeAll_11 rfl (Nat.le_of_ble_eq_true rfl) rfl ?_
  exact hb_weak (lvs (lvs (lvs (lvs lvz)))) (h p l e s m args below meth c G hc)
