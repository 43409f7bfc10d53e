/-! WALKS, by program (wip/whole/gen6.py). -/
theorem w_X1_remember {d : Nat} {M : Mm} {v2 : Int32} {K : Mm → Prop}  (h : ((M.1 22 0) < 8 → (vp_in (M.1 22 0) 8 ∧ (vp_in v2 6 ∧ (vp_in (M.1 22 0) 8 ∧ (vp_in v2 6 ∧ (vp_in (M.1 22 0) 8 ∧ (K (wI (wI (wI (wI M 23 ((M.1 22 0).toNatClampNeg) v2) 24 ((M.1 22 0).toNatClampNeg) (M.1 14 v2.toNatClampNeg)) 25 ((M.1 22 0).toNatClampNeg) (M.1 15 v2.toNatClampNeg)) 22 0 ((M.1 22 0) + 1))))))))) ∧ (¬ (M.1 22 0) < 8 → (ACv d X1_forgetOldest [.ref 22] M (fun M1 => vp_in (M1.1 22 0) 8 ∧ (vp_in v2 6 ∧ (vp_in (M1.1 22 0) 8 ∧ (vp_in v2 6 ∧ (vp_in (M1.1 22 0) 8 ∧ (K (wI (wI (wI (wI M1 23 ((M1.1 22 0).toNatClampNeg) v2) 24 ((M1.1 22 0).toNatClampNeg) (M1.1 14 v2.toNatClampNeg)) 25 ((M1.1 22 0).toNatClampNeg) (M1.1 15 v2.toNatClampNeg)) 22 0 ((M1.1 22 0) + 1))))))))))) : ACv (d + 1) X1_remember [.ref 22, .ref 13, .int v2] M K := by
  refine AC.ofW (lv := [some (.ref 22), some (.ref 13), some (.int v2)]) pn_X1 (Nat.le_of_ble_eq_true rfl) (show lvLe _ [some (.ref 22), some (.ref 13), some (.int v2)] from (lvs (lvs (lvs lvz)))) ?_
  intro p l e s m args below meth c G hc
  refine hb_aload_n (q := 1) hc dd_X1_remember_0 rfl rfl ?_
  refine hb_getI (q := 4) (v := M.1 22 0) hc fl_X1_21 sh22 sl22 rfl rfl dd_X1_remember_1 rfl ?_
  refine hb_bipush (q := 6) (v := 8) hc dd_X1_remember_4 rfl bp_8 ?_
  refine hb_icmp_lt (q := 9) (tg := 13) hc dd_X1_remember_6 rfl (by decide) (fun z => ?_) (fun z => ?_)
  · replace h := h.1 z
    refine hb_aload_n (q := 14) hc dd_X1_remember_13 rfl rfl ?_
    refine hb_getR (q := 17) hc fl_X1_9 sh22 sl22 rfl dd_X1_remember_14 rfl ?_
    refine hb_aload_n (q := 18) hc dd_X1_remember_17 rfl rfl ?_
    refine hb_getI (q := 21) (v := M.1 22 0) hc fl_X1_21 sh22 sl22 rfl rfl dd_X1_remember_18 rfl ?_
    refine hb_iload_n (q := 22) hc dd_X1_remember_21 rfl rfl ?_
    obtain ⟨hi, h⟩ := h
    refine hb_iast (q := 23) hc sh23 sl23 hi rfl dd_X1_remember_22 rfl ?_
    refine hb_aload_n (q := 24) hc dd_X1_remember_23 rfl rfl ?_
    refine hb_getR (q := 27) hc fl_X1_15 sh22 sl22 rfl dd_X1_remember_24 rfl ?_
    refine hb_aload_n (q := 28) hc dd_X1_remember_27 rfl rfl ?_
    refine hb_getI (q := 31) (v := M.1 22 0) hc fl_X1_21 sh22 sl22 rfl (by simp [wI, wL, cpI, cpL]) dd_X1_remember_28 rfl ?_
    refine hb_aload_n (q := 32) hc dd_X1_remember_31 rfl rfl ?_
    refine hb_getR (q := 35) hc fl_X1_28 sh13 sl13 rfl dd_X1_remember_32 rfl ?_
    refine hb_iload_n (q := 36) hc dd_X1_remember_35 rfl rfl ?_
    obtain ⟨hi, h⟩ := h
    refine hb_iald (q := 37) (v := M.1 14 v2.toNatClampNeg) hc sh14 sl14 hi rfl (by simp [wI, wL, cpI, cpL]) dd_X1_remember_36 rfl ?_
    obtain ⟨hi, h⟩ := h
    refine hb_iast (q := 38) hc sh24 sl24 hi rfl dd_X1_remember_37 rfl ?_
    refine hb_aload_n (q := 39) hc dd_X1_remember_38 rfl rfl ?_
    refine hb_getR (q := 42) hc fl_X1_18 sh22 sl22 rfl dd_X1_remember_39 rfl ?_
    refine hb_aload_n (q := 43) hc dd_X1_remember_42 rfl rfl ?_
    refine hb_getI (q := 46) (v := M.1 22 0) hc fl_X1_21 sh22 sl22 rfl (by simp [wI, wL, cpI, cpL]) dd_X1_remember_43 rfl ?_
    refine hb_aload_n (q := 47) hc dd_X1_remember_46 rfl rfl ?_
    refine hb_getR (q := 50) hc fl_X1_33 sh13 sl13 rfl dd_X1_remember_47 rfl ?_
    refine hb_iload_n (q := 51) hc dd_X1_remember_50 rfl rfl ?_
    obtain ⟨hi, h⟩ := h
    refine hb_iald (q := 52) (v := M.1 15 v2.toNatClampNeg) hc sh15 sl15 hi rfl (by simp [wI, wL, cpI, cpL]) dd_X1_remember_51 rfl ?_
    obtain ⟨hi, h⟩ := h
    refine hb_iast (q := 53) hc sh25 sl25 hi rfl dd_X1_remember_52 rfl ?_
    refine hb_aload_n (q := 54) hc dd_X1_remember_53 rfl rfl ?_
    refine hb_dup (q := 55) hc dd_X1_remember_54 rfl rfl ?_
    refine hb_getI (q := 58) (v := M.1 22 0) hc fl_X1_21 sh22 sl22 rfl (by simp [wI, wL, cpI, cpL]) dd_X1_remember_55 rfl ?_
    refine hb_iconst (q := 59) (v := 1) hc dd_X1_remember_58 rfl ic_1 ?_
    refine hb_iadd (q := 60) hc dd_X1_remember_59 rfl ?_
    refine hb_putI (q := 63) hc fl_X1_21 sh22 sl22 rfl dd_X1_remember_60 rfl ?_
    exact hb_vret hc rfl dd_X1_remember_63 h
  · replace h := h.2 z
    refine hb_aload_n (q := 10) hc dd_X1_remember_9 rfl rfl ?_
    refine hb_callVv (q := 13) (vs := []) (st := []) hc mv_X1_25 h sh22 sl22 rfl rfl rfl (Nat.le_of_ble_eq_true rfl) ⟨Nat.le_refl _, Nat.le_refl _⟩ ⟨Nat.le_refl _, Nat.le_refl _⟩ dd_X1_remember_10 rfl (fun M1 h => ?_)
    refine hb_aload_n (q := 14) hc dd_X1_remember_13 rfl rfl ?_
    refine hb_getR (q := 17) hc fl_X1_9 sh22 sl22 rfl dd_X1_remember_14 rfl ?_
    refine hb_aload_n (q := 18) hc dd_X1_remember_17 rfl rfl ?_
    refine hb_getI (q := 21) (v := M1.1 22 0) hc fl_X1_21 sh22 sl22 rfl rfl dd_X1_remember_18 rfl ?_
    refine hb_iload_n (q := 22) hc dd_X1_remember_21 rfl rfl ?_
    obtain ⟨hi, h⟩ := h
    refine hb_iast (q := 23) hc sh23 sl23 hi rfl dd_X1_remember_22 rfl ?_
    refine hb_aload_n (q := 24) hc dd_X1_remember_23 rfl rfl ?_
    refine hb_getR (q := 27) hc fl_X1_15 sh22 sl22 rfl dd_X1_remember_24 rfl ?_
    refine hb_aload_n (q := 28) hc dd_X1_remember_27 rfl rfl ?_
    refine hb_getI (q := 31) (v := M1.1 22 0) hc fl_X1_21 sh22 sl22 rfl (by simp [wI, wL, cpI, cpL]) dd_X1_remember_28 rfl ?_
    refine hb_aload_n (q := 32) hc dd_X1_remember_31 rfl rfl ?_
    refine hb_getR (q := 35) hc fl_X1_28 sh13 sl13 rfl dd_X1_remember_32 rfl ?_
    refine hb_iload_n (q := 36) hc dd_X1_remember_35 rfl rfl ?_
    obtain ⟨hi, h⟩ := h
    refine hb_iald (q := 37) (v := M1.1 14 v2.toNatClampNeg) hc sh14 sl14 hi rfl (by simp [wI, wL, cpI, cpL]) dd_X1_remember_36 rfl ?_
    obtain ⟨hi, h⟩ := h
    refine hb_iast (q := 38) hc sh24 sl24 hi rfl dd_X1_remember_37 rfl ?_
    refine hb_aload_n (q := 39) hc dd_X1_remember_38 rfl rfl ?_
    refine hb_getR (q := 42) hc fl_X1_18 sh22 sl22 rfl dd_X1_remember_39 rfl ?_
    refine hb_aload_n (q := 43) hc dd_X1_remember_42 rfl rfl ?_
    refine hb_getI (q := 46) (v := M1.1 22 0) hc fl_X1_21 sh22 sl22 rfl (by simp [wI, wL, cpI, cpL]) dd_X1_remember_43 rfl ?_
    refine hb_aload_n (q := 47) hc dd_X1_remember_46 rfl rfl ?_
    refine hb_getR (q := 50) hc fl_X1_33 sh13 sl13 rfl dd_X1_remember_47 rfl ?_
    refine hb_iload_n (q := 51) hc dd_X1_remember_50 rfl rfl ?_
    obtain ⟨hi, h⟩ := h
    refine hb_iald (q := 52) (v := M1.1 15 v2.toNatClampNeg) hc sh15 sl15 hi rfl (by simp [wI, wL, cpI, cpL]) dd_X1_remember_51 rfl ?_
    obtain ⟨hi, h⟩ := h
    refine hb_iast (q := 53) hc sh25 sl25 hi rfl dd_X1_remember_52 rfl ?_
    refine hb_aload_n (q := 54) hc dd_X1_remember_53 rfl rfl ?_
    refine hb_dup (q := 55) hc dd_X1_remember_54 rfl rfl ?_
    refine hb_getI (q := 58) (v := M1.1 22 0) hc fl_X1_21 sh22 sl22 rfl (by simp [wI, wL, cpI, cpL]) dd_X1_remember_55 rfl ?_
    refine hb_iconst (q := 59) (v := 1) hc dd_X1_remember_58 rfl ic_1 ?_
    refine hb_iadd (q := 60) hc dd_X1_remember_59 rfl ?_
    refine hb_putI (q := 63) hc fl_X1_21 sh22 sl22 rfl dd_X1_remember_60 rfl ?_
    exact hb_vret hc rfl dd_X1_remember_63 h
theorem w_X1_forgetOldest {d : Nat} {M : Mm}  {K : Mm → Prop}  (h : K (cpI (cpI (cpI (wI M 22 0 7) 23 1 23 0 7) 24 1 24 0 7) 25 1 25 0 7)) : ACv (d + 1) X1_forgetOldest [.ref 22] M K := by
  refine AC.ofW (lv := [some (.ref 22)]) pn_X1 (Nat.le_of_ble_eq_true rfl) (show lvLe _ [some (.ref 22)] from (lvs lvz)) ?_
  intro p l e s m args below meth c G hc
  refine hb_aload_n (q := 1) hc dd_X1_forgetOldest_0 rfl rfl ?_
  refine hb_bipush (q := 3) (v := 7) hc dd_X1_forgetOldest_1 rfl bp_7 ?_
  refine hb_putI (q := 6) hc fl_X1_21 sh22 sl22 rfl dd_X1_forgetOldest_3 rfl ?_
  refine hb_aload_n (q := 7) hc dd_X1_forgetOldest_6 rfl rfl ?_
  refine hb_getR (q := 10) hc fl_X1_9 sh22 sl22 rfl dd_X1_forgetOldest_7 rfl ?_
  refine hb_iconst (q := 11) (v := 1) hc dd_X1_forgetOldest_10 rfl ic_1 ?_
  refine hb_aload_n (q := 12) hc dd_X1_forgetOldest_11 rfl rfl ?_
  refine hb_getR (q := 15) hc fl_X1_9 sh22 sl22 rfl dd_X1_forgetOldest_12 rfl ?_
  refine hb_iconst (q := 16) (v := 0) hc dd_X1_forgetOldest_15 rfl ic_0 ?_
  refine hb_aload_n (q := 17) hc dd_X1_forgetOldest_16 rfl rfl ?_
  refine hb_getI (q := 20) (v := 7) hc fl_X1_21 sh22 sl22 rfl rfl dd_X1_forgetOldest_17 rfl ?_
  refine hb_copyI (q := 23) (k1 := 1) (k2 := 0) (k3 := 7) (st := []) hc mv_X1_36 sh23 sl23 sh23 sl23 ng_1 ng_0 ng_7 cl_1 cl_0 cl_7 (by decide) (by decide) (Nat.le_add_left 1 d) (rm_lo (Nat.le_of_ble_eq_true rfl)) dd_X1_forgetOldest_20 rfl ?_
  refine hb_aload_n (q := 24) hc dd_X1_forgetOldest_23 rfl rfl ?_
  refine hb_getR (q := 27) hc fl_X1_15 sh22 sl22 rfl dd_X1_forgetOldest_24 rfl ?_
  refine hb_iconst (q := 28) (v := 1) hc dd_X1_forgetOldest_27 rfl ic_1 ?_
  refine hb_aload_n (q := 29) hc dd_X1_forgetOldest_28 rfl rfl ?_
  refine hb_getR (q := 32) hc fl_X1_15 sh22 sl22 rfl dd_X1_forgetOldest_29 rfl ?_
  refine hb_iconst (q := 33) (v := 0) hc dd_X1_forgetOldest_32 rfl ic_0 ?_
  refine hb_aload_n (q := 34) hc dd_X1_forgetOldest_33 rfl rfl ?_
  refine hb_getI (q := 37) (v := 7) hc fl_X1_21 sh22 sl22 rfl rfl dd_X1_forgetOldest_34 rfl ?_
  refine hb_copyI (q := 40) (k1 := 1) (k2 := 0) (k3 := 7) (st := []) hc mv_X1_36 sh24 sl24 sh24 sl24 ng_1 ng_0 ng_7 cl_1 cl_0 cl_7 (by decide) (by decide) (Nat.le_add_left 1 d) (rm_lo (Nat.le_of_ble_eq_true rfl)) dd_X1_forgetOldest_37 rfl ?_
  refine hb_aload_n (q := 41) hc dd_X1_forgetOldest_40 rfl rfl ?_
  refine hb_getR (q := 44) hc fl_X1_18 sh22 sl22 rfl dd_X1_forgetOldest_41 rfl ?_
  refine hb_iconst (q := 45) (v := 1) hc dd_X1_forgetOldest_44 rfl ic_1 ?_
  refine hb_aload_n (q := 46) hc dd_X1_forgetOldest_45 rfl rfl ?_
  refine hb_getR (q := 49) hc fl_X1_18 sh22 sl22 rfl dd_X1_forgetOldest_46 rfl ?_
  refine hb_iconst (q := 50) (v := 0) hc dd_X1_forgetOldest_49 rfl ic_0 ?_
  refine hb_aload_n (q := 51) hc dd_X1_forgetOldest_50 rfl rfl ?_
  refine hb_getI (q := 54) (v := 7) hc fl_X1_21 sh22 sl22 rfl rfl dd_X1_forgetOldest_51 rfl ?_
  refine hb_copyI (q := 57) (k1 := 1) (k2 := 0) (k3 := 7) (st := []) hc mv_X1_36 sh25 sl25 sh25 sl25 ng_1 ng_0 ng_7 cl_1 cl_0 cl_7 (by decide) (by decide) (Nat.le_add_left 1 d) (rm_lo (Nat.le_of_ble_eq_true rfl)) dd_X1_forgetOldest_54 rfl ?_
  exact hb_vret hc rfl dd_X1_forgetOldest_57 h
theorem w_X1_takeBack {d : Nat} {M : Mm}  {K : Mm → Prop}  (h : ((M.1 22 0) ≤ 0 → (K M)) ∧ (¬ (M.1 22 0) ≤ 0 → (vp_in ((M.1 22 0) - 1) 8 ∧ (vp_in ((M.1 22 0) - 1) 8 ∧ (vp_in (M.1 23 (((M.1 22 0) - 1).toNatClampNeg)) 6 ∧ (vp_in ((M.1 22 0) - 1) 8 ∧ (vp_in ((M.1 22 0) - 1) 8 ∧ (vp_in (M.1 23 (((M.1 22 0) - 1).toNatClampNeg)) 6 ∧ (K (wI (wI (wI M 22 0 ((M.1 22 0) - 1)) 14 ((M.1 23 (((M.1 22 0) - 1).toNatClampNeg)).toNatClampNeg) (M.1 24 (((M.1 22 0) - 1).toNatClampNeg))) 15 ((M.1 23 (((M.1 22 0) - 1).toNatClampNeg)).toNatClampNeg) (M.1 25 (((M.1 22 0) - 1).toNatClampNeg)))))))))))) : ACv (d + 1) X1_takeBack [.ref 22, .ref 13] M K := by
  refine AC.ofW (lv := [some (.ref 22), some (.ref 13)]) pn_X1 (Nat.le_of_ble_eq_true rfl) (show lvLe _ [some (.ref 22), some (.ref 13)] from (lvs (lvs lvz))) ?_
  intro p l e s m args below meth c G hc
  refine hb_aload_n (q := 1) hc dd_X1_takeBack_0 rfl rfl ?_
  refine hb_getI (q := 4) (v := M.1 22 0) hc fl_X1_21 sh22 sl22 rfl rfl dd_X1_takeBack_1 rfl ?_
  refine hb_if_le (q := 7) (tg := 63) hc dd_X1_takeBack_4 rfl (by decide) (fun z => ?_) (fun z => ?_)
  · replace h := h.1 z
    exact hb_vret hc rfl dd_X1_takeBack_63 h
  · replace h := h.2 z
    refine hb_aload_n (q := 8) hc dd_X1_takeBack_7 rfl rfl ?_
    refine hb_dup (q := 9) hc dd_X1_takeBack_8 rfl rfl ?_
    refine hb_getI (q := 12) (v := M.1 22 0) hc fl_X1_21 sh22 sl22 rfl rfl dd_X1_takeBack_9 rfl ?_
    refine hb_iconst (q := 13) (v := 1) hc dd_X1_takeBack_12 rfl ic_1 ?_
    refine hb_isub (q := 14) hc dd_X1_takeBack_13 rfl ?_
    refine hb_putI (q := 17) hc fl_X1_21 sh22 sl22 rfl dd_X1_takeBack_14 rfl ?_
    refine hb_aload_n (q := 18) hc dd_X1_takeBack_17 rfl rfl ?_
    refine hb_getR (q := 21) hc fl_X1_28 sh13 sl13 rfl dd_X1_takeBack_18 rfl ?_
    refine hb_aload_n (q := 22) hc dd_X1_takeBack_21 rfl rfl ?_
    refine hb_getR (q := 25) hc fl_X1_9 sh22 sl22 rfl dd_X1_takeBack_22 rfl ?_
    refine hb_aload_n (q := 26) hc dd_X1_takeBack_25 rfl rfl ?_
    refine hb_getI (q := 29) (v := (M.1 22 0) - 1) hc fl_X1_21 sh22 sl22 rfl rfl dd_X1_takeBack_26 rfl ?_
    obtain ⟨hi, h⟩ := h
    refine hb_iald (q := 30) (v := M.1 23 (((M.1 22 0) - 1).toNatClampNeg)) hc sh23 sl23 hi rfl (by simp [wI, wL, cpI, cpL]) dd_X1_takeBack_29 rfl ?_
    refine hb_aload_n (q := 31) hc dd_X1_takeBack_30 rfl rfl ?_
    refine hb_getR (q := 34) hc fl_X1_15 sh22 sl22 rfl dd_X1_takeBack_31 rfl ?_
    refine hb_aload_n (q := 35) hc dd_X1_takeBack_34 rfl rfl ?_
    refine hb_getI (q := 38) (v := (M.1 22 0) - 1) hc fl_X1_21 sh22 sl22 rfl rfl dd_X1_takeBack_35 rfl ?_
    obtain ⟨hi, h⟩ := h
    refine hb_iald (q := 39) (v := M.1 24 (((M.1 22 0) - 1).toNatClampNeg)) hc sh24 sl24 hi rfl (by simp [wI, wL, cpI, cpL]) dd_X1_takeBack_38 rfl ?_
    obtain ⟨hi, h⟩ := h
    refine hb_iast (q := 40) hc sh14 sl14 hi rfl dd_X1_takeBack_39 rfl ?_
    refine hb_aload_n (q := 41) hc dd_X1_takeBack_40 rfl rfl ?_
    refine hb_getR (q := 44) hc fl_X1_33 sh13 sl13 rfl dd_X1_takeBack_41 rfl ?_
    refine hb_aload_n (q := 45) hc dd_X1_takeBack_44 rfl rfl ?_
    refine hb_getR (q := 48) hc fl_X1_9 sh22 sl22 rfl dd_X1_takeBack_45 rfl ?_
    refine hb_aload_n (q := 49) hc dd_X1_takeBack_48 rfl rfl ?_
    refine hb_getI (q := 52) (v := (M.1 22 0) - 1) hc fl_X1_21 sh22 sl22 rfl (by simp [wI, wL, cpI, cpL]) dd_X1_takeBack_49 rfl ?_
    obtain ⟨hi, h⟩ := h
    refine hb_iald (q := 53) (v := M.1 23 (((M.1 22 0) - 1).toNatClampNeg)) hc sh23 sl23 hi rfl (by simp [wI, wL, cpI, cpL]) dd_X1_takeBack_52 rfl ?_
    refine hb_aload_n (q := 54) hc dd_X1_takeBack_53 rfl rfl ?_
    refine hb_getR (q := 57) hc fl_X1_18 sh22 sl22 rfl dd_X1_takeBack_54 rfl ?_
    refine hb_aload_n (q := 58) hc dd_X1_takeBack_57 rfl rfl ?_
    refine hb_getI (q := 61) (v := (M.1 22 0) - 1) hc fl_X1_21 sh22 sl22 rfl (by simp [wI, wL, cpI, cpL]) dd_X1_takeBack_58 rfl ?_
    obtain ⟨hi, h⟩ := h
    refine hb_iald (q := 62) (v := M.1 25 (((M.1 22 0) - 1).toNatClampNeg)) hc sh25 sl25 hi rfl (by simp [wI, wL, cpI, cpL]) dd_X1_takeBack_61 rfl ?_
    obtain ⟨hi, h⟩ := h
    refine hb_iast (q := 63) hc sh15 sl15 hi rfl dd_X1_takeBack_62 rfl ?_
    exact hb_vret hc rfl dd_X1_takeBack_63 h
