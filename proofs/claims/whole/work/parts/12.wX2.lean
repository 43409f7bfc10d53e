/-! WALKS, by program (wip/whole/gen6.py). -/
theorem w_X2_become {d : Nat} {M : Mm} {a : Nat} {b : Nat} {K : Mm → Prop} (ha : isLi a) (hb : isLi b) (h : K (cpI (cpI (wI M a 0 (M.1 b 0)) (b + 1) 0 (a + 1) 0 6) (b + 2) 0 (a + 2) 0 6)) : ACv (d + 1) X2_become [.ref a, .ref b] M K := by
  refine AC.ofW (lv := [some (.ref a), some (.ref b)]) pn_X2 (Nat.le_of_ble_eq_true rfl) (show lvLe _ [some (.ref a), some (.ref b)] from (lvs (lvs lvz))) ?_
  intro p l e s m args below meth c G hc
  refine hb_aload_n (q := 1) hc dd_X2_become_0 rfl rfl ?_
  refine hb_aload_n (q := 2) hc dd_X2_become_1 rfl rfl ?_
  refine hb_getI (q := 5) (v := M.1 b 0) hc fl_X2_18 (li_s hb) (li_l hb) rfl rfl dd_X2_become_2 rfl ?_
  refine hb_putI (q := 8) hc fl_X2_18 (li_s ha) (li_l ha) rfl dd_X2_become_5 rfl ?_
  refine hb_aload_n (q := 9) hc dd_X2_become_8 rfl rfl ?_
  refine hb_getR (q := 12) hc fl_X2_9 (li_s hb) (li_l hb) rfl dd_X2_become_9 rfl ?_
  refine hb_iconst (q := 13) (v := 0) hc dd_X2_become_12 rfl ic_0 ?_
  refine hb_aload_n (q := 14) hc dd_X2_become_13 rfl rfl ?_
  refine hb_getR (q := 17) hc fl_X2_9 (li_s ha) (li_l ha) rfl dd_X2_become_14 rfl ?_
  refine hb_iconst (q := 18) (v := 0) hc dd_X2_become_17 rfl ic_0 ?_
  refine hb_bipush (q := 20) (v := 6) hc dd_X2_become_18 rfl bp_6 ?_
  refine hb_copyI (q := 23) (k1 := 0) (k2 := 0) (k3 := 6) (st := []) hc mv_X2_22 (li_s1 hb) (li_l1 hb) (li_s1 ha) (li_l1 ha) ng_0 ng_0 ng_6 cl_0 cl_0 cl_6 (by decide) (by decide) (Nat.le_add_left 1 d) (rm_lo (Nat.le_of_ble_eq_true rfl)) dd_X2_become_20 rfl ?_
  refine hb_aload_n (q := 24) hc dd_X2_become_23 rfl rfl ?_
  refine hb_getR (q := 27) hc fl_X2_15 (li_s hb) (li_l hb) rfl dd_X2_become_24 rfl ?_
  refine hb_iconst (q := 28) (v := 0) hc dd_X2_become_27 rfl ic_0 ?_
  refine hb_aload_n (q := 29) hc dd_X2_become_28 rfl rfl ?_
  refine hb_getR (q := 32) hc fl_X2_15 (li_s ha) (li_l ha) rfl dd_X2_become_29 rfl ?_
  refine hb_iconst (q := 33) (v := 0) hc dd_X2_become_32 rfl ic_0 ?_
  refine hb_bipush (q := 35) (v := 6) hc dd_X2_become_33 rfl bp_6 ?_
  refine hb_copyI (q := 38) (k1 := 0) (k2 := 0) (k3 := 6) (st := []) hc mv_X2_22 (li_s2 hb) (li_l2 hb) (li_s2 ha) (li_l2 ha) ng_0 ng_0 ng_6 cl_0 cl_0 cl_6 (by decide) (by decide) (Nat.le_add_left 1 d) (rm_lo (Nat.le_of_ble_eq_true rfl)) dd_X2_become_35 rfl ?_
  exact hb_vret hc rfl dd_X2_become_38 h
theorem w_X2_hasLight {d : Nat} {M : Mm} {v1 : Int32} {K : Int32 → Mm → Prop}  (h : (v1 < 0 → (K 0 M)) ∧ (¬ v1 < 0 → (((M.1 13 0) ≤ v1 → (K 0 M)) ∧ (¬ (M.1 13 0) ≤ v1 → (K 1 M))))) : ACi (d + 1) X2_hasLight [.ref 13, .int v1] M K := by
  refine AC.ofW (lv := [some (.ref 13), some (.int v1)]) pn_X2 (Nat.le_of_ble_eq_true rfl) (show lvLe _ [some (.ref 13), some (.int v1)] from (lvs (lvs lvz))) ?_
  intro p l e s m args below meth c G hc
  refine hb_iload_n (q := 1) hc dd_X2_hasLight_0 rfl rfl ?_
  refine hb_if_lt (q := 4) (tg := 16) hc dd_X2_hasLight_1 rfl (by decide) (fun z => ?_) (fun z => ?_)
  · replace h := h.1 z
    refine hb_iconst (q := 17) (v := 0) hc dd_X2_hasLight_16 rfl ic_0 ?_
    exact hb_zret hc rfl (by decide) dd_X2_hasLight_17 h
  · replace h := h.2 z
    refine hb_iload_n (q := 5) hc dd_X2_hasLight_4 rfl rfl ?_
    refine hb_aload_n (q := 6) hc dd_X2_hasLight_5 rfl rfl ?_
    refine hb_getI (q := 9) (v := M.1 13 0) hc fl_X2_18 sh13 sl13 rfl rfl dd_X2_hasLight_6 rfl ?_
    refine hb_icmp_ge (q := 12) (tg := 16) hc dd_X2_hasLight_9 rfl (by decide) (fun z => ?_) (fun z => ?_)
    · replace h := h.1 z
      refine hb_iconst (q := 17) (v := 0) hc dd_X2_hasLight_16 rfl ic_0 ?_
      exact hb_zret hc rfl (by decide) dd_X2_hasLight_17 h
    · replace h := h.2 z
      refine hb_iconst (q := 13) (v := 1) hc dd_X2_hasLight_12 rfl ic_1 ?_
      refine hb_goto (tg := 17) hc dd_X2_hasLight_13 (by decide) ?_
      exact hb_zret hc rfl (by decide) dd_X2_hasLight_17 h
theorem w_X2_addAt {d : Nat} {M : Mm} {v1 : Int32} {K : Mm → Prop}  (h : (6 ≤ (M.1 10 0) → (K M)) ∧ (¬ 6 ≤ (M.1 10 0) → (vp_in (M.1 10 0) 6 ∧ (vp_in (M.1 10 0) 6 ∧ (K (wI (wI (wI M 11 ((M.1 10 0).toNatClampNeg) v1) 12 ((M.1 10 0).toNatClampNeg) (-1)) 10 0 ((M.1 10 0) + 1))))))) : ACv (d + 1) X2_addAt [.ref 10, .int v1] M K := by
  refine AC.ofW (lv := [some (.ref 10), some (.int v1)]) pn_X2 (Nat.le_of_ble_eq_true rfl) (show lvLe _ [some (.ref 10), some (.int v1)] from (lvs (lvs lvz))) ?_
  intro p l e s m args below meth c G hc
  refine hb_aload_n (q := 1) hc dd_X2_addAt_0 rfl rfl ?_
  refine hb_getI (q := 4) (v := M.1 10 0) hc fl_X2_18 sh10 sl10 rfl rfl dd_X2_addAt_1 rfl ?_
  refine hb_bipush (q := 6) (v := 6) hc dd_X2_addAt_4 rfl bp_6 ?_
  refine hb_icmp_ge (q := 9) (tg := 39) hc dd_X2_addAt_6 rfl (by decide) (fun z => ?_) (fun z => ?_)
  · replace h := h.1 z
    exact hb_vret hc rfl dd_X2_addAt_39 h
  · replace h := h.2 z
    refine hb_aload_n (q := 10) hc dd_X2_addAt_9 rfl rfl ?_
    refine hb_getR (q := 13) hc fl_X2_9 sh10 sl10 rfl dd_X2_addAt_10 rfl ?_
    refine hb_aload_n (q := 14) hc dd_X2_addAt_13 rfl rfl ?_
    refine hb_getI (q := 17) (v := M.1 10 0) hc fl_X2_18 sh10 sl10 rfl rfl dd_X2_addAt_14 rfl ?_
    refine hb_iload_n (q := 18) hc dd_X2_addAt_17 rfl rfl ?_
    obtain ⟨hi, h⟩ := h
    refine hb_iast (q := 19) hc sh11 sl11 hi rfl dd_X2_addAt_18 rfl ?_
    refine hb_aload_n (q := 20) hc dd_X2_addAt_19 rfl rfl ?_
    refine hb_getR (q := 23) hc fl_X2_15 sh10 sl10 rfl dd_X2_addAt_20 rfl ?_
    refine hb_aload_n (q := 24) hc dd_X2_addAt_23 rfl rfl ?_
    refine hb_getI (q := 27) (v := M.1 10 0) hc fl_X2_18 sh10 sl10 rfl (by simp [wI, wL, cpI, cpL]) dd_X2_addAt_24 rfl ?_
    refine hb_iconst (q := 28) (v := (-1)) hc dd_X2_addAt_27 rfl ic_m1 ?_
    obtain ⟨hi, h⟩ := h
    refine hb_iast (q := 29) hc sh12 sl12 hi rfl dd_X2_addAt_28 rfl ?_
    refine hb_aload_n (q := 30) hc dd_X2_addAt_29 rfl rfl ?_
    refine hb_dup (q := 31) hc dd_X2_addAt_30 rfl rfl ?_
    refine hb_getI (q := 34) (v := M.1 10 0) hc fl_X2_18 sh10 sl10 rfl (by simp [wI, wL, cpI, cpL]) dd_X2_addAt_31 rfl ?_
    refine hb_iconst (q := 35) (v := 1) hc dd_X2_addAt_34 rfl ic_1 ?_
    refine hb_iadd (q := 36) hc dd_X2_addAt_35 rfl ?_
    refine hb_putI (q := 39) hc fl_X2_18 sh10 sl10 rfl dd_X2_addAt_36 rfl ?_
    exact hb_vret hc rfl dd_X2_addAt_39 h
def lp_X2_neighbours_5 (d : Nat) (M : Mm) (v1 : Int32) (v2 : Int32) (v3 : Int32) (v4 : Int32) (K : Int32 → Mm → Prop) : Prop := AW (d + 1) X2_neighbours M 5 [some (.ref 13), some (.int v1), some (.int v2), some (.int v3), some (.int v4)] [] (QI K)
theorem z_X2_neighbours_5 {d : Nat} {M : Mm} {v1 : Int32} {v2 : Int32} {v3 : Int32} {v4 : Int32} {K : Int32 → Mm → Prop}  (h : ((M.1 13 0) ≤ v4 → (K v3 M)) ∧ (¬ (M.1 13 0) ≤ v4 → ((v4 = v1 → (lp_X2_neighbours_5 d M v1 v2 v3 (v4 + 1) K)) ∧ (¬ v4 = v1 → (vp_in v4 6 ∧ (vp_in v1 6 ∧ ((v2 < (if 0 ≤ ((M.1 14 v4.toNatClampNeg) - (M.1 14 v1.toNatClampNeg)) then ((M.1 14 v4.toNatClampNeg) - (M.1 14 v1.toNatClampNeg)) else 0 - ((M.1 14 v4.toNatClampNeg) - (M.1 14 v1.toNatClampNeg))) → (lp_X2_neighbours_5 d M v1 v2 v3 (v4 + 1) K)) ∧ (¬ v2 < (if 0 ≤ ((M.1 14 v4.toNatClampNeg) - (M.1 14 v1.toNatClampNeg)) then ((M.1 14 v4.toNatClampNeg) - (M.1 14 v1.toNatClampNeg)) else 0 - ((M.1 14 v4.toNatClampNeg) - (M.1 14 v1.toNatClampNeg))) → (lp_X2_neighbours_5 d M v1 v2 (v3 ||| (1 <<< (v4 &&& 31))) (v4 + 1) K))))))))) : lp_X2_neighbours_5 d M v1 v2 v3 v4 K := by
  intro p l e s m args below meth c G hc
  refine hb_iload (q := 7) hc dd_X2_neighbours_5 rfl rfl ?_
  refine hb_aload_n (q := 8) hc dd_X2_neighbours_7 rfl rfl ?_
  refine hb_getI (q := 11) (v := M.1 13 0) hc fl_X2_18 sh13 sl13 rfl rfl dd_X2_neighbours_8 rfl ?_
  refine hb_icmp_ge (q := 14) (tg := 54) hc dd_X2_neighbours_11 rfl (by decide) (fun z => ?_) (fun z => ?_)
  · replace h := h.1 z
    refine hb_iload_n (q := 55) hc dd_X2_neighbours_54 rfl rfl ?_
    exact hb_iret hc rfl dd_X2_neighbours_55 h
  · replace h := h.2 z
    refine hb_iload (q := 16) hc dd_X2_neighbours_14 rfl rfl ?_
    refine hb_iload_n (q := 17) hc dd_X2_neighbours_16 rfl rfl ?_
    refine hb_icmp_eq (q := 20) (tg := 48) hc dd_X2_neighbours_17 rfl (by decide) (fun z => ?_) (fun z => ?_)
    · replace h := h.1 z
      refine hb_iinc (q := 51) (v := v4 + 1) (lv' := [some (.ref 13), some (.int v1), some (.int v2), some (.int v3), some (.int (v4 + 1))]) hc dd_X2_neighbours_48 rfl rfl rfl (Nat.le_of_ble_eq_true rfl) rfl ?_
      refine hb_goto (tg := 5) hc dd_X2_neighbours_51 (by decide) ?_
      exact hb_weak (lvs (lvs (lvs (lvs (lvs lvz))))) (h p l e s m args below meth c G hc)
    · replace h := h.2 z
      refine hb_aload_n (q := 21) hc dd_X2_neighbours_20 rfl rfl ?_
      refine hb_getR (q := 24) hc fl_X2_9 sh13 sl13 rfl dd_X2_neighbours_21 rfl ?_
      refine hb_iload (q := 26) hc dd_X2_neighbours_24 rfl rfl ?_
      obtain ⟨hi, h⟩ := h
      refine hb_iald (q := 27) (v := M.1 14 v4.toNatClampNeg) hc sh14 sl14 hi rfl rfl dd_X2_neighbours_26 rfl ?_
      refine hb_aload_n (q := 28) hc dd_X2_neighbours_27 rfl rfl ?_
      refine hb_getR (q := 31) hc fl_X2_9 sh13 sl13 rfl dd_X2_neighbours_28 rfl ?_
      refine hb_iload_n (q := 32) hc dd_X2_neighbours_31 rfl rfl ?_
      obtain ⟨hi, h⟩ := h
      refine hb_iald (q := 33) (v := M.1 14 v1.toNatClampNeg) hc sh14 sl14 hi rfl rfl dd_X2_neighbours_32 rfl ?_
      refine hb_isub (q := 34) hc dd_X2_neighbours_33 rfl ?_
      refine hb_mabs (q := 37) (st := []) hc mv_X2_28 (Nat.le_add_left 1 d) (rm_lo (Nat.le_of_ble_eq_true rfl)) ⟨Nat.le_refl _, Nat.le_refl _⟩ dd_X2_neighbours_34 rfl ?_
      refine hb_iload_n (q := 38) hc dd_X2_neighbours_37 rfl rfl ?_
      refine hb_icmp_gt (q := 41) (tg := 48) hc dd_X2_neighbours_38 rfl (by decide) (fun z => ?_) (fun z => ?_)
      · replace h := h.1 z
        refine hb_iinc (q := 51) (v := v4 + 1) (lv' := [some (.ref 13), some (.int v1), some (.int v2), some (.int v3), some (.int (v4 + 1))]) hc dd_X2_neighbours_48 rfl rfl rfl (Nat.le_of_ble_eq_true rfl) rfl ?_
        refine hb_goto (tg := 5) hc dd_X2_neighbours_51 (by decide) ?_
        exact hb_weak (lvs (lvs (lvs (lvs (lvs lvz))))) (h p l e s m args below meth c G hc)
      · replace h := h.2 z
        refine hb_iload_n (q := 42) hc dd_X2_neighbours_41 rfl rfl ?_
        refine hb_iconst (q := 43) (v := 1) hc dd_X2_neighbours_42 rfl ic_1 ?_
        refine hb_iload (q := 45) hc dd_X2_neighbours_43 rfl rfl ?_
        refine hb_ishl (q := 46) hc dd_X2_neighbours_45 rfl ?_
        refine hb_ior (q := 47) hc dd_X2_neighbours_46 rfl ?_
        refine hb_istore_n (q := 48) (lv' := [some (.ref 13), some (.int v1), some (.int v2), some (.int (v3 ||| (1 <<< (v4 &&& 31)))), some (.int v4)]) hc dd_X2_neighbours_47 rfl (Nat.le_of_ble_eq_true rfl) rfl ?_
        refine hb_iinc (q := 51) (v := v4 + 1) (lv' := [some (.ref 13), some (.int v1), some (.int v2), some (.int (v3 ||| (1 <<< (v4 &&& 31)))), some (.int (v4 + 1))]) hc dd_X2_neighbours_48 rfl rfl rfl (Nat.le_of_ble_eq_true rfl) rfl ?_
        refine hb_goto (tg := 5) hc dd_X2_neighbours_51 (by decide) ?_
        exact hb_weak (lvs (lvs (lvs (lvs (lvs lvz))))) (h p l e s m args below meth c G hc)
theorem w_X2_neighbours {d : Nat} {M : Mm} {v1 : Int32} {v2 : Int32} {K : Int32 → Mm → Prop}  (h : lp_X2_neighbours_5 d M v1 v2 0 0 K) : ACi (d + 1) X2_neighbours [.ref 13, .int v1, .int v2] M K := by
  refine AC.ofW (lv := [some (.ref 13), some (.int v1), some (.int v2), none, none]) pn_X2 (Nat.le_of_ble_eq_true rfl) (show lvLe _ [some (.ref 13), some (.int v1), some (.int v2)] from (lvs (lvs (lvs (lve (lve lvz)))))) ?_
  intro p l e s m args below meth c G hc
  refine hb_iconst (q := 1) (v := 0) hc dd_X2_neighbours_0 rfl ic_0 ?_
  refine hb_istore_n (q := 2) (lv' := [some (.ref 13), some (.int v1), some (.int v2), some (.int 0), none]) hc dd_X2_neighbours_1 rfl (Nat.le_of_ble_eq_true rfl) rfl ?_
  refine hb_iconst (q := 3) (v := 0) hc dd_X2_neighbours_2 rfl ic_0 ?_
  refine hb_istore (q := 5) (lv' := [some (.ref 13), some (.int v1), some (.int v2), some (.int 0), some (.int 0)]) hc dd_X2_neighbours_3 rfl (Nat.le_of_ble_eq_true rfl) rfl ?_
  exact hb_weak (lvs (lvs (lvs (lvs (lvs lvz))))) (h p l e s m args below meth c G hc)
def lp_X2_litOnes_4 (d : Nat) (M : Mm) (v1 : Int32) (v2 : Int32) (K : Int32 → Mm → Prop) : Prop := AW (d + 1) X2_litOnes M 4 [some (.ref 13), some (.int v1), some (.int v2)] [] (QI K)
theorem z_X2_litOnes_4 {d : Nat} {M : Mm} {v1 : Int32} {v2 : Int32} {K : Int32 → Mm → Prop}  (h : ((M.1 13 0) ≤ v2 → (K v1 M)) ∧ (¬ (M.1 13 0) ≤ v2 → (vp_in v2 6 ∧ (((M.1 15 v2.toNatClampNeg) = (-1) → (lp_X2_litOnes_4 d M v1 (v2 + 1) K)) ∧ (¬ (M.1 15 v2.toNatClampNeg) = (-1) → (lp_X2_litOnes_4 d M (v1 ||| (1 <<< (v2 &&& 31))) (v2 + 1) K)))))) : lp_X2_litOnes_4 d M v1 v2 K := by
  intro p l e s m args below meth c G hc
  refine hb_iload_n (q := 5) hc dd_X2_litOnes_4 rfl rfl ?_
  refine hb_aload_n (q := 6) hc dd_X2_litOnes_5 rfl rfl ?_
  refine hb_getI (q := 9) (v := M.1 13 0) hc fl_X2_18 sh13 sl13 rfl rfl dd_X2_litOnes_6 rfl ?_
  refine hb_icmp_ge (q := 12) (tg := 34) hc dd_X2_litOnes_9 rfl (by decide) (fun z => ?_) (fun z => ?_)
  · replace h := h.1 z
    refine hb_iload_n (q := 35) hc dd_X2_litOnes_34 rfl rfl ?_
    exact hb_iret hc rfl dd_X2_litOnes_35 h
  · replace h := h.2 z
    refine hb_aload_n (q := 13) hc dd_X2_litOnes_12 rfl rfl ?_
    refine hb_getR (q := 16) hc fl_X2_15 sh13 sl13 rfl dd_X2_litOnes_13 rfl ?_
    refine hb_iload_n (q := 17) hc dd_X2_litOnes_16 rfl rfl ?_
    obtain ⟨hi, h⟩ := h
    refine hb_iald (q := 18) (v := M.1 15 v2.toNatClampNeg) hc sh15 sl15 hi rfl rfl dd_X2_litOnes_17 rfl ?_
    refine hb_iconst (q := 19) (v := (-1)) hc dd_X2_litOnes_18 rfl ic_m1 ?_
    refine hb_icmp_eq (q := 22) (tg := 28) hc dd_X2_litOnes_19 rfl (by decide) (fun z => ?_) (fun z => ?_)
    · replace h := h.1 z
      refine hb_iinc (q := 31) (v := v2 + 1) (lv' := [some (.ref 13), some (.int v1), some (.int (v2 + 1))]) hc dd_X2_litOnes_28 rfl rfl rfl (Nat.le_of_ble_eq_true rfl) rfl ?_
      refine hb_goto (tg := 4) hc dd_X2_litOnes_31 (by decide) ?_
      exact hb_weak (lvs (lvs (lvs lvz))) (h p l e s m args below meth c G hc)
    · replace h := h.2 z
      refine hb_iload_n (q := 23) hc dd_X2_litOnes_22 rfl rfl ?_
      refine hb_iconst (q := 24) (v := 1) hc dd_X2_litOnes_23 rfl ic_1 ?_
      refine hb_iload_n (q := 25) hc dd_X2_litOnes_24 rfl rfl ?_
      refine hb_ishl (q := 26) hc dd_X2_litOnes_25 rfl ?_
      refine hb_ior (q := 27) hc dd_X2_litOnes_26 rfl ?_
      refine hb_istore_n (q := 28) (lv' := [some (.ref 13), some (.int (v1 ||| (1 <<< (v2 &&& 31)))), some (.int v2)]) hc dd_X2_litOnes_27 rfl (Nat.le_of_ble_eq_true rfl) rfl ?_
      refine hb_iinc (q := 31) (v := v2 + 1) (lv' := [some (.ref 13), some (.int (v1 ||| (1 <<< (v2 &&& 31)))), some (.int (v2 + 1))]) hc dd_X2_litOnes_28 rfl rfl rfl (Nat.le_of_ble_eq_true rfl) rfl ?_
      refine hb_goto (tg := 4) hc dd_X2_litOnes_31 (by decide) ?_
      exact hb_weak (lvs (lvs (lvs lvz))) (h p l e s m args below meth c G hc)
theorem w_X2_litOnes {d : Nat} {M : Mm}  {K : Int32 → Mm → Prop}  (h : lp_X2_litOnes_4 d M 0 0 K) : ACi (d + 1) X2_litOnes [.ref 13] M K := by
  refine AC.ofW (lv := [some (.ref 13), none, none]) pn_X2 (Nat.le_of_ble_eq_true rfl) (show lvLe _ [some (.ref 13)] from (lvs (lve (lve lvz)))) ?_
  intro p l e s m args below meth c G hc
  refine hb_iconst (q := 1) (v := 0) hc dd_X2_litOnes_0 rfl ic_0 ?_
  refine hb_istore_n (q := 2) (lv' := [some (.ref 13), some (.int 0), none]) hc dd_X2_litOnes_1 rfl (Nat.le_of_ble_eq_true rfl) rfl ?_
  refine hb_iconst (q := 3) (v := 0) hc dd_X2_litOnes_2 rfl ic_0 ?_
  refine hb_istore_n (q := 4) (lv' := [some (.ref 13), some (.int 0), some (.int 0)]) hc dd_X2_litOnes_3 rfl (Nat.le_of_ble_eq_true rfl) rfl ?_
  exact hb_weak (lvs (lvs (lvs lvz))) (h p l e s m args below meth c G hc)
def lp_X2_pairsSeenFrom_15 (d : Nat) (M : Mm) (v1 : Int32) (v3 : Int64) (v5 : Int64) (v7 : Int32) (K : Int64 → Mm → Prop) : Prop := AW (d + 1) X2_pairsSeenFrom M 15 [some (.ref 13), some (.int v1), some (.ref 3), some (.long v3), none, some (.long v5), none, some (.int v7)] [] (QL K)
theorem z_X2_pairsSeenFrom_15 {d : Nat} {M : Mm} {v1 : Int32} {v3 : Int64} {v5 : Int64} {v7 : Int32} {K : Int64 → Mm → Prop}  (h : ((M.1 13 0) ≤ v7 → (K v5 M)) ∧ (¬ (M.1 13 0) ≤ v7 → (vp_in v7 6 ∧ (((M.1 15 v7.toNatClampNeg) = (-1) → (lp_X2_pairsSeenFrom_15 d M v1 v3 v5 (v7 + 1) K)) ∧ (¬ (M.1 15 v7.toNatClampNeg) = (-1) → (vp_in v7 6 ∧ (((M.1 3 2) < (if 0 ≤ ((M.1 14 v7.toNatClampNeg) - v1) then ((M.1 14 v7.toNatClampNeg) - v1) else 0 - ((M.1 14 v7.toNatClampNeg) - v1)) → (lp_X2_pairsSeenFrom_15 d M v1 v3 v5 (v7 + 1) K)) ∧ (¬ (M.1 3 2) < (if 0 ≤ ((M.1 14 v7.toNatClampNeg) - v1) then ((M.1 14 v7.toNatClampNeg) - v1) else 0 - ((M.1 14 v7.toNatClampNeg) - v1)) → (lp_X2_pairsSeenFrom_15 d M v1 v3 (v5 ||| (v3 <<< ((v7 * 8).toInt64 &&& 63))) (v7 + 1) K))))))))) : lp_X2_pairsSeenFrom_15 d M v1 v3 v5 v7 K := by
  intro p l e s m args below meth c G hc
  refine hb_iload (q := 17) hc dd_X2_pairsSeenFrom_15 rfl rfl ?_
  refine hb_aload_n (q := 18) hc dd_X2_pairsSeenFrom_17 rfl rfl ?_
  refine hb_getI (q := 21) (v := M.1 13 0) hc fl_X2_18 sh13 sl13 rfl rfl dd_X2_pairsSeenFrom_18 rfl ?_
  refine hb_icmp_ge (q := 24) (tg := 72) hc dd_X2_pairsSeenFrom_21 rfl (by decide) (fun z => ?_) (fun z => ?_)
  · replace h := h.1 z
    refine hb_lload (q := 74) hc dd_X2_pairsSeenFrom_72 rfl rfl ?_
    exact hb_lret hc rfl dd_X2_pairsSeenFrom_74 h
  · replace h := h.2 z
    refine hb_aload_n (q := 25) hc dd_X2_pairsSeenFrom_24 rfl rfl ?_
    refine hb_getR (q := 28) hc fl_X2_15 sh13 sl13 rfl dd_X2_pairsSeenFrom_25 rfl ?_
    refine hb_iload (q := 30) hc dd_X2_pairsSeenFrom_28 rfl rfl ?_
    obtain ⟨hi, h⟩ := h
    refine hb_iald (q := 31) (v := M.1 15 v7.toNatClampNeg) hc sh15 sl15 hi rfl rfl dd_X2_pairsSeenFrom_30 rfl ?_
    refine hb_iconst (q := 32) (v := (-1)) hc dd_X2_pairsSeenFrom_31 rfl ic_m1 ?_
    refine hb_icmp_eq (q := 35) (tg := 66) hc dd_X2_pairsSeenFrom_32 rfl (by decide) (fun z => ?_) (fun z => ?_)
    · replace h := h.1 z
      refine hb_iinc (q := 69) (v := v7 + 1) (lv' := [some (.ref 13), some (.int v1), some (.ref 3), some (.long v3), none, some (.long v5), none, some (.int (v7 + 1))]) hc dd_X2_pairsSeenFrom_66 rfl rfl rfl (Nat.le_of_ble_eq_true rfl) rfl ?_
      refine hb_goto (tg := 15) hc dd_X2_pairsSeenFrom_69 (by decide) ?_
      exact hb_weak (lvs (lvs (lvs (lvs (lvn (lvs (lvn (lvs lvz)))))))) (h p l e s m args below meth c G hc)
    · replace h := h.2 z
      refine hb_aload_n (q := 36) hc dd_X2_pairsSeenFrom_35 rfl rfl ?_
      refine hb_getR (q := 39) hc fl_X2_9 sh13 sl13 rfl dd_X2_pairsSeenFrom_36 rfl ?_
      refine hb_iload (q := 41) hc dd_X2_pairsSeenFrom_39 rfl rfl ?_
      obtain ⟨hi, h⟩ := h
      refine hb_iald (q := 42) (v := M.1 14 v7.toNatClampNeg) hc sh14 sl14 hi rfl rfl dd_X2_pairsSeenFrom_41 rfl ?_
      refine hb_iload_n (q := 43) hc dd_X2_pairsSeenFrom_42 rfl rfl ?_
      refine hb_isub (q := 44) hc dd_X2_pairsSeenFrom_43 rfl ?_
      refine hb_mabs (q := 47) (st := []) hc mv_X2_28 (Nat.le_add_left 1 d) (rm_lo (Nat.le_of_ble_eq_true rfl)) ⟨Nat.le_refl _, Nat.le_refl _⟩ dd_X2_pairsSeenFrom_44 rfl ?_
      refine hb_aload_n (q := 48) hc dd_X2_pairsSeenFrom_47 rfl rfl ?_
      refine hb_getI (q := 51) (v := M.1 3 2) hc fl_X2_39 sh3 sl3 rfl rfl dd_X2_pairsSeenFrom_48 rfl ?_
      refine hb_icmp_gt (q := 54) (tg := 66) hc dd_X2_pairsSeenFrom_51 rfl (by decide) (fun z => ?_) (fun z => ?_)
      · replace h := h.1 z
        refine hb_iinc (q := 69) (v := v7 + 1) (lv' := [some (.ref 13), some (.int v1), some (.ref 3), some (.long v3), none, some (.long v5), none, some (.int (v7 + 1))]) hc dd_X2_pairsSeenFrom_66 rfl rfl rfl (Nat.le_of_ble_eq_true rfl) rfl ?_
        refine hb_goto (tg := 15) hc dd_X2_pairsSeenFrom_69 (by decide) ?_
        exact hb_weak (lvs (lvs (lvs (lvs (lvn (lvs (lvn (lvs lvz)))))))) (h p l e s m args below meth c G hc)
      · replace h := h.2 z
        refine hb_lload (q := 56) hc dd_X2_pairsSeenFrom_54 rfl rfl ?_
        refine hb_lload_n (q := 57) hc dd_X2_pairsSeenFrom_56 rfl rfl ?_
        refine hb_iload (q := 59) hc dd_X2_pairsSeenFrom_57 rfl rfl ?_
        refine hb_bipush (q := 61) (v := 8) hc dd_X2_pairsSeenFrom_59 rfl bp_8 ?_
        refine hb_imul (q := 62) hc dd_X2_pairsSeenFrom_61 rfl ?_
        refine hb_lshl (q := 63) hc dd_X2_pairsSeenFrom_62 rfl ?_
        refine hb_lor (q := 64) hc dd_X2_pairsSeenFrom_63 rfl ?_
        refine hb_lstore (q := 66) (lv' := [some (.ref 13), some (.int v1), some (.ref 3), some (.long v3), none, some (.long (v5 ||| (v3 <<< ((v7 * 8).toInt64 &&& 63)))), none, some (.int v7)]) hc dd_X2_pairsSeenFrom_64 rfl (Nat.le_of_ble_eq_true rfl) rfl ?_
        refine hb_iinc (q := 69) (v := v7 + 1) (lv' := [some (.ref 13), some (.int v1), some (.ref 3), some (.long v3), none, some (.long (v5 ||| (v3 <<< ((v7 * 8).toInt64 &&& 63)))), none, some (.int (v7 + 1))]) hc dd_X2_pairsSeenFrom_66 rfl rfl rfl (Nat.le_of_ble_eq_true rfl) rfl ?_
        refine hb_goto (tg := 15) hc dd_X2_pairsSeenFrom_69 (by decide) ?_
        exact hb_weak (lvs (lvs (lvs (lvs (lvn (lvs (lvn (lvs lvz)))))))) (h p l e s m args below meth c G hc)
theorem w_X2_pairsSeenFrom {d : Nat} {M : Mm} {v1 : Int32} {K : Int64 → Mm → Prop}  (h : lp_X2_pairsSeenFrom_15 d M v1 (((1 : Int64) <<< ((M.1 3 0).toInt64 &&& 63)) - 1) 0 0 K) : ACl (d + 1) X2_pairsSeenFrom [.ref 13, .int v1, .ref 3] M K := by
  refine AC.ofW (lv := [some (.ref 13), some (.int v1), some (.ref 3), none, none, none, none, none]) pn_X2 (Nat.le_of_ble_eq_true rfl) (show lvLe _ [some (.ref 13), some (.int v1), some (.ref 3)] from (lvs (lvs (lvs (lve (lve (lve (lve (lve lvz))))))))) ?_
  intro p l e s m args below meth c G hc
  refine hb_lconst (q := 1) (v := 1) hc dd_X2_pairsSeenFrom_0 rfl lc_1 ?_
  refine hb_aload_n (q := 2) hc dd_X2_pairsSeenFrom_1 rfl rfl ?_
  refine hb_getI (q := 5) (v := M.1 3 0) hc fl_X2_34 sh3 sl3 rfl rfl dd_X2_pairsSeenFrom_2 rfl ?_
  refine hb_lshl (q := 6) hc dd_X2_pairsSeenFrom_5 rfl ?_
  refine hb_lconst (q := 7) (v := 1) hc dd_X2_pairsSeenFrom_6 rfl lc_1 ?_
  refine hb_lsub (q := 8) hc dd_X2_pairsSeenFrom_7 rfl ?_
  refine hb_lstore_n (q := 9) (lv' := [some (.ref 13), some (.int v1), some (.ref 3), some (.long (((1 : Int64) <<< ((M.1 3 0).toInt64 &&& 63)) - 1)), none, none, none, none]) hc dd_X2_pairsSeenFrom_8 rfl (Nat.le_of_ble_eq_true rfl) rfl ?_
  refine hb_lconst (q := 10) (v := 0) hc dd_X2_pairsSeenFrom_9 rfl lc_0 ?_
  refine hb_lstore (q := 12) (lv' := [some (.ref 13), some (.int v1), some (.ref 3), some (.long (((1 : Int64) <<< ((M.1 3 0).toInt64 &&& 63)) - 1)), none, some (.long 0), none, none]) hc dd_X2_pairsSeenFrom_10 rfl (Nat.le_of_ble_eq_true rfl) rfl ?_
  refine hb_iconst (q := 13) (v := 0) hc dd_X2_pairsSeenFrom_12 rfl ic_0 ?_
  refine hb_istore (q := 15) (lv' := [some (.ref 13), some (.int v1), some (.ref 3), some (.long (((1 : Int64) <<< ((M.1 3 0).toInt64 &&& 63)) - 1)), none, some (.long 0), none, some (.int 0)]) hc dd_X2_pairsSeenFrom_13 rfl (Nat.le_of_ble_eq_true rfl) rfl ?_
  exact hb_weak (lvs (lvs (lvs (lvs (lvn (lvs (lvn (lvs lvz)))))))) (h p l e s m args below meth c G hc)
def lp_X2_pairsThatFlash_5 (d : Nat) (M : Mm) (v2 : Int64) (v4 : Int32) (K : Int64 → Mm → Prop) : Prop := AW (d + 1) X2_pairsThatFlash M 5 [some (.ref 13), some (.ref 3), some (.long v2), none, some (.int v4), none] [] (QL K)
def lp_X2_pairsThatFlash_17 (d : Nat) (M : Mm) (v2 : Int64) (v4 : Int32) (v5 : Int32) (K : Int64 → Mm → Prop) : Prop := AW (d + 1) X2_pairsThatFlash M 17 [some (.ref 13), some (.ref 3), some (.long v2), none, some (.int v4), some (.int v5)] [] (QL K)
theorem z_X2_pairsThatFlash_5 {d : Nat} {M : Mm} {v2 : Int64} {v4 : Int32} {K : Int64 → Mm → Prop}  (h : ((M.1 13 0) ≤ v4 → (K v2 M)) ∧ (¬ (M.1 13 0) ≤ v4 → (lp_X2_pairsThatFlash_17 d M v2 v4 0 K))) : lp_X2_pairsThatFlash_5 d M v2 v4 K := by
  intro p l e s m args below meth c G hc
  refine hb_iload (q := 7) hc dd_X2_pairsThatFlash_5 rfl rfl ?_
  refine hb_aload_n (q := 8) hc dd_X2_pairsThatFlash_7 rfl rfl ?_
  refine hb_getI (q := 11) (v := M.1 13 0) hc fl_X2_18 sh13 sl13 rfl rfl dd_X2_pairsThatFlash_8 rfl ?_
  refine hb_icmp_ge (q := 14) (tg := 67) hc dd_X2_pairsThatFlash_11 rfl (by decide) (fun z => ?_) (fun z => ?_)
  · replace h := h.1 z
    refine hb_lload_n (q := 68) hc dd_X2_pairsThatFlash_67 rfl rfl ?_
    exact hb_lret hc rfl dd_X2_pairsThatFlash_68 h
  · replace h := h.2 z
    refine hb_iconst (q := 15) (v := 0) hc dd_X2_pairsThatFlash_14 rfl ic_0 ?_
    refine hb_istore (q := 17) (lv' := [some (.ref 13), some (.ref 3), some (.long v2), none, some (.int v4), some (.int 0)]) hc dd_X2_pairsThatFlash_15 rfl (Nat.le_of_ble_eq_true rfl) rfl ?_
    exact hb_weak (lvs (lvs (lvs (lvn (lvs (lvs lvz)))))) (h p l e s m args below meth c G hc)
theorem z_X2_pairsThatFlash_17 {d : Nat} {M : Mm} {v2 : Int64} {v4 : Int32} {v5 : Int32} {K : Int64 → Mm → Prop}  (h : ((M.1 3 0) ≤ v5 → (lp_X2_pairsThatFlash_5 d M v2 (v4 + 1) K)) ∧ (¬ (M.1 3 0) ≤ v5 → (vp_in v4 6 ∧ (ACi d X0_hasFlash [.ref 3, .int (M.1 15 v4.toNatClampNeg), .int v5] M (fun r1 M1 => (r1 = 0 → (lp_X2_pairsThatFlash_17 d M1 v2 v4 (v5 + 1) K)) ∧ (¬ r1 = 0 → (lp_X2_pairsThatFlash_17 d M1 (v2 ||| ((1 : Int64) <<< (((v4 * 8) + v5).toInt64 &&& 63))) v4 (v5 + 1) K))))))) : lp_X2_pairsThatFlash_17 d M v2 v4 v5 K := by
  intro p l e s m args below meth c G hc
  refine hb_iload (q := 19) hc dd_X2_pairsThatFlash_17 rfl rfl ?_
  refine hb_aload_n (q := 20) hc dd_X2_pairsThatFlash_19 rfl rfl ?_
  refine hb_getI (q := 23) (v := M.1 3 0) hc fl_X2_34 sh3 sl3 rfl rfl dd_X2_pairsThatFlash_20 rfl ?_
  refine hb_icmp_ge (q := 26) (tg := 61) hc dd_X2_pairsThatFlash_23 rfl (by decide) (fun z => ?_) (fun z => ?_)
  · replace h := h.1 z
    refine hb_iinc (q := 64) (v := v4 + 1) (lv' := [some (.ref 13), some (.ref 3), some (.long v2), none, some (.int (v4 + 1)), some (.int v5)]) hc dd_X2_pairsThatFlash_61 rfl rfl rfl (Nat.le_of_ble_eq_true rfl) rfl ?_
    refine hb_goto (tg := 5) hc dd_X2_pairsThatFlash_64 (by decide) ?_
    exact hb_weak (lvs (lvs (lvs (lvn (lvs (lvn lvz)))))) (h p l e s m args below meth c G hc)
  · replace h := h.2 z
    refine hb_aload_n (q := 27) hc dd_X2_pairsThatFlash_26 rfl rfl ?_
    refine hb_aload_n (q := 28) hc dd_X2_pairsThatFlash_27 rfl rfl ?_
    refine hb_getR (q := 31) hc fl_X2_15 sh13 sl13 rfl dd_X2_pairsThatFlash_28 rfl ?_
    refine hb_iload (q := 33) hc dd_X2_pairsThatFlash_31 rfl rfl ?_
    obtain ⟨hi, h⟩ := h
    refine hb_iald (q := 34) (v := M.1 15 v4.toNatClampNeg) hc sh15 sl15 hi rfl rfl dd_X2_pairsThatFlash_33 rfl ?_
    refine hb_iload (q := 36) hc dd_X2_pairsThatFlash_34 rfl rfl ?_
    refine hb_callVi (q := 39) (vs := [.int (M.1 15 v4.toNatClampNeg), .int v5]) (st := []) hc mv_X2_42 h sh3 sl3 rfl rfl rfl (Nat.le_of_ble_eq_true rfl) ⟨Nat.le_refl _, Nat.le_refl _⟩ ⟨Nat.le_refl _, Nat.le_refl _⟩ dd_X2_pairsThatFlash_36 rfl (fun r1 M1 h => ?_)
    refine hb_if_eq (q := 42) (tg := 55) hc dd_X2_pairsThatFlash_39 rfl (by decide) (fun z => ?_) (fun z => ?_)
    · replace h := h.1 z
      refine hb_iinc (q := 58) (v := v5 + 1) (lv' := [some (.ref 13), some (.ref 3), some (.long v2), none, some (.int v4), some (.int (v5 + 1))]) hc dd_X2_pairsThatFlash_55 rfl rfl rfl (Nat.le_of_ble_eq_true rfl) rfl ?_
      refine hb_goto (tg := 17) hc dd_X2_pairsThatFlash_58 (by decide) ?_
      exact hb_weak (lvs (lvs (lvs (lvn (lvs (lvs lvz)))))) (h p l e s m args below meth c G hc)
    · replace h := h.2 z
      refine hb_lload_n (q := 43) hc dd_X2_pairsThatFlash_42 rfl rfl ?_
      refine hb_lconst (q := 44) (v := 1) hc dd_X2_pairsThatFlash_43 rfl lc_1 ?_
      refine hb_iload (q := 46) hc dd_X2_pairsThatFlash_44 rfl rfl ?_
      refine hb_bipush (q := 48) (v := 8) hc dd_X2_pairsThatFlash_46 rfl bp_8 ?_
      refine hb_imul (q := 49) hc dd_X2_pairsThatFlash_48 rfl ?_
      refine hb_iload (q := 51) hc dd_X2_pairsThatFlash_49 rfl rfl ?_
      refine hb_iadd (q := 52) hc dd_X2_pairsThatFlash_51 rfl ?_
      refine hb_lshl (q := 53) hc dd_X2_pairsThatFlash_52 rfl ?_
      refine hb_lor (q := 54) hc dd_X2_pairsThatFlash_53 rfl ?_
      refine hb_lstore_n (q := 55) (lv' := [some (.ref 13), some (.ref 3), some (.long (v2 ||| ((1 : Int64) <<< (((v4 * 8) + v5).toInt64 &&& 63)))), none, some (.int v4), some (.int v5)]) hc dd_X2_pairsThatFlash_54 rfl (Nat.le_of_ble_eq_true rfl) rfl ?_
      refine hb_iinc (q := 58) (v := v5 + 1) (lv' := [some (.ref 13), some (.ref 3), some (.long (v2 ||| ((1 : Int64) <<< (((v4 * 8) + v5).toInt64 &&& 63)))), none, some (.int v4), some (.int (v5 + 1))]) hc dd_X2_pairsThatFlash_55 rfl rfl rfl (Nat.le_of_ble_eq_true rfl) rfl ?_
      refine hb_goto (tg := 17) hc dd_X2_pairsThatFlash_58 (by decide) ?_
      exact hb_weak (lvs (lvs (lvs (lvn (lvs (lvs lvz)))))) (h p l e s m args below meth c G hc)
theorem w_X2_pairsThatFlash {d : Nat} {M : Mm}  {K : Int64 → Mm → Prop}  (h : lp_X2_pairsThatFlash_5 d M 0 0 K) : ACl (d + 1) X2_pairsThatFlash [.ref 13, .ref 3] M K := by
  refine AC.ofW (lv := [some (.ref 13), some (.ref 3), none, none, none, none]) pn_X2 (Nat.le_of_ble_eq_true rfl) (show lvLe _ [some (.ref 13), some (.ref 3)] from (lvs (lvs (lve (lve (lve (lve lvz))))))) ?_
  intro p l e s m args below meth c G hc
  refine hb_lconst (q := 1) (v := 0) hc dd_X2_pairsThatFlash_0 rfl lc_0 ?_
  refine hb_lstore_n (q := 2) (lv' := [some (.ref 13), some (.ref 3), some (.long 0), none, none, none]) hc dd_X2_pairsThatFlash_1 rfl (Nat.le_of_ble_eq_true rfl) rfl ?_
  refine hb_iconst (q := 3) (v := 0) hc dd_X2_pairsThatFlash_2 rfl ic_0 ?_
  refine hb_istore (q := 5) (lv' := [some (.ref 13), some (.ref 3), some (.long 0), none, some (.int 0), none]) hc dd_X2_pairsThatFlash_3 rfl (Nat.le_of_ble_eq_true rfl) rfl ?_
  exact hb_weak (lvs (lvs (lvs (lvn (lvs (lvn lvz)))))) (h p l e s m args below meth c G hc)
