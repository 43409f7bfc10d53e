/-! WALKS, by program (wip/whole/gen6.py). -/
theorem w_X0_beginAnew {d : Nat} {M : Mm} {v1 : Int32} {K : Mm → Prop}  (h : K (wI (wI (wI (wI (wI M 8 0 v1) 8 1 2) 8 2 20) 8 3 0) 10 0 0)) : ACv (d + 1) X0_beginAnew [.ref 8, .int v1] M K := by
  refine AC.ofW (lv := [some (.ref 8), some (.int v1)]) pn_X0 (Nat.le_of_ble_eq_true rfl) (show lvLe _ [some (.ref 8), some (.int v1)] from (lvs (lvs lvz))) ?_
  intro p l e s m args below meth c G hc
  refine hb_aload_n (q := 1) hc dd_X0_beginAnew_0 rfl rfl ?_
  refine hb_iload_n (q := 2) hc dd_X0_beginAnew_1 rfl rfl ?_
  refine hb_putI (q := 5) hc fl_X0_26 sh8 sl8 rfl dd_X0_beginAnew_2 rfl ?_
  refine hb_aload_n (q := 6) hc dd_X0_beginAnew_5 rfl rfl ?_
  refine hb_iconst (q := 7) (v := 2) hc dd_X0_beginAnew_6 rfl ic_2 ?_
  refine hb_putI (q := 10) hc fl_X0_30 sh8 sl8 rfl dd_X0_beginAnew_7 rfl ?_
  refine hb_aload_n (q := 11) hc dd_X0_beginAnew_10 rfl rfl ?_
  refine hb_bipush (q := 13) (v := 20) hc dd_X0_beginAnew_11 rfl bp_20 ?_
  refine hb_putI (q := 16) hc fl_X0_33 sh8 sl8 rfl dd_X0_beginAnew_13 rfl ?_
  refine hb_aload_n (q := 17) hc dd_X0_beginAnew_16 rfl rfl ?_
  refine hb_iconst (q := 18) (v := 0) hc dd_X0_beginAnew_17 rfl ic_0 ?_
  refine hb_putI (q := 21) hc fl_X0_36 sh8 sl8 rfl dd_X0_beginAnew_18 rfl ?_
  refine hb_aload_n (q := 22) hc dd_X0_beginAnew_21 rfl rfl ?_
  refine hb_getR (q := 25) hc fl_X0_18 sh8 sl8 rfl dd_X0_beginAnew_22 rfl ?_
  refine hb_iconst (q := 26) (v := 0) hc dd_X0_beginAnew_25 rfl ic_0 ?_
  refine hb_putI (q := 29) hc fl_X0_39 sh10 sl10 rfl dd_X0_beginAnew_26 rfl ?_
  exact hb_vret hc rfl dd_X0_beginAnew_29 h
theorem w_X0_become {d : Nat} {M : Mm} {a : Nat} {b : Nat} {K : Mm → Prop} (ha : isBk a) (hb : isBk b) (h : ACv d X2_become [.ref (a + 2), .ref (b + 2)] (cpI (wI (wI (wI (wI M a 0 (M.1 b 0)) a 1 ((wI M a 0 (M.1 b 0)).1 b 1)) a 2 ((wI (wI M a 0 (M.1 b 0)) a 1 ((wI M a 0 (M.1 b 0)).1 b 1)).1 b 2)) a 3 ((wI (wI (wI M a 0 (M.1 b 0)) a 1 ((wI M a 0 (M.1 b 0)).1 b 1)) a 2 ((wI (wI M a 0 (M.1 b 0)) a 1 ((wI M a 0 (M.1 b 0)).1 b 1)).1 b 2)).1 b 3)) (b + 1) 0 (a + 1) 0 8) (fun M1 => K M1)) : ACv (d + 1) X0_become [.ref a, .ref b] M K := by
  refine AC.ofW (lv := [some (.ref a), some (.ref b)]) pn_X0 (Nat.le_of_ble_eq_true rfl) (show lvLe _ [some (.ref a), some (.ref b)] from (lvs (lvs lvz))) ?_
  intro p l e s m args below meth c G hc
  refine hb_aload_n (q := 1) hc dd_X0_become_0 rfl rfl ?_
  refine hb_aload_n (q := 2) hc dd_X0_become_1 rfl rfl ?_
  refine hb_getI (q := 5) (v := M.1 b 0) hc fl_X0_26 (bk_s hb) (bk_l hb) rfl rfl dd_X0_become_2 rfl ?_
  refine hb_putI (q := 8) hc fl_X0_26 (bk_s ha) (bk_l ha) rfl dd_X0_become_5 rfl ?_
  refine hb_aload_n (q := 9) hc dd_X0_become_8 rfl rfl ?_
  refine hb_aload_n (q := 10) hc dd_X0_become_9 rfl rfl ?_
  refine hb_getI (q := 13) (v := (wI M a 0 (M.1 b 0)).1 b 1) hc fl_X0_30 (bk_s hb) (bk_l hb) rfl rfl dd_X0_become_10 rfl ?_
  refine hb_putI (q := 16) hc fl_X0_30 (bk_s ha) (bk_l ha) rfl dd_X0_become_13 rfl ?_
  refine hb_aload_n (q := 17) hc dd_X0_become_16 rfl rfl ?_
  refine hb_aload_n (q := 18) hc dd_X0_become_17 rfl rfl ?_
  refine hb_getI (q := 21) (v := (wI (wI M a 0 (M.1 b 0)) a 1 ((wI M a 0 (M.1 b 0)).1 b 1)).1 b 2) hc fl_X0_33 (bk_s hb) (bk_l hb) rfl rfl dd_X0_become_18 rfl ?_
  refine hb_putI (q := 24) hc fl_X0_33 (bk_s ha) (bk_l ha) rfl dd_X0_become_21 rfl ?_
  refine hb_aload_n (q := 25) hc dd_X0_become_24 rfl rfl ?_
  refine hb_aload_n (q := 26) hc dd_X0_become_25 rfl rfl ?_
  refine hb_getI (q := 29) (v := (wI (wI (wI M a 0 (M.1 b 0)) a 1 ((wI M a 0 (M.1 b 0)).1 b 1)) a 2 ((wI (wI M a 0 (M.1 b 0)) a 1 ((wI M a 0 (M.1 b 0)).1 b 1)).1 b 2)).1 b 3) hc fl_X0_36 (bk_s hb) (bk_l hb) rfl rfl dd_X0_become_26 rfl ?_
  refine hb_putI (q := 32) hc fl_X0_36 (bk_s ha) (bk_l ha) rfl dd_X0_become_29 rfl ?_
  refine hb_aload_n (q := 33) hc dd_X0_become_32 rfl rfl ?_
  refine hb_getR (q := 36) hc fl_X0_9 (bk_s hb) (bk_l hb) rfl dd_X0_become_33 rfl ?_
  refine hb_iconst (q := 37) (v := 0) hc dd_X0_become_36 rfl ic_0 ?_
  refine hb_aload_n (q := 38) hc dd_X0_become_37 rfl rfl ?_
  refine hb_getR (q := 41) hc fl_X0_9 (bk_s ha) (bk_l ha) rfl dd_X0_become_38 rfl ?_
  refine hb_iconst (q := 42) (v := 0) hc dd_X0_become_41 rfl ic_0 ?_
  refine hb_bipush (q := 44) (v := 8) hc dd_X0_become_42 rfl bp_8 ?_
  refine hb_copyI (q := 47) (k1 := 0) (k2 := 0) (k3 := 8) (st := []) hc mv_X0_40 (bk_s1 hb) (bk_l1 hb) (bk_s1 ha) (bk_l1 ha) ng_0 ng_0 ng_8 cl_0 cl_0 cl_8 (by decide) (by decide) (Nat.le_add_left 1 d) (rm_lo (Nat.le_of_ble_eq_true rfl)) dd_X0_become_44 rfl ?_
  refine hb_aload_n (q := 48) hc dd_X0_become_47 rfl rfl ?_
  refine hb_getR (q := 51) hc fl_X0_18 (bk_s ha) (bk_l ha) rfl dd_X0_become_48 rfl ?_
  refine hb_aload_n (q := 52) hc dd_X0_become_51 rfl rfl ?_
  refine hb_getR (q := 55) hc fl_X0_18 (bk_s hb) (bk_l hb) rfl dd_X0_become_52 rfl ?_
  refine hb_callVv (q := 58) (vs := [.ref (b + 2)]) (st := []) hc mv_X0_46 h (li_s (bk_li ha)) (li_l (bk_li ha)) rfl rfl rfl (Nat.le_of_ble_eq_true rfl) ⟨Nat.le_refl _, Nat.le_refl _⟩ ⟨Nat.le_refl _, Nat.le_refl _⟩ dd_X0_become_55 rfl (fun M1 h => ?_)
  exact hb_vret hc rfl dd_X0_become_58 h
theorem w_X0_hasRhythm {d : Nat} {M : Mm} {v1 : Int32} {K : Int32 → Mm → Prop}  (h : (v1 < 0 → (K 0 M)) ∧ (¬ v1 < 0 → (((M.1 3 3) ≤ v1 → (K 0 M)) ∧ (¬ (M.1 3 3) ≤ v1 → (K 1 M))))) : ACi (d + 1) X0_hasRhythm [.ref 3, .int v1] M K := by
  refine AC.ofW (lv := [some (.ref 3), some (.int v1)]) pn_X0 (Nat.le_of_ble_eq_true rfl) (show lvLe _ [some (.ref 3), some (.int v1)] from (lvs (lvs lvz))) ?_
  intro p l e s m args below meth c G hc
  refine hb_iload_n (q := 1) hc dd_X0_hasRhythm_0 rfl rfl ?_
  refine hb_if_lt (q := 4) (tg := 16) hc dd_X0_hasRhythm_1 rfl (by decide) (fun z => ?_) (fun z => ?_)
  · replace h := h.1 z
    refine hb_iconst (q := 17) (v := 0) hc dd_X0_hasRhythm_16 rfl ic_0 ?_
    exact hb_zret hc rfl (by decide) dd_X0_hasRhythm_17 h
  · replace h := h.2 z
    refine hb_iload_n (q := 5) hc dd_X0_hasRhythm_4 rfl rfl ?_
    refine hb_aload_n (q := 6) hc dd_X0_hasRhythm_5 rfl rfl ?_
    refine hb_getI (q := 9) (v := M.1 3 3) hc fl_X0_36 sh3 sl3 rfl rfl dd_X0_hasRhythm_6 rfl ?_
    refine hb_icmp_ge (q := 12) (tg := 16) hc dd_X0_hasRhythm_9 rfl (by decide) (fun z => ?_) (fun z => ?_)
    · replace h := h.1 z
      refine hb_iconst (q := 17) (v := 0) hc dd_X0_hasRhythm_16 rfl ic_0 ?_
      exact hb_zret hc rfl (by decide) dd_X0_hasRhythm_17 h
    · replace h := h.2 z
      refine hb_iconst (q := 13) (v := 1) hc dd_X0_hasRhythm_12 rfl ic_1 ?_
      refine hb_goto (tg := 17) hc dd_X0_hasRhythm_13 (by decide) ?_
      exact hb_zret hc rfl (by decide) dd_X0_hasRhythm_17 h
theorem w_X0_addRhythm {d : Nat} {M : Mm} {v1 : Int32} {K : Mm → Prop}  (h : (8 ≤ (M.1 8 3) → (K M)) ∧ (¬ 8 ≤ (M.1 8 3) → (vp_in (M.1 8 3) 8 ∧ (K (wI (wI M 9 ((M.1 8 3).toNatClampNeg) v1) 8 3 ((M.1 8 3) + 1)))))) : ACv (d + 1) X0_addRhythm [.ref 8, .int v1] M K := by
  refine AC.ofW (lv := [some (.ref 8), some (.int v1)]) pn_X0 (Nat.le_of_ble_eq_true rfl) (show lvLe _ [some (.ref 8), some (.int v1)] from (lvs (lvs lvz))) ?_
  intro p l e s m args below meth c G hc
  refine hb_aload_n (q := 1) hc dd_X0_addRhythm_0 rfl rfl ?_
  refine hb_getI (q := 4) (v := M.1 8 3) hc fl_X0_36 sh8 sl8 rfl rfl dd_X0_addRhythm_1 rfl ?_
  refine hb_bipush (q := 6) (v := 8) hc dd_X0_addRhythm_4 rfl bp_8 ?_
  refine hb_icmp_ge (q := 9) (tg := 29) hc dd_X0_addRhythm_6 rfl (by decide) (fun z => ?_) (fun z => ?_)
  · replace h := h.1 z
    exact hb_vret hc rfl dd_X0_addRhythm_29 h
  · replace h := h.2 z
    refine hb_aload_n (q := 10) hc dd_X0_addRhythm_9 rfl rfl ?_
    refine hb_getR (q := 13) hc fl_X0_9 sh8 sl8 rfl dd_X0_addRhythm_10 rfl ?_
    refine hb_aload_n (q := 14) hc dd_X0_addRhythm_13 rfl rfl ?_
    refine hb_getI (q := 17) (v := M.1 8 3) hc fl_X0_36 sh8 sl8 rfl rfl dd_X0_addRhythm_14 rfl ?_
    refine hb_iload_n (q := 18) hc dd_X0_addRhythm_17 rfl rfl ?_
    obtain ⟨hi, h⟩ := h
    refine hb_iast (q := 19) hc sh9 sl9 hi rfl dd_X0_addRhythm_18 rfl ?_
    refine hb_aload_n (q := 20) hc dd_X0_addRhythm_19 rfl rfl ?_
    refine hb_dup (q := 21) hc dd_X0_addRhythm_20 rfl rfl ?_
    refine hb_getI (q := 24) (v := M.1 8 3) hc fl_X0_36 sh8 sl8 rfl (by simp [wI, wL, cpI, cpL]) dd_X0_addRhythm_21 rfl ?_
    refine hb_iconst (q := 25) (v := 1) hc dd_X0_addRhythm_24 rfl ic_1 ?_
    refine hb_iadd (q := 26) hc dd_X0_addRhythm_25 rfl ?_
    refine hb_putI (q := 29) hc fl_X0_36 sh8 sl8 rfl dd_X0_addRhythm_26 rfl ?_
    exact hb_vret hc rfl dd_X0_addRhythm_29 h
theorem w_X0_hasFlash {d : Nat} {M : Mm} {v1 : Int32} {v2 : Int32} {K : Int32 → Mm → Prop}  (h : ACi d X0_hasRhythm [.ref 3, .int v1] M (fun r1 M1 => (r1 = 0 → (K 0 M1)) ∧ (¬ r1 = 0 → (vp_in v1 8 ∧ ((¬ (((M1.1 4 v1.toNatClampNeg) >>> ((((M1.1 3 0) - 1) - v2) &&& 31)) &&& 1) = 1 → (K 0 M1)) ∧ ((((M1.1 4 v1.toNatClampNeg) >>> ((((M1.1 3 0) - 1) - v2) &&& 31)) &&& 1) = 1 → (K 1 M1))))))) : ACi (d + 1) X0_hasFlash [.ref 3, .int v1, .int v2] M K := by
  refine AC.ofW (lv := [some (.ref 3), some (.int v1), some (.int v2)]) pn_X0 (Nat.le_of_ble_eq_true rfl) (show lvLe _ [some (.ref 3), some (.int v1), some (.int v2)] from (lvs (lvs (lvs lvz)))) ?_
  intro p l e s m args below meth c G hc
  refine hb_aload_n (q := 1) hc dd_X0_hasFlash_0 rfl rfl ?_
  refine hb_iload_n (q := 2) hc dd_X0_hasFlash_1 rfl rfl ?_
  refine hb_callVi (q := 5) (vs := [.int v1]) (st := []) hc mv_X0_50 h sh3 sl3 rfl rfl rfl (Nat.le_of_ble_eq_true rfl) ⟨Nat.le_refl _, Nat.le_refl _⟩ ⟨Nat.le_refl _, Nat.le_refl _⟩ dd_X0_hasFlash_2 rfl (fun r1 M1 h => ?_)
  refine hb_if_eq (q := 8) (tg := 33) hc dd_X0_hasFlash_5 rfl (by decide) (fun z => ?_) (fun z => ?_)
  · replace h := h.1 z
    refine hb_iconst (q := 34) (v := 0) hc dd_X0_hasFlash_33 rfl ic_0 ?_
    exact hb_zret hc rfl (by decide) dd_X0_hasFlash_34 h
  · replace h := h.2 z
    refine hb_aload_n (q := 9) hc dd_X0_hasFlash_8 rfl rfl ?_
    refine hb_getR (q := 12) hc fl_X0_9 sh3 sl3 rfl dd_X0_hasFlash_9 rfl ?_
    refine hb_iload_n (q := 13) hc dd_X0_hasFlash_12 rfl rfl ?_
    obtain ⟨hi, h⟩ := h
    refine hb_iald (q := 14) (v := M1.1 4 v1.toNatClampNeg) hc sh4 sl4 hi rfl rfl dd_X0_hasFlash_13 rfl ?_
    refine hb_aload_n (q := 15) hc dd_X0_hasFlash_14 rfl rfl ?_
    refine hb_getI (q := 18) (v := M1.1 3 0) hc fl_X0_26 sh3 sl3 rfl rfl dd_X0_hasFlash_15 rfl ?_
    refine hb_iconst (q := 19) (v := 1) hc dd_X0_hasFlash_18 rfl ic_1 ?_
    refine hb_isub (q := 20) hc dd_X0_hasFlash_19 rfl ?_
    refine hb_iload_n (q := 21) hc dd_X0_hasFlash_20 rfl rfl ?_
    refine hb_isub (q := 22) hc dd_X0_hasFlash_21 rfl ?_
    refine hb_ishr (q := 23) hc dd_X0_hasFlash_22 rfl ?_
    refine hb_iconst (q := 24) (v := 1) hc dd_X0_hasFlash_23 rfl ic_1 ?_
    refine hb_iand (q := 25) hc dd_X0_hasFlash_24 rfl ?_
    refine hb_iconst (q := 26) (v := 1) hc dd_X0_hasFlash_25 rfl ic_1 ?_
    refine hb_icmp_ne (q := 29) (tg := 33) hc dd_X0_hasFlash_26 rfl (by decide) (fun z => ?_) (fun z => ?_)
    · replace h := h.1 z
      refine hb_iconst (q := 34) (v := 0) hc dd_X0_hasFlash_33 rfl ic_0 ?_
      exact hb_zret hc rfl (by decide) dd_X0_hasFlash_34 h
    · replace h := h.2 z
      refine hb_iconst (q := 30) (v := 1) hc dd_X0_hasFlash_29 rfl ic_1 ?_
      refine hb_goto (tg := 34) hc dd_X0_hasFlash_30 (by decide) ?_
      exact hb_zret hc rfl (by decide) dd_X0_hasFlash_34 h
theorem w_X0_turned {d : Nat} {M : Mm} {v1 : Int32} {v2 : Int32} {K : Int32 → Mm → Prop}  (h : vp_in v1 8 ∧ (K ((((M.1 4 v1.toNatClampNeg) <<< (v2 &&& 31)) ||| ((M.1 4 v1.toNatClampNeg) >>> (((M.1 3 0) - v2) &&& 31))) &&& ((1 <<< ((M.1 3 0) &&& 31)) - 1)) M)) : ACi (d + 1) X0_turned [.ref 3, .int v1, .int v2] M K := by
  refine AC.ofW (lv := [some (.ref 3), some (.int v1), some (.int v2), none, none]) pn_X0 (Nat.le_of_ble_eq_true rfl) (show lvLe _ [some (.ref 3), some (.int v1), some (.int v2)] from (lvs (lvs (lvs (lve (lve lvz)))))) ?_
  intro p l e s m args below meth c G hc
  refine hb_aload_n (q := 1) hc dd_X0_turned_0 rfl rfl ?_
  refine hb_getR (q := 4) hc fl_X0_9 sh3 sl3 rfl dd_X0_turned_1 rfl ?_
  refine hb_iload_n (q := 5) hc dd_X0_turned_4 rfl rfl ?_
  obtain ⟨hi, h⟩ := h
  refine hb_iald (q := 6) (v := M.1 4 v1.toNatClampNeg) hc sh4 sl4 hi rfl rfl dd_X0_turned_5 rfl ?_
  refine hb_istore_n (q := 7) (lv' := [some (.ref 3), some (.int v1), some (.int v2), some (.int (M.1 4 v1.toNatClampNeg)), none]) hc dd_X0_turned_6 rfl (Nat.le_of_ble_eq_true rfl) rfl ?_
  refine hb_iconst (q := 8) (v := 1) hc dd_X0_turned_7 rfl ic_1 ?_
  refine hb_aload_n (q := 9) hc dd_X0_turned_8 rfl rfl ?_
  refine hb_getI (q := 12) (v := M.1 3 0) hc fl_X0_26 sh3 sl3 rfl rfl dd_X0_turned_9 rfl ?_
  refine hb_ishl (q := 13) hc dd_X0_turned_12 rfl ?_
  refine hb_iconst (q := 14) (v := 1) hc dd_X0_turned_13 rfl ic_1 ?_
  refine hb_isub (q := 15) hc dd_X0_turned_14 rfl ?_
  refine hb_istore (q := 17) (lv' := [some (.ref 3), some (.int v1), some (.int v2), some (.int (M.1 4 v1.toNatClampNeg)), some (.int ((1 <<< ((M.1 3 0) &&& 31)) - 1))]) hc dd_X0_turned_15 rfl (Nat.le_of_ble_eq_true rfl) rfl ?_
  refine hb_iload_n (q := 18) hc dd_X0_turned_17 rfl rfl ?_
  refine hb_iload_n (q := 19) hc dd_X0_turned_18 rfl rfl ?_
  refine hb_ishl (q := 20) hc dd_X0_turned_19 rfl ?_
  refine hb_iload_n (q := 21) hc dd_X0_turned_20 rfl rfl ?_
  refine hb_aload_n (q := 22) hc dd_X0_turned_21 rfl rfl ?_
  refine hb_getI (q := 25) (v := M.1 3 0) hc fl_X0_26 sh3 sl3 rfl rfl dd_X0_turned_22 rfl ?_
  refine hb_iload_n (q := 26) hc dd_X0_turned_25 rfl rfl ?_
  refine hb_isub (q := 27) hc dd_X0_turned_26 rfl ?_
  refine hb_ishr (q := 28) hc dd_X0_turned_27 rfl ?_
  refine hb_ior (q := 29) hc dd_X0_turned_28 rfl ?_
  refine hb_iload (q := 31) hc dd_X0_turned_29 rfl rfl ?_
  refine hb_iand (q := 32) hc dd_X0_turned_31 rfl ?_
  exact hb_iret hc rfl dd_X0_turned_32 h
def lp_X0_turnsToLeast_4 (d : Nat) (M : Mm) (v1 : Int32) (v2 : Int32) (v3 : Int32) (K : Int32 → Mm → Prop) : Prop := AW (d + 1) X0_turnsToLeast M 4 [some (.ref 3), some (.int v1), some (.int v2), some (.int v3)] [] (QI K)
theorem z_X0_turnsToLeast_4 {d : Nat} {M : Mm} {v1 : Int32} {v2 : Int32} {v3 : Int32} {K : Int32 → Mm → Prop}  (h : ((M.1 3 0) ≤ v3 → (K v2 M)) ∧ (¬ (M.1 3 0) ≤ v3 → (ACi d X0_turned [.ref 3, .int v1, .int v3] M (fun r1 M1 => ACi d X0_turned [.ref 3, .int v1, .int v2] M1 (fun r2 M2 => (r2 ≤ r1 → (lp_X0_turnsToLeast_4 d M2 v1 v2 (v3 + 1) K)) ∧ (¬ r2 ≤ r1 → (lp_X0_turnsToLeast_4 d M2 v1 v3 (v3 + 1) K))))))) : lp_X0_turnsToLeast_4 d M v1 v2 v3 K := by
  intro p l e s m args below meth c G hc
  refine hb_iload_n (q := 5) hc dd_X0_turnsToLeast_4 rfl rfl ?_
  refine hb_aload_n (q := 6) hc dd_X0_turnsToLeast_5 rfl rfl ?_
  refine hb_getI (q := 9) (v := M.1 3 0) hc fl_X0_26 sh3 sl3 rfl rfl dd_X0_turnsToLeast_6 rfl ?_
  refine hb_icmp_ge (q := 12) (tg := 35) hc dd_X0_turnsToLeast_9 rfl (by decide) (fun z => ?_) (fun z => ?_)
  · replace h := h.1 z
    refine hb_iload_n (q := 36) hc dd_X0_turnsToLeast_35 rfl rfl ?_
    exact hb_iret hc rfl dd_X0_turnsToLeast_36 h
  · replace h := h.2 z
    refine hb_aload_n (q := 13) hc dd_X0_turnsToLeast_12 rfl rfl ?_
    refine hb_iload_n (q := 14) hc dd_X0_turnsToLeast_13 rfl rfl ?_
    refine hb_iload_n (q := 15) hc dd_X0_turnsToLeast_14 rfl rfl ?_
    refine hb_callVi (q := 18) (vs := [.int v1, .int v3]) (st := []) hc mv_X0_54 h sh3 sl3 rfl rfl rfl (Nat.le_of_ble_eq_true rfl) ⟨Nat.le_refl _, Nat.le_refl _⟩ ⟨Nat.le_refl _, Nat.le_refl _⟩ dd_X0_turnsToLeast_15 rfl (fun r1 M1 h => ?_)
    refine hb_aload_n (q := 19) hc dd_X0_turnsToLeast_18 rfl rfl ?_
    refine hb_iload_n (q := 20) hc dd_X0_turnsToLeast_19 rfl rfl ?_
    refine hb_iload_n (q := 21) hc dd_X0_turnsToLeast_20 rfl rfl ?_
    refine hb_callVi (q := 24) (vs := [.int v1, .int v2]) (st := [.int r1]) hc mv_X0_54 h sh3 sl3 rfl rfl rfl (Nat.le_of_ble_eq_true rfl) ⟨Nat.le_refl _, Nat.le_refl _⟩ ⟨Nat.le_refl _, Nat.le_refl _⟩ dd_X0_turnsToLeast_21 rfl (fun r2 M2 h => ?_)
    refine hb_icmp_ge (q := 27) (tg := 29) hc dd_X0_turnsToLeast_24 rfl (by decide) (fun z => ?_) (fun z => ?_)
    · replace h := h.1 z
      refine hb_iinc (q := 32) (v := v3 + 1) (lv' := [some (.ref 3), some (.int v1), some (.int v2), some (.int (v3 + 1))]) hc dd_X0_turnsToLeast_29 rfl rfl rfl (Nat.le_of_ble_eq_true rfl) rfl ?_
      refine hb_goto (tg := 4) hc dd_X0_turnsToLeast_32 (by decide) ?_
      exact hb_weak (lvs (lvs (lvs (lvs lvz)))) (h p l e s m args below meth c G hc)
    · replace h := h.2 z
      refine hb_iload_n (q := 28) hc dd_X0_turnsToLeast_27 rfl rfl ?_
      refine hb_istore_n (q := 29) (lv' := [some (.ref 3), some (.int v1), some (.int v3), some (.int v3)]) hc dd_X0_turnsToLeast_28 rfl (Nat.le_of_ble_eq_true rfl) rfl ?_
      refine hb_iinc (q := 32) (v := v3 + 1) (lv' := [some (.ref 3), some (.int v1), some (.int v3), some (.int (v3 + 1))]) hc dd_X0_turnsToLeast_29 rfl rfl rfl (Nat.le_of_ble_eq_true rfl) rfl ?_
      refine hb_goto (tg := 4) hc dd_X0_turnsToLeast_32 (by decide) ?_
      exact hb_weak (lvs (lvs (lvs (lvs lvz)))) (h p l e s m args below meth c G hc)
theorem w_X0_turnsToLeast {d : Nat} {M : Mm} {v1 : Int32} {K : Int32 → Mm → Prop}  (h : lp_X0_turnsToLeast_4 d M v1 0 1 K) : ACi (d + 1) X0_turnsToLeast [.ref 3, .int v1] M K := by
  refine AC.ofW (lv := [some (.ref 3), some (.int v1), none, none]) pn_X0 (Nat.le_of_ble_eq_true rfl) (show lvLe _ [some (.ref 3), some (.int v1)] from (lvs (lvs (lve (lve lvz))))) ?_
  intro p l e s m args below meth c G hc
  refine hb_iconst (q := 1) (v := 0) hc dd_X0_turnsToLeast_0 rfl ic_0 ?_
  refine hb_istore_n (q := 2) (lv' := [some (.ref 3), some (.int v1), some (.int 0), none]) hc dd_X0_turnsToLeast_1 rfl (Nat.le_of_ble_eq_true rfl) rfl ?_
  refine hb_iconst (q := 3) (v := 1) hc dd_X0_turnsToLeast_2 rfl ic_1 ?_
  refine hb_istore_n (q := 4) (lv' := [some (.ref 3), some (.int v1), some (.int 0), some (.int 1)]) hc dd_X0_turnsToLeast_3 rfl (Nat.le_of_ble_eq_true rfl) rfl ?_
  exact hb_weak (lvs (lvs (lvs (lvs lvz)))) (h p l e s m args below meth c G hc)
def lp_X0_repeats_2 (d : Nat) (M : Mm) (v1 : Int32) (v2 : Int32) (K : Int32 → Mm → Prop) : Prop := AW (d + 1) X0_repeats M 2 [some (.ref 3), some (.int v1), some (.int v2)] [] (QI K)
theorem z_X0_repeats_2 {d : Nat} {M : Mm} {v1 : Int32} {v2 : Int32} {K : Int32 → Mm → Prop}  (h : ((M.1 3 0) ≤ v2 → (K (M.1 3 0) M)) ∧ (¬ (M.1 3 0) ≤ v2 → (ACi d X0_turned [.ref 3, .int v1, .int v2] M (fun r1 M1 => vp_in v1 8 ∧ ((¬ r1 = (M1.1 4 v1.toNatClampNeg) → (lp_X0_repeats_2 d M1 v1 (v2 + 1) K)) ∧ (r1 = (M1.1 4 v1.toNatClampNeg) → (K v2 M1))))))) : lp_X0_repeats_2 d M v1 v2 K := by
  intro p l e s m args below meth c G hc
  refine hb_iload_n (q := 3) hc dd_X0_repeats_2 rfl rfl ?_
  refine hb_aload_n (q := 4) hc dd_X0_repeats_3 rfl rfl ?_
  refine hb_getI (q := 7) (v := M.1 3 0) hc fl_X0_26 sh3 sl3 rfl rfl dd_X0_repeats_4 rfl ?_
  refine hb_icmp_ge (q := 10) (tg := 33) hc dd_X0_repeats_7 rfl (by decide) (fun z => ?_) (fun z => ?_)
  · replace h := h.1 z
    refine hb_aload_n (q := 34) hc dd_X0_repeats_33 rfl rfl ?_
    refine hb_getI (q := 37) (v := M.1 3 0) hc fl_X0_26 sh3 sl3 rfl rfl dd_X0_repeats_34 rfl ?_
    exact hb_iret hc rfl dd_X0_repeats_37 h
  · replace h := h.2 z
    refine hb_aload_n (q := 11) hc dd_X0_repeats_10 rfl rfl ?_
    refine hb_iload_n (q := 12) hc dd_X0_repeats_11 rfl rfl ?_
    refine hb_iload_n (q := 13) hc dd_X0_repeats_12 rfl rfl ?_
    refine hb_callVi (q := 16) (vs := [.int v1, .int v2]) (st := []) hc mv_X0_54 h sh3 sl3 rfl rfl rfl (Nat.le_of_ble_eq_true rfl) ⟨Nat.le_refl _, Nat.le_refl _⟩ ⟨Nat.le_refl _, Nat.le_refl _⟩ dd_X0_repeats_13 rfl (fun r1 M1 h => ?_)
    refine hb_aload_n (q := 17) hc dd_X0_repeats_16 rfl rfl ?_
    refine hb_getR (q := 20) hc fl_X0_9 sh3 sl3 rfl dd_X0_repeats_17 rfl ?_
    refine hb_iload_n (q := 21) hc dd_X0_repeats_20 rfl rfl ?_
    obtain ⟨hi, h⟩ := h
    refine hb_iald (q := 22) (v := M1.1 4 v1.toNatClampNeg) hc sh4 sl4 hi rfl rfl dd_X0_repeats_21 rfl ?_
    refine hb_icmp_ne (q := 25) (tg := 27) hc dd_X0_repeats_22 rfl (by decide) (fun z => ?_) (fun z => ?_)
    · replace h := h.1 z
      refine hb_iinc (q := 30) (v := v2 + 1) (lv' := [some (.ref 3), some (.int v1), some (.int (v2 + 1))]) hc dd_X0_repeats_27 rfl rfl rfl (Nat.le_of_ble_eq_true rfl) rfl ?_
      refine hb_goto (tg := 2) hc dd_X0_repeats_30 (by decide) ?_
      exact hb_weak (lvs (lvs (lvs lvz))) (h p l e s m args below meth c G hc)
    · replace h := h.2 z
      refine hb_iload_n (q := 26) hc dd_X0_repeats_25 rfl rfl ?_
      exact hb_iret hc rfl dd_X0_repeats_26 h
theorem w_X0_repeats {d : Nat} {M : Mm} {v1 : Int32} {K : Int32 → Mm → Prop}  (h : lp_X0_repeats_2 d M v1 1 K) : ACi (d + 1) X0_repeats [.ref 3, .int v1] M K := by
  refine AC.ofW (lv := [some (.ref 3), some (.int v1), none]) pn_X0 (Nat.le_of_ble_eq_true rfl) (show lvLe _ [some (.ref 3), some (.int v1)] from (lvs (lvs (lve lvz)))) ?_
  intro p l e s m args below meth c G hc
  refine hb_iconst (q := 1) (v := 1) hc dd_X0_repeats_0 rfl ic_1 ?_
  refine hb_istore_n (q := 2) (lv' := [some (.ref 3), some (.int v1), some (.int 1)]) hc dd_X0_repeats_1 rfl (Nat.le_of_ble_eq_true rfl) rfl ?_
  exact hb_weak (lvs (lvs (lvs lvz))) (h p l e s m args below meth c G hc)
theorem w_X0_areSuch {d : Nat} {M : Mm} {v1 : Int32} {v2 : Int32} {v3 : Int32} {K : Int32 → Mm → Prop}  (h : ACi d X0_hasRhythm [.ref 3, .int v1] M (fun r1 M1 => (r1 = 0 → (K 0 M1)) ∧ (¬ r1 = 0 → (ACi d X0_hasRhythm [.ref 3, .int v2] M1 (fun r2 M2 => (r2 = 0 → (K 0 M2)) ∧ (¬ r2 = 0 → (ACi d X0_shareRow [.ref 3, .int v1, .int v2, .int (M2.1 3 1), .int v3] M2 (fun r3 M3 => (r3 = 0 → (K 0 M3)) ∧ (¬ r3 = 0 → (K 1 M3)))))))))) : ACi (d + 1) X0_areSuch [.ref 3, .int v1, .int v2, .int v3] M K := by
  refine AC.ofW (lv := [some (.ref 3), some (.int v1), some (.int v2), some (.int v3)]) pn_X0 (Nat.le_of_ble_eq_true rfl) (show lvLe _ [some (.ref 3), some (.int v1), some (.int v2), some (.int v3)] from (lvs (lvs (lvs (lvs lvz))))) ?_
  intro p l e s m args below meth c G hc
  refine hb_aload_n (q := 1) hc dd_X0_areSuch_0 rfl rfl ?_
  refine hb_iload_n (q := 2) hc dd_X0_areSuch_1 rfl rfl ?_
  refine hb_callVi (q := 5) (vs := [.int v1]) (st := []) hc mv_X0_50 h sh3 sl3 rfl rfl rfl (Nat.le_of_ble_eq_true rfl) ⟨Nat.le_refl _, Nat.le_refl _⟩ ⟨Nat.le_refl _, Nat.le_refl _⟩ dd_X0_areSuch_2 rfl (fun r1 M1 h => ?_)
  refine hb_if_eq (q := 8) (tg := 34) hc dd_X0_areSuch_5 rfl (by decide) (fun z => ?_) (fun z => ?_)
  · replace h := h.1 z
    refine hb_iconst (q := 35) (v := 0) hc dd_X0_areSuch_34 rfl ic_0 ?_
    exact hb_zret hc rfl (by decide) dd_X0_areSuch_35 h
  · replace h := h.2 z
    refine hb_aload_n (q := 9) hc dd_X0_areSuch_8 rfl rfl ?_
    refine hb_iload_n (q := 10) hc dd_X0_areSuch_9 rfl rfl ?_
    refine hb_callVi (q := 13) (vs := [.int v2]) (st := []) hc mv_X0_50 h sh3 sl3 rfl rfl rfl (Nat.le_of_ble_eq_true rfl) ⟨Nat.le_refl _, Nat.le_refl _⟩ ⟨Nat.le_refl _, Nat.le_refl _⟩ dd_X0_areSuch_10 rfl (fun r2 M2 h => ?_)
    refine hb_if_eq (q := 16) (tg := 34) hc dd_X0_areSuch_13 rfl (by decide) (fun z => ?_) (fun z => ?_)
    · replace h := h.1 z
      refine hb_iconst (q := 35) (v := 0) hc dd_X0_areSuch_34 rfl ic_0 ?_
      exact hb_zret hc rfl (by decide) dd_X0_areSuch_35 h
    · replace h := h.2 z
      refine hb_aload_n (q := 17) hc dd_X0_areSuch_16 rfl rfl ?_
      refine hb_iload_n (q := 18) hc dd_X0_areSuch_17 rfl rfl ?_
      refine hb_iload_n (q := 19) hc dd_X0_areSuch_18 rfl rfl ?_
      refine hb_aload_n (q := 20) hc dd_X0_areSuch_19 rfl rfl ?_
      refine hb_getI (q := 23) (v := M2.1 3 1) hc fl_X0_30 sh3 sl3 rfl rfl dd_X0_areSuch_20 rfl ?_
      refine hb_iload_n (q := 24) hc dd_X0_areSuch_23 rfl rfl ?_
      refine hb_callVi (q := 27) (vs := [.int v1, .int v2, .int (M2.1 3 1), .int v3]) (st := []) hc mv_X0_58 h sh3 sl3 rfl rfl rfl (Nat.le_of_ble_eq_true rfl) ⟨Nat.le_refl _, Nat.le_refl _⟩ ⟨Nat.le_refl _, Nat.le_refl _⟩ dd_X0_areSuch_24 rfl (fun r3 M3 h => ?_)
      refine hb_if_eq (q := 30) (tg := 34) hc dd_X0_areSuch_27 rfl (by decide) (fun z => ?_) (fun z => ?_)
      · replace h := h.1 z
        refine hb_iconst (q := 35) (v := 0) hc dd_X0_areSuch_34 rfl ic_0 ?_
        exact hb_zret hc rfl (by decide) dd_X0_areSuch_35 h
      · replace h := h.2 z
        refine hb_iconst (q := 31) (v := 1) hc dd_X0_areSuch_30 rfl ic_1 ?_
        refine hb_goto (tg := 35) hc dd_X0_areSuch_31 (by decide) ?_
        exact hb_zret hc rfl (by decide) dd_X0_areSuch_35 h
def lp_X0_shareRow_11 (d : Nat) (M : Mm) (v1 : Int32) (v2 : Int32) (v4 : Int32) (v5 : Int32) (v6 : Int32) (K : Int32 → Mm → Prop) : Prop := AW (d + 1) X0_shareRow M 11 [some (.ref 3), some (.int v1), some (.int v2), none, some (.int v4), some (.int v5), some (.int v6), none, none] [] (QI K)
def lp_X0_shareRow_35 (d : Nat) (M : Mm) (v1 : Int32) (v2 : Int32) (v4 : Int32) (v5 : Int32) (v6 : Int32) (v7 : Int32) (v8 : Int32) (K : Int32 → Mm → Prop) : Prop := AW (d + 1) X0_shareRow M 35 [some (.ref 3), some (.int v1), some (.int v2), none, some (.int v4), some (.int v5), some (.int v6), some (.int v7), some (.int v8)] [] (QI K)
theorem z_X0_shareRow_11 {d : Nat} {M : Mm} {v1 : Int32} {v2 : Int32} {v4 : Int32} {v5 : Int32} {v6 : Int32} {K : Int32 → Mm → Prop}  (h : ((M.1 3 0) ≤ v6 → (K 0 M)) ∧ (¬ (M.1 3 0) ≤ v6 → (ACi d X0_turned [.ref 3, .int v1, .int v6] M (fun r1 M1 => lp_X0_shareRow_35 d M1 v1 v2 v4 v5 v6 (r1 >>> (v5 &&& 31)) 0 K)))) : lp_X0_shareRow_11 d M v1 v2 v4 v5 v6 K := by
  intro p l e s m args below meth c G hc
  refine hb_iload (q := 13) hc dd_X0_shareRow_11 rfl rfl ?_
  refine hb_aload_n (q := 14) hc dd_X0_shareRow_13 rfl rfl ?_
  refine hb_getI (q := 17) (v := M.1 3 0) hc fl_X0_26 sh3 sl3 rfl rfl dd_X0_shareRow_14 rfl ?_
  refine hb_icmp_ge (q := 20) (tg := 79) hc dd_X0_shareRow_17 rfl (by decide) (fun z => ?_) (fun z => ?_)
  · replace h := h.1 z
    refine hb_iconst (q := 80) (v := 0) hc dd_X0_shareRow_79 rfl ic_0 ?_
    exact hb_zret hc rfl (by decide) dd_X0_shareRow_80 h
  · replace h := h.2 z
    refine hb_aload_n (q := 21) hc dd_X0_shareRow_20 rfl rfl ?_
    refine hb_iload_n (q := 22) hc dd_X0_shareRow_21 rfl rfl ?_
    refine hb_iload (q := 24) hc dd_X0_shareRow_22 rfl rfl ?_
    refine hb_callVi (q := 27) (vs := [.int v1, .int v6]) (st := []) hc mv_X0_54 h sh3 sl3 rfl rfl rfl (Nat.le_of_ble_eq_true rfl) ⟨Nat.le_refl _, Nat.le_refl _⟩ ⟨Nat.le_refl _, Nat.le_refl _⟩ dd_X0_shareRow_24 rfl (fun r1 M1 h => ?_)
    refine hb_iload (q := 29) hc dd_X0_shareRow_27 rfl rfl ?_
    refine hb_ishr (q := 30) hc dd_X0_shareRow_29 rfl ?_
    refine hb_istore (q := 32) (lv' := [some (.ref 3), some (.int v1), some (.int v2), none, some (.int v4), some (.int v5), some (.int v6), some (.int (r1 >>> (v5 &&& 31))), none]) hc dd_X0_shareRow_30 rfl (Nat.le_of_ble_eq_true rfl) rfl ?_
    refine hb_iconst (q := 33) (v := 0) hc dd_X0_shareRow_32 rfl ic_0 ?_
    refine hb_istore (q := 35) (lv' := [some (.ref 3), some (.int v1), some (.int v2), none, some (.int v4), some (.int v5), some (.int v6), some (.int (r1 >>> (v5 &&& 31))), some (.int 0)]) hc dd_X0_shareRow_33 rfl (Nat.le_of_ble_eq_true rfl) rfl ?_
    exact hb_weak (lvs (lvs (lvs (lvn (lvs (lvs (lvs (lvs (lvs lvz))))))))) (h p l e s m args below meth c G hc)
theorem z_X0_shareRow_35 {d : Nat} {M : Mm} {v1 : Int32} {v2 : Int32} {v4 : Int32} {v5 : Int32} {v6 : Int32} {v7 : Int32} {v8 : Int32} {K : Int32 → Mm → Prop}  (h : ((M.1 3 0) ≤ v8 → (lp_X0_shareRow_11 d M v1 v2 v4 v5 (v6 + 1) K)) ∧ (¬ (M.1 3 0) ≤ v8 → (ACi d X0_turned [.ref 3, .int v2, .int v8] M (fun r1 M1 => ACi d J6_bitCount_0f7a4 [.int (v7 ^^^ (r1 >>> (v5 &&& 31)))] M1 (fun r2 M2 => (v4 < r2 → (lp_X0_shareRow_35 d M2 v1 v2 v4 v5 v6 v7 (v8 + 1) K)) ∧ (¬ v4 < r2 → (K 1 M2))))))) : lp_X0_shareRow_35 d M v1 v2 v4 v5 v6 v7 v8 K := by
  intro p l e s m args below meth c G hc
  refine hb_iload (q := 37) hc dd_X0_shareRow_35 rfl rfl ?_
  refine hb_aload_n (q := 38) hc dd_X0_shareRow_37 rfl rfl ?_
  refine hb_getI (q := 41) (v := M.1 3 0) hc fl_X0_26 sh3 sl3 rfl rfl dd_X0_shareRow_38 rfl ?_
  refine hb_icmp_ge (q := 44) (tg := 73) hc dd_X0_shareRow_41 rfl (by decide) (fun z => ?_) (fun z => ?_)
  · replace h := h.1 z
    refine hb_iinc (q := 76) (v := v6 + 1) (lv' := [some (.ref 3), some (.int v1), some (.int v2), none, some (.int v4), some (.int v5), some (.int (v6 + 1)), some (.int v7), some (.int v8)]) hc dd_X0_shareRow_73 rfl rfl rfl (Nat.le_of_ble_eq_true rfl) rfl ?_
    refine hb_goto (tg := 11) hc dd_X0_shareRow_76 (by decide) ?_
    exact hb_weak (lvs (lvs (lvs (lvn (lvs (lvs (lvs (lvn (lvn lvz))))))))) (h p l e s m args below meth c G hc)
  · replace h := h.2 z
    refine hb_iload (q := 46) hc dd_X0_shareRow_44 rfl rfl ?_
    refine hb_aload_n (q := 47) hc dd_X0_shareRow_46 rfl rfl ?_
    refine hb_iload_n (q := 48) hc dd_X0_shareRow_47 rfl rfl ?_
    refine hb_iload (q := 50) hc dd_X0_shareRow_48 rfl rfl ?_
    refine hb_callVi (q := 53) (vs := [.int v2, .int v8]) (st := [.int v7]) hc mv_X0_54 h sh3 sl3 rfl rfl rfl (Nat.le_of_ble_eq_true rfl) ⟨Nat.le_refl _, Nat.le_refl _⟩ ⟨Nat.le_refl _, Nat.le_refl _⟩ dd_X0_shareRow_50 rfl (fun r1 M1 h => ?_)
    refine hb_iload (q := 55) hc dd_X0_shareRow_53 rfl rfl ?_
    refine hb_ishr (q := 56) hc dd_X0_shareRow_55 rfl ?_
    refine hb_ixor (q := 57) hc dd_X0_shareRow_56 rfl ?_
    refine hb_callSi (q := 60) (vs := [.int (v7 ^^^ (r1 >>> (v5 &&& 31)))]) (st := []) hc mv_X0_62 h rfl rfl (Nat.le_of_ble_eq_true rfl) ⟨Nat.le_refl _, Nat.le_refl _⟩ ⟨Nat.le_refl _, Nat.le_refl _⟩ dd_X0_shareRow_57 rfl (fun r2 M2 h => ?_)
    refine hb_iload (q := 62) hc dd_X0_shareRow_60 rfl rfl ?_
    refine hb_icmp_gt (q := 65) (tg := 67) hc dd_X0_shareRow_62 rfl (by decide) (fun z => ?_) (fun z => ?_)
    · replace h := h.1 z
      refine hb_iinc (q := 70) (v := v8 + 1) (lv' := [some (.ref 3), some (.int v1), some (.int v2), none, some (.int v4), some (.int v5), some (.int v6), some (.int v7), some (.int (v8 + 1))]) hc dd_X0_shareRow_67 rfl rfl rfl (Nat.le_of_ble_eq_true rfl) rfl ?_
      refine hb_goto (tg := 35) hc dd_X0_shareRow_70 (by decide) ?_
      exact hb_weak (lvs (lvs (lvs (lvn (lvs (lvs (lvs (lvs (lvs lvz))))))))) (h p l e s m args below meth c G hc)
    · replace h := h.2 z
      refine hb_iconst (q := 66) (v := 1) hc dd_X0_shareRow_65 rfl ic_1 ?_
      exact hb_zret hc rfl (by decide) dd_X0_shareRow_66 h
theorem w_X0_shareRow {d : Nat} {M : Mm} {v1 : Int32} {v2 : Int32} {v3 : Int32} {v4 : Int32} {K : Int32 → Mm → Prop}  (h : lp_X0_shareRow_11 d M v1 v2 v4 ((M.1 3 0) - v3) 0 K) : ACi (d + 1) X0_shareRow [.ref 3, .int v1, .int v2, .int v3, .int v4] M K := by
  refine AC.ofW (lv := [some (.ref 3), some (.int v1), some (.int v2), some (.int v3), some (.int v4), none, none, none, none]) pn_X0 (Nat.le_of_ble_eq_true rfl) (show lvLe _ [some (.ref 3), some (.int v1), some (.int v2), some (.int v3), some (.int v4)] from (lvs (lvs (lvs (lvs (lvs (lve (lve (lve (lve lvz)))))))))) ?_
  intro p l e s m args below meth c G hc
  refine hb_aload_n (q := 1) hc dd_X0_shareRow_0 rfl rfl ?_
  refine hb_getI (q := 4) (v := M.1 3 0) hc fl_X0_26 sh3 sl3 rfl rfl dd_X0_shareRow_1 rfl ?_
  refine hb_iload_n (q := 5) hc dd_X0_shareRow_4 rfl rfl ?_
  refine hb_isub (q := 6) hc dd_X0_shareRow_5 rfl ?_
  refine hb_istore (q := 8) (lv' := [some (.ref 3), some (.int v1), some (.int v2), some (.int v3), some (.int v4), some (.int ((M.1 3 0) - v3)), none, none, none]) hc dd_X0_shareRow_6 rfl (Nat.le_of_ble_eq_true rfl) rfl ?_
  refine hb_iconst (q := 9) (v := 0) hc dd_X0_shareRow_8 rfl ic_0 ?_
  refine hb_istore (q := 11) (lv' := [some (.ref 3), some (.int v1), some (.int v2), some (.int v3), some (.int v4), some (.int ((M.1 3 0) - v3)), some (.int 0), none, none]) hc dd_X0_shareRow_9 rfl (Nat.le_of_ble_eq_true rfl) rfl ?_
  exact hb_weak (lvs (lvs (lvs (lvn (lvs (lvs (lvs (lvn (lvn lvz))))))))) (h p l e s m args below meth c G hc)
def lp_X0_suchOnes_5 (d : Nat) (M : Mm) (v1 : Int32) (v2 : Int32) (v3 : Int32) (v4 : Int32) (K : Int32 → Mm → Prop) : Prop := AW (d + 1) X0_suchOnes M 5 [some (.ref 3), some (.int v1), some (.int v2), some (.int v3), some (.int v4)] [] (QI K)
theorem z_X0_suchOnes_5 {d : Nat} {M : Mm} {v1 : Int32} {v2 : Int32} {v3 : Int32} {v4 : Int32} {K : Int32 → Mm → Prop}  (h : ((M.1 3 3) ≤ v4 → (K v3 M)) ∧ (¬ (M.1 3 3) ≤ v4 → (ACi d X0_areSuch [.ref 3, .int v1, .int v4, .int v2] M (fun r1 M1 => (r1 = 0 → (lp_X0_suchOnes_5 d M1 v1 v2 v3 (v4 + 1) K)) ∧ (¬ r1 = 0 → (lp_X0_suchOnes_5 d M1 v1 v2 (v3 ||| (1 <<< (v4 &&& 31))) (v4 + 1) K)))))) : lp_X0_suchOnes_5 d M v1 v2 v3 v4 K := by
  intro p l e s m args below meth c G hc
  refine hb_iload (q := 7) hc dd_X0_suchOnes_5 rfl rfl ?_
  refine hb_aload_n (q := 8) hc dd_X0_suchOnes_7 rfl rfl ?_
  refine hb_getI (q := 11) (v := M.1 3 3) hc fl_X0_36 sh3 sl3 rfl rfl dd_X0_suchOnes_8 rfl ?_
  refine hb_icmp_ge (q := 14) (tg := 38) hc dd_X0_suchOnes_11 rfl (by decide) (fun z => ?_) (fun z => ?_)
  · replace h := h.1 z
    refine hb_iload_n (q := 39) hc dd_X0_suchOnes_38 rfl rfl ?_
    exact hb_iret hc rfl dd_X0_suchOnes_39 h
  · replace h := h.2 z
    refine hb_aload_n (q := 15) hc dd_X0_suchOnes_14 rfl rfl ?_
    refine hb_iload_n (q := 16) hc dd_X0_suchOnes_15 rfl rfl ?_
    refine hb_iload (q := 18) hc dd_X0_suchOnes_16 rfl rfl ?_
    refine hb_iload_n (q := 19) hc dd_X0_suchOnes_18 rfl rfl ?_
    refine hb_callVi (q := 22) (vs := [.int v1, .int v4, .int v2]) (st := []) hc mv_X0_68 h sh3 sl3 rfl rfl rfl (Nat.le_of_ble_eq_true rfl) ⟨Nat.le_refl _, Nat.le_refl _⟩ ⟨Nat.le_refl _, Nat.le_refl _⟩ dd_X0_suchOnes_19 rfl (fun r1 M1 h => ?_)
    refine hb_if_eq (q := 25) (tg := 32) hc dd_X0_suchOnes_22 rfl (by decide) (fun z => ?_) (fun z => ?_)
    · replace h := h.1 z
      refine hb_iinc (q := 35) (v := v4 + 1) (lv' := [some (.ref 3), some (.int v1), some (.int v2), some (.int v3), some (.int (v4 + 1))]) hc dd_X0_suchOnes_32 rfl rfl rfl (Nat.le_of_ble_eq_true rfl) rfl ?_
      refine hb_goto (tg := 5) hc dd_X0_suchOnes_35 (by decide) ?_
      exact hb_weak (lvs (lvs (lvs (lvs (lvs lvz))))) (h p l e s m args below meth c G hc)
    · replace h := h.2 z
      refine hb_iload_n (q := 26) hc dd_X0_suchOnes_25 rfl rfl ?_
      refine hb_iconst (q := 27) (v := 1) hc dd_X0_suchOnes_26 rfl ic_1 ?_
      refine hb_iload (q := 29) hc dd_X0_suchOnes_27 rfl rfl ?_
      refine hb_ishl (q := 30) hc dd_X0_suchOnes_29 rfl ?_
      refine hb_ior (q := 31) hc dd_X0_suchOnes_30 rfl ?_
      refine hb_istore_n (q := 32) (lv' := [some (.ref 3), some (.int v1), some (.int v2), some (.int (v3 ||| (1 <<< (v4 &&& 31)))), some (.int v4)]) hc dd_X0_suchOnes_31 rfl (Nat.le_of_ble_eq_true rfl) rfl ?_
      refine hb_iinc (q := 35) (v := v4 + 1) (lv' := [some (.ref 3), some (.int v1), some (.int v2), some (.int (v3 ||| (1 <<< (v4 &&& 31)))), some (.int (v4 + 1))]) hc dd_X0_suchOnes_32 rfl rfl rfl (Nat.le_of_ble_eq_true rfl) rfl ?_
      refine hb_goto (tg := 5) hc dd_X0_suchOnes_35 (by decide) ?_
      exact hb_weak (lvs (lvs (lvs (lvs (lvs lvz))))) (h p l e s m args below meth c G hc)
theorem w_X0_suchOnes {d : Nat} {M : Mm} {v1 : Int32} {v2 : Int32} {K : Int32 → Mm → Prop}  (h : lp_X0_suchOnes_5 d M v1 v2 0 0 K) : ACi (d + 1) X0_suchOnes [.ref 3, .int v1, .int v2] M K := by
  refine AC.ofW (lv := [some (.ref 3), some (.int v1), some (.int v2), none, none]) pn_X0 (Nat.le_of_ble_eq_true rfl) (show lvLe _ [some (.ref 3), some (.int v1), some (.int v2)] from (lvs (lvs (lvs (lve (lve lvz)))))) ?_
  intro p l e s m args below meth c G hc
  refine hb_iconst (q := 1) (v := 0) hc dd_X0_suchOnes_0 rfl ic_0 ?_
  refine hb_istore_n (q := 2) (lv' := [some (.ref 3), some (.int v1), some (.int v2), some (.int 0), none]) hc dd_X0_suchOnes_1 rfl (Nat.le_of_ble_eq_true rfl) rfl ?_
  refine hb_iconst (q := 3) (v := 0) hc dd_X0_suchOnes_2 rfl ic_0 ?_
  refine hb_istore (q := 5) (lv' := [some (.ref 3), some (.int v1), some (.int v2), some (.int 0), some (.int 0)]) hc dd_X0_suchOnes_3 rfl (Nat.le_of_ble_eq_true rfl) rfl ?_
  exact hb_weak (lvs (lvs (lvs (lvs (lvs lvz))))) (h p l e s m args below meth c G hc)
