/-! WALKS, by program (wip/whole/gen6.py). -/
theorem w_X9_in {d : Nat} {M : Mm} {v0 : Int64} {v2 : Int64} {v4 : Int64} {K : Int32 → Mm → Prop}  (h : ((lg_cmp v0 v2) < 0 → (K 0 M)) ∧ (¬ (lg_cmp v0 v2) < 0 → ((0 < (lg_cmp v0 v4) → (K 0 M)) ∧ (¬ 0 < (lg_cmp v0 v4) → (K 1 M))))) : ACi (d + 1) X9_in [.long v0, .long v2, .long v4] M K := by
  refine AC.ofW (lv := [some (.long v0), none, some (.long v2), none, some (.long v4), none]) pn_X9 (Nat.le_of_ble_eq_true rfl) (show lvLe _ [some (.long v0), none, some (.long v2), none, some (.long v4), none] from (lvs (lvn (lvs (lvn (lvs (lvn lvz))))))) ?_
  intro p l e s m args below meth c G hc
  refine hb_lload_n (q := 1) hc dd_X9_in_0 rfl rfl ?_
  refine hb_lload_n (q := 2) hc dd_X9_in_1 rfl rfl ?_
  refine hb_lcmp (q := 3) hc dd_X9_in_2 rfl ?_
  refine hb_if_lt (q := 6) (tg := 17) hc dd_X9_in_3 rfl (by decide) (fun z => ?_) (fun z => ?_)
  · replace h := h.1 z
    refine hb_iconst (q := 18) (v := 0) hc dd_X9_in_17 rfl ic_0 ?_
    exact hb_zret hc rfl (by decide) dd_X9_in_18 h
  · replace h := h.2 z
    refine hb_lload_n (q := 7) hc dd_X9_in_6 rfl rfl ?_
    refine hb_lload (q := 9) hc dd_X9_in_7 rfl rfl ?_
    refine hb_lcmp (q := 10) hc dd_X9_in_9 rfl ?_
    refine hb_if_gt (q := 13) (tg := 17) hc dd_X9_in_10 rfl (by decide) (fun z => ?_) (fun z => ?_)
    · replace h := h.1 z
      refine hb_iconst (q := 18) (v := 0) hc dd_X9_in_17 rfl ic_0 ?_
      exact hb_zret hc rfl (by decide) dd_X9_in_18 h
    · replace h := h.2 z
      refine hb_iconst (q := 14) (v := 1) hc dd_X9_in_13 rfl ic_1 ?_
      refine hb_goto (tg := 18) hc dd_X9_in_14 (by decide) ?_
      exact hb_zret hc rfl (by decide) dd_X9_in_18 h
theorem w_X9_has {d : Nat} {M : Mm} {v0 : Int32} {v1 : Int32} {K : Int32 → Mm → Prop}  (h : (¬ ((v0 >>> (v1 &&& 31)) &&& 1) = 1 → (K 0 M)) ∧ (((v0 >>> (v1 &&& 31)) &&& 1) = 1 → (K 1 M))) : ACi (d + 1) X9_has [.int v0, .int v1] M K := by
  refine AC.ofW (lv := [some (.int v0), some (.int v1)]) pn_X9 (Nat.le_of_ble_eq_true rfl) (show lvLe _ [some (.int v0), some (.int v1)] from (lvs (lvs lvz))) ?_
  intro p l e s m args below meth c G hc
  refine hb_iload_n (q := 1) hc dd_X9_has_0 rfl rfl ?_
  refine hb_iload_n (q := 2) hc dd_X9_has_1 rfl rfl ?_
  refine hb_ishr (q := 3) hc dd_X9_has_2 rfl ?_
  refine hb_iconst (q := 4) (v := 1) hc dd_X9_has_3 rfl ic_1 ?_
  refine hb_iand (q := 5) hc dd_X9_has_4 rfl ?_
  refine hb_iconst (q := 6) (v := 1) hc dd_X9_has_5 rfl ic_1 ?_
  refine hb_icmp_ne (q := 9) (tg := 13) hc dd_X9_has_6 rfl (by decide) (fun z => ?_) (fun z => ?_)
  · replace h := h.1 z
    refine hb_iconst (q := 14) (v := 0) hc dd_X9_has_13 rfl ic_0 ?_
    exact hb_zret hc rfl (by decide) dd_X9_has_14 h
  · replace h := h.2 z
    refine hb_iconst (q := 10) (v := 1) hc dd_X9_has_9 rfl ic_1 ?_
    refine hb_goto (tg := 14) hc dd_X9_has_10 (by decide) ?_
    exact hb_zret hc rfl (by decide) dd_X9_has_14 h
def lp_X9_ones_4 (d : Nat) (M : Mm) (v0 : Int32) (v1 : Int32) (v2 : Int32) (K : Int32 → Mm → Prop) : Prop := AW (d + 1) X9_ones M 4 [some (.int v0), some (.int v1), some (.int v2)] [] (QI K)
theorem z_X9_ones_4 {d : Nat} {M : Mm} {v0 : Int32} {v1 : Int32} {v2 : Int32} {K : Int32 → Mm → Prop}  (h : (8 ≤ v2 → (K v1 M)) ∧ (¬ 8 ≤ v2 → (lp_X9_ones_4 d M v0 (v1 + ((v0 >>> (v2 &&& 31)) &&& 1)) (v2 + 1) K))) : lp_X9_ones_4 d M v0 v1 v2 K := by
  intro p l e s m args below meth c G hc
  refine hb_iload_n (q := 5) hc dd_X9_ones_4 rfl rfl ?_
  refine hb_bipush (q := 7) (v := 8) hc dd_X9_ones_5 rfl bp_8 ?_
  refine hb_icmp_ge (q := 10) (tg := 24) hc dd_X9_ones_7 rfl (by decide) (fun z => ?_) (fun z => ?_)
  · replace h := h.1 z
    refine hb_iload_n (q := 25) hc dd_X9_ones_24 rfl rfl ?_
    exact hb_iret hc rfl dd_X9_ones_25 h
  · replace h := h.2 z
    refine hb_iload_n (q := 11) hc dd_X9_ones_10 rfl rfl ?_
    refine hb_iload_n (q := 12) hc dd_X9_ones_11 rfl rfl ?_
    refine hb_iload_n (q := 13) hc dd_X9_ones_12 rfl rfl ?_
    refine hb_ishr (q := 14) hc dd_X9_ones_13 rfl ?_
    refine hb_iconst (q := 15) (v := 1) hc dd_X9_ones_14 rfl ic_1 ?_
    refine hb_iand (q := 16) hc dd_X9_ones_15 rfl ?_
    refine hb_iadd (q := 17) hc dd_X9_ones_16 rfl ?_
    refine hb_istore_n (q := 18) (lv' := [some (.int v0), some (.int (v1 + ((v0 >>> (v2 &&& 31)) &&& 1))), some (.int v2)]) hc dd_X9_ones_17 rfl (Nat.le_of_ble_eq_true rfl) rfl ?_
    refine hb_iinc (q := 21) (v := v2 + 1) (lv' := [some (.int v0), some (.int (v1 + ((v0 >>> (v2 &&& 31)) &&& 1))), some (.int (v2 + 1))]) hc dd_X9_ones_18 rfl rfl rfl (Nat.le_of_ble_eq_true rfl) rfl ?_
    refine hb_goto (tg := 4) hc dd_X9_ones_21 (by decide) ?_
    exact hb_weak (lvs (lvs (lvs lvz))) (h p l e s m args below meth c G hc)
theorem w_X9_ones {d : Nat} {M : Mm} {v0 : Int32} {K : Int32 → Mm → Prop}  (h : lp_X9_ones_4 d M v0 0 0 K) : ACi (d + 1) X9_ones [.int v0] M K := by
  refine AC.ofW (lv := [some (.int v0), none, none]) pn_X9 (Nat.le_of_ble_eq_true rfl) (show lvLe _ [some (.int v0)] from (lvs (lve (lve lvz)))) ?_
  intro p l e s m args below meth c G hc
  refine hb_iconst (q := 1) (v := 0) hc dd_X9_ones_0 rfl ic_0 ?_
  refine hb_istore_n (q := 2) (lv' := [some (.int v0), some (.int 0), none]) hc dd_X9_ones_1 rfl (Nat.le_of_ble_eq_true rfl) rfl ?_
  refine hb_iconst (q := 3) (v := 0) hc dd_X9_ones_2 rfl ic_0 ?_
  refine hb_istore_n (q := 4) (lv' := [some (.int v0), some (.int 0), some (.int 0)]) hc dd_X9_ones_3 rfl (Nat.le_of_ble_eq_true rfl) rfl ?_
  exact hb_weak (lvs (lvs (lvs lvz))) (h p l e s m args below meth c G hc)
def lp_X9_copyRow_2 (d : Nat) (M : Mm) (v1 : Int32) (v2 : Int32) (v3 : Int32) (K : Mm → Prop) : Prop := AW (d + 1) X9_copyRow M 2 [some (.ref 42), some (.int v1), some (.int v2), some (.int v3)] [] (QV K)
theorem z_X9_copyRow_2 {d : Nat} {M : Mm} {v1 : Int32} {v2 : Int32} {v3 : Int32} {K : Mm → Prop}  (h : (12 ≤ v3 → (K M)) ∧ (¬ 12 ≤ v3 → (vp_in (v1 + v3) 144 ∧ (vp_in (v2 + v3) 144 ∧ (lp_X9_copyRow_2 d (wI M 43 ((v2 + v3).toNatClampNeg) (M.1 43 ((v1 + v3).toNatClampNeg))) v1 v2 (v3 + 1) K))))) : lp_X9_copyRow_2 d M v1 v2 v3 K := by
  intro p l e s m args below meth c G hc
  refine hb_iload_n (q := 3) hc dd_X9_copyRow_2 rfl rfl ?_
  refine hb_bipush (q := 5) (v := 12) hc dd_X9_copyRow_3 rfl bp_12 ?_
  refine hb_icmp_ge (q := 8) (tg := 30) hc dd_X9_copyRow_5 rfl (by decide) (fun z => ?_) (fun z => ?_)
  · replace h := h.1 z
    exact hb_vret hc rfl dd_X9_copyRow_30 h
  · replace h := h.2 z
    refine hb_aload_n (q := 9) hc dd_X9_copyRow_8 rfl rfl ?_
    refine hb_getR (q := 12) hc fl_X9_7 sh42 sl42 rfl dd_X9_copyRow_9 rfl ?_
    refine hb_iload_n (q := 13) hc dd_X9_copyRow_12 rfl rfl ?_
    refine hb_iload_n (q := 14) hc dd_X9_copyRow_13 rfl rfl ?_
    refine hb_iadd (q := 15) hc dd_X9_copyRow_14 rfl ?_
    refine hb_aload_n (q := 16) hc dd_X9_copyRow_15 rfl rfl ?_
    refine hb_getR (q := 19) hc fl_X9_7 sh42 sl42 rfl dd_X9_copyRow_16 rfl ?_
    refine hb_iload_n (q := 20) hc dd_X9_copyRow_19 rfl rfl ?_
    refine hb_iload_n (q := 21) hc dd_X9_copyRow_20 rfl rfl ?_
    refine hb_iadd (q := 22) hc dd_X9_copyRow_21 rfl ?_
    obtain ⟨hi, h⟩ := h
    refine hb_iald (q := 23) (v := M.1 43 ((v1 + v3).toNatClampNeg)) hc sh43 sl43 hi rfl rfl dd_X9_copyRow_22 rfl ?_
    obtain ⟨hi, h⟩ := h
    refine hb_iast (q := 24) hc sh43 sl43 hi rfl dd_X9_copyRow_23 rfl ?_
    refine hb_iinc (q := 27) (v := v3 + 1) (lv' := [some (.ref 42), some (.int v1), some (.int v2), some (.int (v3 + 1))]) hc dd_X9_copyRow_24 rfl rfl rfl (Nat.le_of_ble_eq_true rfl) rfl ?_
    refine hb_goto (tg := 2) hc dd_X9_copyRow_27 (by decide) ?_
    exact hb_weak (lvs (lvs (lvs (lvs lvz)))) (h p l e s m args below meth c G hc)
theorem w_X9_copyRow {d : Nat} {M : Mm} {v1 : Int32} {v2 : Int32} {K : Mm → Prop}  (h : lp_X9_copyRow_2 d M v1 v2 0 K) : ACv (d + 1) X9_copyRow [.ref 42, .int v1, .int v2] M K := by
  refine AC.ofW (lv := [some (.ref 42), some (.int v1), some (.int v2), none]) pn_X9 (Nat.le_of_ble_eq_true rfl) (show lvLe _ [some (.ref 42), some (.int v1), some (.int v2)] from (lvs (lvs (lvs (lve lvz))))) ?_
  intro p l e s m args below meth c G hc
  refine hb_iconst (q := 1) (v := 0) hc dd_X9_copyRow_0 rfl ic_0 ?_
  refine hb_istore_n (q := 2) (lv' := [some (.ref 42), some (.int v1), some (.int v2), some (.int 0)]) hc dd_X9_copyRow_1 rfl (Nat.le_of_ble_eq_true rfl) rfl ?_
  exact hb_weak (lvs (lvs (lvs (lvs lvz)))) (h p l e s m args below meth c G hc)
def lp_X9_anew_28 (d : Nat) (M : Mm) (v2 : Int32) (K : Mm → Prop) : Prop := AW (d + 1) X9_anew M 28 [some (.ref 42), none, some (.int v2)] [] (QV K)
theorem z_X9_anew_28 {d : Nat} {M : Mm} {v2 : Int32} {K : Mm → Prop}  (h : (6 ≤ v2 → (K M)) ∧ (¬ 6 ≤ v2 → (vp_in (0 + v2) 144 ∧ (vp_in (6 + v2) 144 ∧ (lp_X9_anew_28 d (wI (wI M 43 ((0 + v2).toNatClampNeg) 0) 43 ((6 + v2).toNatClampNeg) (-1)) (v2 + 1) K))))) : lp_X9_anew_28 d M v2 K := by
  intro p l e s m args below meth c G hc
  refine hb_iload_n (q := 29) hc dd_X9_anew_28 rfl rfl ?_
  refine hb_bipush (q := 31) (v := 6) hc dd_X9_anew_29 rfl bp_6 ?_
  refine hb_icmp_ge (q := 34) (tg := 59) hc dd_X9_anew_31 rfl (by decide) (fun z => ?_) (fun z => ?_)
  · replace h := h.1 z
    exact hb_vret hc rfl dd_X9_anew_59 h
  · replace h := h.2 z
    refine hb_aload_n (q := 35) hc dd_X9_anew_34 rfl rfl ?_
    refine hb_getR (q := 38) hc fl_X9_7 sh42 sl42 rfl dd_X9_anew_35 rfl ?_
    refine hb_iconst (q := 39) (v := 0) hc dd_X9_anew_38 rfl ic_0 ?_
    refine hb_iload_n (q := 40) hc dd_X9_anew_39 rfl rfl ?_
    refine hb_iadd (q := 41) hc dd_X9_anew_40 rfl ?_
    refine hb_iconst (q := 42) (v := 0) hc dd_X9_anew_41 rfl ic_0 ?_
    obtain ⟨hi, h⟩ := h
    refine hb_iast (q := 43) hc sh43 sl43 hi rfl dd_X9_anew_42 rfl ?_
    refine hb_aload_n (q := 44) hc dd_X9_anew_43 rfl rfl ?_
    refine hb_getR (q := 47) hc fl_X9_7 sh42 sl42 rfl dd_X9_anew_44 rfl ?_
    refine hb_bipush (q := 49) (v := 6) hc dd_X9_anew_47 rfl bp_6 ?_
    refine hb_iload_n (q := 50) hc dd_X9_anew_49 rfl rfl ?_
    refine hb_iadd (q := 51) hc dd_X9_anew_50 rfl ?_
    refine hb_iconst (q := 52) (v := (-1)) hc dd_X9_anew_51 rfl ic_m1 ?_
    obtain ⟨hi, h⟩ := h
    refine hb_iast (q := 53) hc sh43 sl43 hi rfl dd_X9_anew_52 rfl ?_
    refine hb_iinc (q := 56) (v := v2 + 1) (lv' := [some (.ref 42), none, some (.int (v2 + 1))]) hc dd_X9_anew_53 rfl rfl rfl (Nat.le_of_ble_eq_true rfl) rfl ?_
    refine hb_goto (tg := 28) hc dd_X9_anew_56 (by decide) ?_
    exact hb_weak (lvs (lvn (lvs lvz))) (h p l e s m args below meth c G hc)
theorem w_X9_anew {d : Nat} {M : Mm} {v1 : Int32} {K : Mm → Prop}  (h : lp_X9_anew_28 d (wI (wI (wI (wI (wI M 42 1 v1) 42 2 2) 42 3 20) 42 4 0) 42 5 0) 0 K) : ACv (d + 1) X9_anew [.ref 42, .int v1] M K := by
  refine AC.ofW (lv := [some (.ref 42), some (.int v1), none]) pn_X9 (Nat.le_of_ble_eq_true rfl) (show lvLe _ [some (.ref 42), some (.int v1)] from (lvs (lvs (lve lvz)))) ?_
  intro p l e s m args below meth c G hc
  refine hb_aload_n (q := 1) hc dd_X9_anew_0 rfl rfl ?_
  refine hb_iload_n (q := 2) hc dd_X9_anew_1 rfl rfl ?_
  refine hb_putI (q := 5) hc fl_X9_86 sh42 sl42 rfl dd_X9_anew_2 rfl ?_
  refine hb_aload_n (q := 6) hc dd_X9_anew_5 rfl rfl ?_
  refine hb_iconst (q := 7) (v := 2) hc dd_X9_anew_6 rfl ic_2 ?_
  refine hb_putI (q := 10) hc fl_X9_90 sh42 sl42 rfl dd_X9_anew_7 rfl ?_
  refine hb_aload_n (q := 11) hc dd_X9_anew_10 rfl rfl ?_
  refine hb_bipush (q := 13) (v := 20) hc dd_X9_anew_11 rfl bp_20 ?_
  refine hb_putI (q := 16) hc fl_X9_93 sh42 sl42 rfl dd_X9_anew_13 rfl ?_
  refine hb_aload_n (q := 17) hc dd_X9_anew_16 rfl rfl ?_
  refine hb_iconst (q := 18) (v := 0) hc dd_X9_anew_17 rfl ic_0 ?_
  refine hb_putI (q := 21) hc fl_X9_96 sh42 sl42 rfl dd_X9_anew_18 rfl ?_
  refine hb_aload_n (q := 22) hc dd_X9_anew_21 rfl rfl ?_
  refine hb_iconst (q := 23) (v := 0) hc dd_X9_anew_22 rfl ic_0 ?_
  refine hb_putI (q := 26) hc fl_X9_99 sh42 sl42 rfl dd_X9_anew_23 rfl ?_
  refine hb_iconst (q := 27) (v := 0) hc dd_X9_anew_26 rfl ic_0 ?_
  refine hb_istore_n (q := 28) (lv' := [some (.ref 42), some (.int v1), some (.int 0)]) hc dd_X9_anew_27 rfl (Nat.le_of_ble_eq_true rfl) rfl ?_
  exact hb_weak (lvs (lvn (lvs lvz))) (h p l e s m args below meth c G hc)
theorem w_X9_write {d : Nat} {M : Mm} {v1 : Int32} {K : Int32 → Mm → Prop}  (h : ACi d X9_in [.long v1.toInt64, .long 0, .long 255] M (fun r1 M1 => (¬ r1 = 0 → ((¬ (M1.1 42 10) = 200 → (vp_in (M1.1 42 10) 200 ∧ (K ((M1.1 42 10) + 1) (wI (wI M1 46 ((M1.1 42 10).toNatClampNeg) v1) 42 10 ((M1.1 42 10) + 1))))) ∧ ((M1.1 42 10) = 200 → (K (-5) M1)))) ∧ (r1 = 0 → (K (-3) M1)))) : ACi (d + 1) X9_write [.ref 42, .int v1] M K := by
  refine AC.ofW (lv := [some (.ref 42), some (.int v1)]) pn_X9 (Nat.le_of_ble_eq_true rfl) (show lvLe _ [some (.ref 42), some (.int v1)] from (lvs (lvs lvz))) ?_
  intro p l e s m args below meth c G hc
  refine hb_iload_n (q := 1) hc dd_X9_write_0 rfl rfl ?_
  refine hb_i2l (q := 2) hc dd_X9_write_1 rfl ?_
  refine hb_lconst (q := 3) (v := 0) hc dd_X9_write_2 rfl lc_0 ?_
  refine hb_ldc2 (q := 6) (v := 255) hc dd_X9_write_3 rfl iw_995 ?_
  refine hb_callSi (q := 9) (vs := [.long v1.toInt64, .long 0, .long 255]) (st := []) hc mv_X9_104 h rfl rfl (Nat.le_of_ble_eq_true rfl) ⟨Nat.le_refl _, Nat.le_refl _⟩ ⟨Nat.le_refl _, Nat.le_refl _⟩ dd_X9_write_6 rfl (fun r1 M1 h => ?_)
  refine hb_if_ne (q := 12) (tg := 15) hc dd_X9_write_9 rfl (by decide) (fun z => ?_) (fun z => ?_)
  · replace h := h.1 z
    refine hb_aload_n (q := 16) hc dd_X9_write_15 rfl rfl ?_
    refine hb_getI (q := 19) (v := M1.1 42 10) hc fl_X9_108 sh42 sl42 rfl rfl dd_X9_write_16 rfl ?_
    refine hb_sipush (q := 22) (v := 200) hc dd_X9_write_19 rfl sp_200 ?_
    refine hb_icmp_ne (q := 25) (tg := 28) hc dd_X9_write_22 rfl (by decide) (fun z => ?_) (fun z => ?_)
    · replace h := h.1 z
      refine hb_aload_n (q := 29) hc dd_X9_write_28 rfl rfl ?_
      refine hb_getR (q := 32) hc fl_X9_20 sh42 sl42 rfl dd_X9_write_29 rfl ?_
      refine hb_aload_n (q := 33) hc dd_X9_write_32 rfl rfl ?_
      refine hb_getI (q := 36) (v := M1.1 42 10) hc fl_X9_108 sh42 sl42 rfl rfl dd_X9_write_33 rfl ?_
      refine hb_iload_n (q := 37) hc dd_X9_write_36 rfl rfl ?_
      obtain ⟨hi, h⟩ := h
      refine hb_iast (q := 38) hc sh46 sl46 hi rfl dd_X9_write_37 rfl ?_
      refine hb_aload_n (q := 39) hc dd_X9_write_38 rfl rfl ?_
      refine hb_dup (q := 40) hc dd_X9_write_39 rfl rfl ?_
      refine hb_getI (q := 43) (v := M1.1 42 10) hc fl_X9_108 sh42 sl42 rfl (by simp [wI, wL, cpI, cpL]) dd_X9_write_40 rfl ?_
      refine hb_iconst (q := 44) (v := 1) hc dd_X9_write_43 rfl ic_1 ?_
      refine hb_iadd (q := 45) hc dd_X9_write_44 rfl ?_
      refine hb_putI (q := 48) hc fl_X9_108 sh42 sl42 rfl dd_X9_write_45 rfl ?_
      refine hb_aload_n (q := 49) hc dd_X9_write_48 rfl rfl ?_
      refine hb_getI (q := 52) (v := (M1.1 42 10) + 1) hc fl_X9_108 sh42 sl42 rfl (by simp [wI, wL, cpI, cpL]) dd_X9_write_49 rfl ?_
      exact hb_iret hc rfl dd_X9_write_52 h
    · replace h := h.2 z
      refine hb_bipush (q := 27) (v := (-5)) hc dd_X9_write_25 rfl bp_m5 ?_
      exact hb_iret hc rfl dd_X9_write_27 h
  · replace h := h.2 z
    refine hb_bipush (q := 14) (v := (-3)) hc dd_X9_write_12 rfl bp_m3 ?_
    exact hb_iret hc rfl dd_X9_write_14 h
theorem w_X9_erase {d : Nat} {M : Mm}  {K : Int32 → Mm → Prop}  (h : K (M.1 42 10) (wI M 42 10 0)) : ACi (d + 1) X9_erase [.ref 42] M K := by
  refine AC.ofW (lv := [some (.ref 42), none]) pn_X9 (Nat.le_of_ble_eq_true rfl) (show lvLe _ [some (.ref 42)] from (lvs (lve lvz))) ?_
  intro p l e s m args below meth c G hc
  refine hb_aload_n (q := 1) hc dd_X9_erase_0 rfl rfl ?_
  refine hb_getI (q := 4) (v := M.1 42 10) hc fl_X9_108 sh42 sl42 rfl rfl dd_X9_erase_1 rfl ?_
  refine hb_istore_n (q := 5) (lv' := [some (.ref 42), some (.int (M.1 42 10))]) hc dd_X9_erase_4 rfl (Nat.le_of_ble_eq_true rfl) rfl ?_
  refine hb_aload_n (q := 6) hc dd_X9_erase_5 rfl rfl ?_
  refine hb_iconst (q := 7) (v := 0) hc dd_X9_erase_6 rfl ic_0 ?_
  refine hb_putI (q := 10) hc fl_X9_108 sh42 sl42 rfl dd_X9_erase_7 rfl ?_
  refine hb_iload_n (q := 11) hc dd_X9_erase_10 rfl rfl ?_
  exact hb_iret hc rfl dd_X9_erase_11 h
theorem w_X9_isLetter {d : Nat} {M : Mm} {v0 : Int32} {K : Int32 → Mm → Prop}  (h : ACi d X9_in [.long v0.toInt64, .long 97, .long 122] M (fun r1 M1 => (r1 = 0 ∨ r1 = 1) ∧ K r1 M1)) : ACi (d + 1) X9_isLetter [.int v0] M K := by
  refine AC.ofW (lv := [some (.int v0)]) pn_X9 (Nat.le_of_ble_eq_true rfl) (show lvLe _ [some (.int v0)] from (lvs lvz)) ?_
  intro p l e s m args below meth c G hc
  refine hb_iload_n (q := 1) hc dd_X9_isLetter_0 rfl rfl ?_
  refine hb_i2l (q := 2) hc dd_X9_isLetter_1 rfl ?_
  refine hb_ldc2 (q := 5) (v := 97) hc dd_X9_isLetter_2 rfl iw_1018 ?_
  refine hb_ldc2 (q := 8) (v := 122) hc dd_X9_isLetter_5 rfl iw_1019 ?_
  refine hb_callSi (q := 11) (vs := [.long v0.toInt64, .long 97, .long 122]) (st := []) hc mv_X9_104 h rfl rfl (Nat.le_of_ble_eq_true rfl) ⟨Nat.le_refl _, Nat.le_refl _⟩ ⟨Nat.le_refl _, Nat.le_refl _⟩ dd_X9_isLetter_8 rfl (fun r1 M1 h => ?_)
  exact hb_zret hc rfl h.1 dd_X9_isLetter_11 h.2
theorem w_X9_isDigit {d : Nat} {M : Mm} {v0 : Int32} {K : Int32 → Mm → Prop}  (h : ACi d X9_in [.long v0.toInt64, .long 48, .long 57] M (fun r1 M1 => (r1 = 0 ∨ r1 = 1) ∧ K r1 M1)) : ACi (d + 1) X9_isDigit [.int v0] M K := by
  refine AC.ofW (lv := [some (.int v0)]) pn_X9 (Nat.le_of_ble_eq_true rfl) (show lvLe _ [some (.int v0)] from (lvs lvz)) ?_
  intro p l e s m args below meth c G hc
  refine hb_iload_n (q := 1) hc dd_X9_isDigit_0 rfl rfl ?_
  refine hb_i2l (q := 2) hc dd_X9_isDigit_1 rfl ?_
  refine hb_ldc2 (q := 5) (v := 48) hc dd_X9_isDigit_2 rfl iw_1023 ?_
  refine hb_ldc2 (q := 8) (v := 57) hc dd_X9_isDigit_5 rfl iw_1024 ?_
  refine hb_callSi (q := 11) (vs := [.long v0.toInt64, .long 48, .long 57]) (st := []) hc mv_X9_104 h rfl rfl (Nat.le_of_ble_eq_true rfl) ⟨Nat.le_refl _, Nat.le_refl _⟩ ⟨Nat.le_refl _, Nat.le_refl _⟩ dd_X9_isDigit_8 rfl (fun r1 M1 h => ?_)
  exact hb_zret hc rfl h.1 dd_X9_isDigit_11 h.2
def lp_X9_nextToken_8 (d : Nat) (M : Mm)  (K : Mm → Prop) : Prop := AW (d + 1) X9_nextToken M 8 [some (.ref 42)] [] (QV K)
def lp_X9_nextToken_71 (d : Nat) (M : Mm) (s0 : Int32) (K : Mm → Prop) : Prop := AW (d + 1) X9_nextToken M 71 [some (.ref 42)] [.int s0, .ref 42] (QV K)
def lp_X9_nextToken_100 (d : Nat) (M : Mm)  (K : Mm → Prop) : Prop := AW (d + 1) X9_nextToken M 100 [some (.ref 42)] [] (QV K)
def lp_X9_nextToken_165 (d : Nat) (M : Mm)  (K : Mm → Prop) : Prop := AW (d + 1) X9_nextToken M 165 [some (.ref 42)] [] (QV K)
theorem z_X9_nextToken_8 {d : Nat} {M : Mm}  {K : Mm → Prop}  (h : ((M.1 42 10) ≤ (M.1 42 18) → (((M.1 42 10) ≤ (M.1 42 18) → (lp_X9_nextToken_71 d M (M.1 42 18) K)) ∧ (¬ (M.1 42 10) ≤ (M.1 42 18) → (lp_X9_nextToken_71 d M ((M.1 42 18) + 1) K)))) ∧ (¬ (M.1 42 10) ≤ (M.1 42 18) → (vp_in (M.1 42 18) 200 ∧ ((¬ (M.1 46 ((M.1 42 18).toNatClampNeg)) = 32 → (((M.1 42 10) ≤ (M.1 42 18) → (lp_X9_nextToken_71 d M (M.1 42 18) K)) ∧ (¬ (M.1 42 10) ≤ (M.1 42 18) → (lp_X9_nextToken_71 d M ((M.1 42 18) + 1) K)))) ∧ ((M.1 46 ((M.1 42 18).toNatClampNeg)) = 32 → (lp_X9_nextToken_8 d (wI M 42 18 ((M.1 42 18) + 1)) K)))))) : lp_X9_nextToken_8 d M  K := by
  intro p l e s m args below meth c G hc
  refine hb_aload_n (q := 9) hc dd_X9_nextToken_8 rfl rfl ?_
  refine hb_getI (q := 12) (v := M.1 42 18) hc fl_X9_122 sh42 sl42 rfl rfl dd_X9_nextToken_9 rfl ?_
  refine hb_aload_n (q := 13) hc dd_X9_nextToken_12 rfl rfl ?_
  refine hb_getI (q := 16) (v := M.1 42 10) hc fl_X9_108 sh42 sl42 rfl rfl dd_X9_nextToken_13 rfl ?_
  refine hb_icmp_ge (q := 19) (tg := 46) hc dd_X9_nextToken_16 rfl (by decide) (fun z => ?_) (fun z => ?_)
  · replace h := h.1 z
    refine hb_aload_n (q := 47) hc dd_X9_nextToken_46 rfl rfl ?_
    refine hb_aload_n (q := 48) hc dd_X9_nextToken_47 rfl rfl ?_
    refine hb_getI (q := 51) (v := M.1 42 18) hc fl_X9_122 sh42 sl42 rfl rfl dd_X9_nextToken_48 rfl ?_
    refine hb_aload_n (q := 52) hc dd_X9_nextToken_51 rfl rfl ?_
    refine hb_getI (q := 55) (v := M.1 42 10) hc fl_X9_108 sh42 sl42 rfl rfl dd_X9_nextToken_52 rfl ?_
    refine hb_icmp_ge (q := 58) (tg := 67) hc dd_X9_nextToken_55 rfl (by decide) (fun z => ?_) (fun z => ?_)
    · replace h := h.1 z
      refine hb_aload_n (q := 68) hc dd_X9_nextToken_67 rfl rfl ?_
      refine hb_getI (q := 71) (v := M.1 42 18) hc fl_X9_122 sh42 sl42 rfl rfl dd_X9_nextToken_68 rfl ?_
      exact hb_weak (lvs lvz) (h p l e s m args below meth c G hc)
    · replace h := h.2 z
      refine hb_aload_n (q := 59) hc dd_X9_nextToken_58 rfl rfl ?_
      refine hb_getI (q := 62) (v := M.1 42 18) hc fl_X9_122 sh42 sl42 rfl rfl dd_X9_nextToken_59 rfl ?_
      refine hb_iconst (q := 63) (v := 1) hc dd_X9_nextToken_62 rfl ic_1 ?_
      refine hb_iadd (q := 64) hc dd_X9_nextToken_63 rfl ?_
      refine hb_goto (tg := 71) hc dd_X9_nextToken_64 (by decide) ?_
      exact hb_weak (lvs lvz) (h p l e s m args below meth c G hc)
  · replace h := h.2 z
    refine hb_aload_n (q := 20) hc dd_X9_nextToken_19 rfl rfl ?_
    refine hb_getR (q := 23) hc fl_X9_20 sh42 sl42 rfl dd_X9_nextToken_20 rfl ?_
    refine hb_aload_n (q := 24) hc dd_X9_nextToken_23 rfl rfl ?_
    refine hb_getI (q := 27) (v := M.1 42 18) hc fl_X9_122 sh42 sl42 rfl rfl dd_X9_nextToken_24 rfl ?_
    obtain ⟨hi, h⟩ := h
    refine hb_iald (q := 28) (v := M.1 46 ((M.1 42 18).toNatClampNeg)) hc sh46 sl46 hi rfl rfl dd_X9_nextToken_27 rfl ?_
    refine hb_bipush (q := 30) (v := 32) hc dd_X9_nextToken_28 rfl bp_32 ?_
    refine hb_icmp_ne (q := 33) (tg := 46) hc dd_X9_nextToken_30 rfl (by decide) (fun z => ?_) (fun z => ?_)
    · replace h := h.1 z
      refine hb_aload_n (q := 47) hc dd_X9_nextToken_46 rfl rfl ?_
      refine hb_aload_n (q := 48) hc dd_X9_nextToken_47 rfl rfl ?_
      refine hb_getI (q := 51) (v := M.1 42 18) hc fl_X9_122 sh42 sl42 rfl rfl dd_X9_nextToken_48 rfl ?_
      refine hb_aload_n (q := 52) hc dd_X9_nextToken_51 rfl rfl ?_
      refine hb_getI (q := 55) (v := M.1 42 10) hc fl_X9_108 sh42 sl42 rfl rfl dd_X9_nextToken_52 rfl ?_
      refine hb_icmp_ge (q := 58) (tg := 67) hc dd_X9_nextToken_55 rfl (by decide) (fun z => ?_) (fun z => ?_)
      · replace h := h.1 z
        refine hb_aload_n (q := 68) hc dd_X9_nextToken_67 rfl rfl ?_
        refine hb_getI (q := 71) (v := M.1 42 18) hc fl_X9_122 sh42 sl42 rfl rfl dd_X9_nextToken_68 rfl ?_
        exact hb_weak (lvs lvz) (h p l e s m args below meth c G hc)
      · replace h := h.2 z
        refine hb_aload_n (q := 59) hc dd_X9_nextToken_58 rfl rfl ?_
        refine hb_getI (q := 62) (v := M.1 42 18) hc fl_X9_122 sh42 sl42 rfl rfl dd_X9_nextToken_59 rfl ?_
        refine hb_iconst (q := 63) (v := 1) hc dd_X9_nextToken_62 rfl ic_1 ?_
        refine hb_iadd (q := 64) hc dd_X9_nextToken_63 rfl ?_
        refine hb_goto (tg := 71) hc dd_X9_nextToken_64 (by decide) ?_
        exact hb_weak (lvs lvz) (h p l e s m args below meth c G hc)
    · replace h := h.2 z
      refine hb_aload_n (q := 34) hc dd_X9_nextToken_33 rfl rfl ?_
      refine hb_dup (q := 35) hc dd_X9_nextToken_34 rfl rfl ?_
      refine hb_getI (q := 38) (v := M.1 42 18) hc fl_X9_122 sh42 sl42 rfl rfl dd_X9_nextToken_35 rfl ?_
      refine hb_iconst (q := 39) (v := 1) hc dd_X9_nextToken_38 rfl ic_1 ?_
      refine hb_iadd (q := 40) hc dd_X9_nextToken_39 rfl ?_
      refine hb_putI (q := 43) hc fl_X9_122 sh42 sl42 rfl dd_X9_nextToken_40 rfl ?_
      refine hb_goto (tg := 8) hc dd_X9_nextToken_43 (by decide) ?_
      exact hb_weak (lvs lvz) (h p l e s m args below meth c G hc)
theorem z_X9_nextToken_71 {d : Nat} {M : Mm} {s0 : Int32} {K : Mm → Prop}  (h : ((M.1 42 10) ≤ (M.1 42 18) → (((M.1 42 10) ≤ (M.1 42 18) → (K (wI M 42 19 s0))) ∧ (¬ (M.1 42 10) ≤ (M.1 42 18) → (vp_in (M.1 42 18) 200 ∧ (ACi d X9_isDigit [.int (M.1 46 ((M.1 42 18).toNatClampNeg))] (wI M 42 19 s0) (fun r1 M1 => (r1 = 0 → (K M1)) ∧ (¬ r1 = 0 → (lp_X9_nextToken_165 d M1 K)))))))) ∧ (¬ (M.1 42 10) ≤ (M.1 42 18) → (vp_in (M.1 42 18) 200 ∧ (ACi d X9_isLetter [.int (M.1 46 ((M.1 42 18).toNatClampNeg))] (wI M 42 19 s0) (fun r2 M2 => (r2 = 0 → (((M2.1 42 10) ≤ (M2.1 42 18) → (K M2)) ∧ (¬ (M2.1 42 10) ≤ (M2.1 42 18) → (vp_in (M2.1 42 18) 200 ∧ (ACi d X9_isDigit [.int (M2.1 46 ((M2.1 42 18).toNatClampNeg))] M2 (fun r3 M3 => (r3 = 0 → (K M3)) ∧ (¬ r3 = 0 → (lp_X9_nextToken_165 d M3 K)))))))) ∧ (¬ r2 = 0 → (lp_X9_nextToken_100 d M2 K))))))) : lp_X9_nextToken_71 d M s0 K := by
  intro p l e s m args below meth c G hc
  refine hb_putI (q := 74) hc fl_X9_119 sh42 sl42 rfl dd_X9_nextToken_71 rfl ?_
  refine hb_aload_n (q := 75) hc dd_X9_nextToken_74 rfl rfl ?_
  refine hb_getI (q := 78) (v := M.1 42 18) hc fl_X9_122 sh42 sl42 rfl rfl dd_X9_nextToken_75 rfl ?_
  refine hb_aload_n (q := 79) hc dd_X9_nextToken_78 rfl rfl ?_
  refine hb_getI (q := 82) (v := M.1 42 10) hc fl_X9_108 sh42 sl42 rfl rfl dd_X9_nextToken_79 rfl ?_
  refine hb_icmp_ge (q := 85) (tg := 139) hc dd_X9_nextToken_82 rfl (by decide) (fun z => ?_) (fun z => ?_)
  · replace h := h.1 z
    refine hb_aload_n (q := 140) hc dd_X9_nextToken_139 rfl rfl ?_
    refine hb_getI (q := 143) (v := M.1 42 18) hc fl_X9_122 sh42 sl42 rfl rfl dd_X9_nextToken_140 rfl ?_
    refine hb_aload_n (q := 144) hc dd_X9_nextToken_143 rfl rfl ?_
    refine hb_getI (q := 147) (v := M.1 42 10) hc fl_X9_108 sh42 sl42 rfl rfl dd_X9_nextToken_144 rfl ?_
    refine hb_icmp_ge (q := 150) (tg := 204) hc dd_X9_nextToken_147 rfl (by decide) (fun z => ?_) (fun z => ?_)
    · replace h := h.1 z
      exact hb_vret hc rfl dd_X9_nextToken_204 h
    · replace h := h.2 z
      refine hb_aload_n (q := 151) hc dd_X9_nextToken_150 rfl rfl ?_
      refine hb_getR (q := 154) hc fl_X9_20 sh42 sl42 rfl dd_X9_nextToken_151 rfl ?_
      refine hb_aload_n (q := 155) hc dd_X9_nextToken_154 rfl rfl ?_
      refine hb_getI (q := 158) (v := M.1 42 18) hc fl_X9_122 sh42 sl42 rfl rfl dd_X9_nextToken_155 rfl ?_
      obtain ⟨hi, h⟩ := h
      refine hb_iald (q := 159) (v := M.1 46 ((M.1 42 18).toNatClampNeg)) hc sh46 sl46 hi rfl (by simp [wI, wL, cpI, cpL]) dd_X9_nextToken_158 rfl ?_
      refine hb_callSi (q := 162) (vs := [.int (M.1 46 ((M.1 42 18).toNatClampNeg))]) (st := []) hc mv_X9_129 h rfl rfl (Nat.le_of_ble_eq_true rfl) ⟨Nat.le_refl _, Nat.le_refl _⟩ ⟨Nat.le_refl _, Nat.le_refl _⟩ dd_X9_nextToken_159 rfl (fun r1 M1 h => ?_)
      refine hb_if_eq (q := 165) (tg := 204) hc dd_X9_nextToken_162 rfl (by decide) (fun z => ?_) (fun z => ?_)
      · replace h := h.1 z
        exact hb_vret hc rfl dd_X9_nextToken_204 h
      · replace h := h.2 z
        exact hb_weak (lvs lvz) (h p l e s m args below meth c G hc)
  · replace h := h.2 z
    refine hb_aload_n (q := 86) hc dd_X9_nextToken_85 rfl rfl ?_
    refine hb_getR (q := 89) hc fl_X9_20 sh42 sl42 rfl dd_X9_nextToken_86 rfl ?_
    refine hb_aload_n (q := 90) hc dd_X9_nextToken_89 rfl rfl ?_
    refine hb_getI (q := 93) (v := M.1 42 18) hc fl_X9_122 sh42 sl42 rfl rfl dd_X9_nextToken_90 rfl ?_
    obtain ⟨hi, h⟩ := h
    refine hb_iald (q := 94) (v := M.1 46 ((M.1 42 18).toNatClampNeg)) hc sh46 sl46 hi rfl (by simp [wI, wL, cpI, cpL]) dd_X9_nextToken_93 rfl ?_
    refine hb_callSi (q := 97) (vs := [.int (M.1 46 ((M.1 42 18).toNatClampNeg))]) (st := []) hc mv_X9_125 h rfl rfl (Nat.le_of_ble_eq_true rfl) ⟨Nat.le_refl _, Nat.le_refl _⟩ ⟨Nat.le_refl _, Nat.le_refl _⟩ dd_X9_nextToken_94 rfl (fun r2 M2 h => ?_)
    refine hb_if_eq (q := 100) (tg := 139) hc dd_X9_nextToken_97 rfl (by decide) (fun z => ?_) (fun z => ?_)
    · replace h := h.1 z
      refine hb_aload_n (q := 140) hc dd_X9_nextToken_139 rfl rfl ?_
      refine hb_getI (q := 143) (v := M2.1 42 18) hc fl_X9_122 sh42 sl42 rfl rfl dd_X9_nextToken_140 rfl ?_
      refine hb_aload_n (q := 144) hc dd_X9_nextToken_143 rfl rfl ?_
      refine hb_getI (q := 147) (v := M2.1 42 10) hc fl_X9_108 sh42 sl42 rfl rfl dd_X9_nextToken_144 rfl ?_
      refine hb_icmp_ge (q := 150) (tg := 204) hc dd_X9_nextToken_147 rfl (by decide) (fun z => ?_) (fun z => ?_)
      · replace h := h.1 z
        exact hb_vret hc rfl dd_X9_nextToken_204 h
      · replace h := h.2 z
        refine hb_aload_n (q := 151) hc dd_X9_nextToken_150 rfl rfl ?_
        refine hb_getR (q := 154) hc fl_X9_20 sh42 sl42 rfl dd_X9_nextToken_151 rfl ?_
        refine hb_aload_n (q := 155) hc dd_X9_nextToken_154 rfl rfl ?_
        refine hb_getI (q := 158) (v := M2.1 42 18) hc fl_X9_122 sh42 sl42 rfl rfl dd_X9_nextToken_155 rfl ?_
        obtain ⟨hi, h⟩ := h
        refine hb_iald (q := 159) (v := M2.1 46 ((M2.1 42 18).toNatClampNeg)) hc sh46 sl46 hi rfl rfl dd_X9_nextToken_158 rfl ?_
        refine hb_callSi (q := 162) (vs := [.int (M2.1 46 ((M2.1 42 18).toNatClampNeg))]) (st := []) hc mv_X9_129 h rfl rfl (Nat.le_of_ble_eq_true rfl) ⟨Nat.le_refl _, Nat.le_refl _⟩ ⟨Nat.le_refl _, Nat.le_refl _⟩ dd_X9_nextToken_159 rfl (fun r3 M3 h => ?_)
        refine hb_if_eq (q := 165) (tg := 204) hc dd_X9_nextToken_162 rfl (by decide) (fun z => ?_) (fun z => ?_)
        · replace h := h.1 z
          exact hb_vret hc rfl dd_X9_nextToken_204 h
        · replace h := h.2 z
          exact hb_weak (lvs lvz) (h p l e s m args below meth c G hc)
    · replace h := h.2 z
      exact hb_weak (lvs lvz) (h p l e s m args below meth c G hc)
theorem z_X9_nextToken_100 {d : Nat} {M : Mm}  {K : Mm → Prop}  (h : ((M.1 42 10) ≤ (M.1 42 19) → (K M)) ∧ (¬ (M.1 42 10) ≤ (M.1 42 19) → (vp_in (M.1 42 19) 200 ∧ (ACi d X9_isLetter [.int (M.1 46 ((M.1 42 19).toNatClampNeg))] M (fun r1 M1 => (r1 = 0 → (K M1)) ∧ (¬ r1 = 0 → (lp_X9_nextToken_100 d (wI M1 42 19 ((M1.1 42 19) + 1)) K))))))) : lp_X9_nextToken_100 d M  K := by
  intro p l e s m args below meth c G hc
  refine hb_aload_n (q := 101) hc dd_X9_nextToken_100 rfl rfl ?_
  refine hb_getI (q := 104) (v := M.1 42 19) hc fl_X9_119 sh42 sl42 rfl rfl dd_X9_nextToken_101 rfl ?_
  refine hb_aload_n (q := 105) hc dd_X9_nextToken_104 rfl rfl ?_
  refine hb_getI (q := 108) (v := M.1 42 10) hc fl_X9_108 sh42 sl42 rfl rfl dd_X9_nextToken_105 rfl ?_
  refine hb_icmp_ge (q := 111) (tg := 204) hc dd_X9_nextToken_108 rfl (by decide) (fun z => ?_) (fun z => ?_)
  · replace h := h.1 z
    exact hb_vret hc rfl dd_X9_nextToken_204 h
  · replace h := h.2 z
    refine hb_aload_n (q := 112) hc dd_X9_nextToken_111 rfl rfl ?_
    refine hb_getR (q := 115) hc fl_X9_20 sh42 sl42 rfl dd_X9_nextToken_112 rfl ?_
    refine hb_aload_n (q := 116) hc dd_X9_nextToken_115 rfl rfl ?_
    refine hb_getI (q := 119) (v := M.1 42 19) hc fl_X9_119 sh42 sl42 rfl rfl dd_X9_nextToken_116 rfl ?_
    obtain ⟨hi, h⟩ := h
    refine hb_iald (q := 120) (v := M.1 46 ((M.1 42 19).toNatClampNeg)) hc sh46 sl46 hi rfl rfl dd_X9_nextToken_119 rfl ?_
    refine hb_callSi (q := 123) (vs := [.int (M.1 46 ((M.1 42 19).toNatClampNeg))]) (st := []) hc mv_X9_125 h rfl rfl (Nat.le_of_ble_eq_true rfl) ⟨Nat.le_refl _, Nat.le_refl _⟩ ⟨Nat.le_refl _, Nat.le_refl _⟩ dd_X9_nextToken_120 rfl (fun r1 M1 h => ?_)
    refine hb_if_eq (q := 126) (tg := 204) hc dd_X9_nextToken_123 rfl (by decide) (fun z => ?_) (fun z => ?_)
    · replace h := h.1 z
      exact hb_vret hc rfl dd_X9_nextToken_204 h
    · replace h := h.2 z
      refine hb_aload_n (q := 127) hc dd_X9_nextToken_126 rfl rfl ?_
      refine hb_dup (q := 128) hc dd_X9_nextToken_127 rfl rfl ?_
      refine hb_getI (q := 131) (v := M1.1 42 19) hc fl_X9_119 sh42 sl42 rfl rfl dd_X9_nextToken_128 rfl ?_
      refine hb_iconst (q := 132) (v := 1) hc dd_X9_nextToken_131 rfl ic_1 ?_
      refine hb_iadd (q := 133) hc dd_X9_nextToken_132 rfl ?_
      refine hb_putI (q := 136) hc fl_X9_119 sh42 sl42 rfl dd_X9_nextToken_133 rfl ?_
      refine hb_goto (tg := 100) hc dd_X9_nextToken_136 (by decide) ?_
      exact hb_weak (lvs lvz) (h p l e s m args below meth c G hc)
theorem z_X9_nextToken_165 {d : Nat} {M : Mm}  {K : Mm → Prop}  (h : ((M.1 42 10) ≤ (M.1 42 19) → (K M)) ∧ (¬ (M.1 42 10) ≤ (M.1 42 19) → (vp_in (M.1 42 19) 200 ∧ (ACi d X9_isDigit [.int (M.1 46 ((M.1 42 19).toNatClampNeg))] M (fun r1 M1 => (r1 = 0 → (K M1)) ∧ (¬ r1 = 0 → (lp_X9_nextToken_165 d (wI M1 42 19 ((M1.1 42 19) + 1)) K))))))) : lp_X9_nextToken_165 d M  K := by
  intro p l e s m args below meth c G hc
  refine hb_aload_n (q := 166) hc dd_X9_nextToken_165 rfl rfl ?_
  refine hb_getI (q := 169) (v := M.1 42 19) hc fl_X9_119 sh42 sl42 rfl rfl dd_X9_nextToken_166 rfl ?_
  refine hb_aload_n (q := 170) hc dd_X9_nextToken_169 rfl rfl ?_
  refine hb_getI (q := 173) (v := M.1 42 10) hc fl_X9_108 sh42 sl42 rfl rfl dd_X9_nextToken_170 rfl ?_
  refine hb_icmp_ge (q := 176) (tg := 204) hc dd_X9_nextToken_173 rfl (by decide) (fun z => ?_) (fun z => ?_)
  · replace h := h.1 z
    exact hb_vret hc rfl dd_X9_nextToken_204 h
  · replace h := h.2 z
    refine hb_aload_n (q := 177) hc dd_X9_nextToken_176 rfl rfl ?_
    refine hb_getR (q := 180) hc fl_X9_20 sh42 sl42 rfl dd_X9_nextToken_177 rfl ?_
    refine hb_aload_n (q := 181) hc dd_X9_nextToken_180 rfl rfl ?_
    refine hb_getI (q := 184) (v := M.1 42 19) hc fl_X9_119 sh42 sl42 rfl rfl dd_X9_nextToken_181 rfl ?_
    obtain ⟨hi, h⟩ := h
    refine hb_iald (q := 185) (v := M.1 46 ((M.1 42 19).toNatClampNeg)) hc sh46 sl46 hi rfl rfl dd_X9_nextToken_184 rfl ?_
    refine hb_callSi (q := 188) (vs := [.int (M.1 46 ((M.1 42 19).toNatClampNeg))]) (st := []) hc mv_X9_129 h rfl rfl (Nat.le_of_ble_eq_true rfl) ⟨Nat.le_refl _, Nat.le_refl _⟩ ⟨Nat.le_refl _, Nat.le_refl _⟩ dd_X9_nextToken_185 rfl (fun r1 M1 h => ?_)
    refine hb_if_eq (q := 191) (tg := 204) hc dd_X9_nextToken_188 rfl (by decide) (fun z => ?_) (fun z => ?_)
    · replace h := h.1 z
      exact hb_vret hc rfl dd_X9_nextToken_204 h
    · replace h := h.2 z
      refine hb_aload_n (q := 192) hc dd_X9_nextToken_191 rfl rfl ?_
      refine hb_dup (q := 193) hc dd_X9_nextToken_192 rfl rfl ?_
      refine hb_getI (q := 196) (v := M1.1 42 19) hc fl_X9_119 sh42 sl42 rfl rfl dd_X9_nextToken_193 rfl ?_
      refine hb_iconst (q := 197) (v := 1) hc dd_X9_nextToken_196 rfl ic_1 ?_
      refine hb_iadd (q := 198) hc dd_X9_nextToken_197 rfl ?_
      refine hb_putI (q := 201) hc fl_X9_119 sh42 sl42 rfl dd_X9_nextToken_198 rfl ?_
      refine hb_goto (tg := 165) hc dd_X9_nextToken_201 (by decide) ?_
      exact hb_weak (lvs lvz) (h p l e s m args below meth c G hc)
theorem w_X9_nextToken {d : Nat} {M : Mm}  {K : Mm → Prop}  (h : lp_X9_nextToken_8 d (wI M 42 18 (M.1 42 19)) K) : ACv (d + 1) X9_nextToken [.ref 42] M K := by
  refine AC.ofW (lv := [some (.ref 42)]) pn_X9 (Nat.le_of_ble_eq_true rfl) (show lvLe _ [some (.ref 42)] from (lvs lvz)) ?_
  intro p l e s m args below meth c G hc
  refine hb_aload_n (q := 1) hc dd_X9_nextToken_0 rfl rfl ?_
  refine hb_aload_n (q := 2) hc dd_X9_nextToken_1 rfl rfl ?_
  refine hb_getI (q := 5) (v := M.1 42 19) hc fl_X9_119 sh42 sl42 rfl rfl dd_X9_nextToken_2 rfl ?_
  refine hb_putI (q := 8) hc fl_X9_122 sh42 sl42 rfl dd_X9_nextToken_5 rfl ?_
  exact hb_weak (lvs lvz) (h p l e s m args below meth c G hc)
def lp_X9_isWord_22 (d : Nat) (M : Mm) (v1 : Nat) (v1n : Nat) (v2 : Int32) (v3 : Int32) (K : Int32 → Mm → Prop) : Prop := AW (d + 1) X9_isWord M 22 [some (.ref 42), some (.ref v1), some (.int v2), some (.int v3)] [] (QI K)
theorem z_X9_isWord_22 {d : Nat} {M : Mm} {v1 : Nat} {v1n : Nat} {v2 : Int32} {v3 : Int32} {K : Int32 → Mm → Prop} (hv1 : (shp v1 = .inl (0, v1n, []) ∧ v1 < NSH)) (h : ((nI v1n) ≤ v3 → ((v2 = 0 ∨ v2 = 1) ∧ K v2 M)) ∧ (¬ (nI v1n) ≤ v3 → ((v2 = 0 → ((v2 = 0 ∨ v2 = 1) ∧ K v2 M)) ∧ (¬ v2 = 0 → (vp_in ((M.1 42 18) + v3) 200 ∧ (vp_in v3 v1n ∧ ((¬ (M.1 46 (((M.1 42 18) + v3).toNatClampNeg)) = (M.1 v1 v3.toNatClampNeg) → (lp_X9_isWord_22 d M v1 v1n 0 (v3 + 1) K)) ∧ ((M.1 46 (((M.1 42 18) + v3).toNatClampNeg)) = (M.1 v1 v3.toNatClampNeg) → (lp_X9_isWord_22 d M v1 v1n 1 (v3 + 1) K))))))))) : lp_X9_isWord_22 d M v1 v1n v2 v3 K := by
  intro p l e s m args below meth c G hc
  refine hb_iload_n (q := 23) hc dd_X9_isWord_22 rfl rfl ?_
  refine hb_aload_n (q := 24) hc dd_X9_isWord_23 rfl rfl ?_
  refine hb_alen (q := 25) (v := nI v1n) hc hv1.1 hv1.2 rfl dd_X9_isWord_24 rfl ?_
  refine hb_icmp_ge (q := 28) (tg := 61) hc dd_X9_isWord_25 rfl (by decide) (fun z => ?_) (fun z => ?_)
  · replace h := h.1 z
    refine hb_iload_n (q := 62) hc dd_X9_isWord_61 rfl rfl ?_
    exact hb_zret hc rfl h.1 dd_X9_isWord_62 h.2
  · replace h := h.2 z
    refine hb_iload_n (q := 29) hc dd_X9_isWord_28 rfl rfl ?_
    refine hb_if_eq (q := 32) (tg := 61) hc dd_X9_isWord_29 rfl (by decide) (fun z => ?_) (fun z => ?_)
    · replace h := h.1 z
      refine hb_iload_n (q := 62) hc dd_X9_isWord_61 rfl rfl ?_
      exact hb_zret hc rfl h.1 dd_X9_isWord_62 h.2
    · replace h := h.2 z
      refine hb_aload_n (q := 33) hc dd_X9_isWord_32 rfl rfl ?_
      refine hb_getR (q := 36) hc fl_X9_20 sh42 sl42 rfl dd_X9_isWord_33 rfl ?_
      refine hb_aload_n (q := 37) hc dd_X9_isWord_36 rfl rfl ?_
      refine hb_getI (q := 40) (v := M.1 42 18) hc fl_X9_122 sh42 sl42 rfl rfl dd_X9_isWord_37 rfl ?_
      refine hb_iload_n (q := 41) hc dd_X9_isWord_40 rfl rfl ?_
      refine hb_iadd (q := 42) hc dd_X9_isWord_41 rfl ?_
      obtain ⟨hi, h⟩ := h
      refine hb_iald (q := 43) (v := M.1 46 (((M.1 42 18) + v3).toNatClampNeg)) hc sh46 sl46 hi rfl rfl dd_X9_isWord_42 rfl ?_
      refine hb_aload_n (q := 44) hc dd_X9_isWord_43 rfl rfl ?_
      refine hb_iload_n (q := 45) hc dd_X9_isWord_44 rfl rfl ?_
      obtain ⟨hi, h⟩ := h
      refine hb_iald (q := 46) (v := M.1 v1 v3.toNatClampNeg) hc hv1.1 hv1.2 hi rfl rfl dd_X9_isWord_45 rfl ?_
      refine hb_icmp_ne (q := 49) (tg := 53) hc dd_X9_isWord_46 rfl (by decide) (fun z => ?_) (fun z => ?_)
      · replace h := h.1 z
        refine hb_iconst (q := 54) (v := 0) hc dd_X9_isWord_53 rfl ic_0 ?_
        refine hb_istore_n (q := 55) (lv' := [some (.ref 42), some (.ref v1), some (.int 0), some (.int v3)]) hc dd_X9_isWord_54 rfl (Nat.le_of_ble_eq_true rfl) rfl ?_
        refine hb_iinc (q := 58) (v := v3 + 1) (lv' := [some (.ref 42), some (.ref v1), some (.int 0), some (.int (v3 + 1))]) hc dd_X9_isWord_55 rfl rfl rfl (Nat.le_of_ble_eq_true rfl) rfl ?_
        refine hb_goto (tg := 22) hc dd_X9_isWord_58 (by decide) ?_
        exact hb_weak (lvs (lvs (lvs (lvs lvz)))) (h p l e s m args below meth c G hc)
      · replace h := h.2 z
        refine hb_iconst (q := 50) (v := 1) hc dd_X9_isWord_49 rfl ic_1 ?_
        refine hb_goto (tg := 54) hc dd_X9_isWord_50 (by decide) ?_
        refine hb_istore_n (q := 55) (lv' := [some (.ref 42), some (.ref v1), some (.int 1), some (.int v3)]) hc dd_X9_isWord_54 rfl (Nat.le_of_ble_eq_true rfl) rfl ?_
        refine hb_iinc (q := 58) (v := v3 + 1) (lv' := [some (.ref 42), some (.ref v1), some (.int 1), some (.int (v3 + 1))]) hc dd_X9_isWord_55 rfl rfl rfl (Nat.le_of_ble_eq_true rfl) rfl ?_
        refine hb_goto (tg := 22) hc dd_X9_isWord_58 (by decide) ?_
        exact hb_weak (lvs (lvs (lvs (lvs lvz)))) (h p l e s m args below meth c G hc)
theorem w_X9_isWord {d : Nat} {M : Mm} {wa : Nat} {wn : Nat} {K : Int32 → Mm → Prop} (hwa : (shp wa = .inl (0, wn, []) ∧ wa < NSH)) (h : (¬ ((M.1 42 19) - (M.1 42 18)) = (nI wn) → (lp_X9_isWord_22 d M wa wn 0 0 K)) ∧ (((M.1 42 19) - (M.1 42 18)) = (nI wn) → (lp_X9_isWord_22 d M wa wn 1 0 K))) : ACi (d + 1) X9_isWord [.ref 42, .ref wa] M K := by
  refine AC.ofW (lv := [some (.ref 42), some (.ref wa), none, none]) pn_X9 (Nat.le_of_ble_eq_true rfl) (show lvLe _ [some (.ref 42), some (.ref wa)] from (lvs (lvs (lve (lve lvz))))) ?_
  intro p l e s m args below meth c G hc
  refine hb_aload_n (q := 1) hc dd_X9_isWord_0 rfl rfl ?_
  refine hb_getI (q := 4) (v := M.1 42 19) hc fl_X9_119 sh42 sl42 rfl rfl dd_X9_isWord_1 rfl ?_
  refine hb_aload_n (q := 5) hc dd_X9_isWord_4 rfl rfl ?_
  refine hb_getI (q := 8) (v := M.1 42 18) hc fl_X9_122 sh42 sl42 rfl rfl dd_X9_isWord_5 rfl ?_
  refine hb_isub (q := 9) hc dd_X9_isWord_8 rfl ?_
  refine hb_aload_n (q := 10) hc dd_X9_isWord_9 rfl rfl ?_
  refine hb_alen (q := 11) (v := nI wn) hc hwa.1 hwa.2 rfl dd_X9_isWord_10 rfl ?_
  refine hb_icmp_ne (q := 14) (tg := 18) hc dd_X9_isWord_11 rfl (by decide) (fun z => ?_) (fun z => ?_)
  · replace h := h.1 z
    refine hb_iconst (q := 19) (v := 0) hc dd_X9_isWord_18 rfl ic_0 ?_
    refine hb_istore_n (q := 20) (lv' := [some (.ref 42), some (.ref wa), some (.int 0), none]) hc dd_X9_isWord_19 rfl (Nat.le_of_ble_eq_true rfl) rfl ?_
    refine hb_iconst (q := 21) (v := 0) hc dd_X9_isWord_20 rfl ic_0 ?_
    refine hb_istore_n (q := 22) (lv' := [some (.ref 42), some (.ref wa), some (.int 0), some (.int 0)]) hc dd_X9_isWord_21 rfl (Nat.le_of_ble_eq_true rfl) rfl ?_
    exact hb_weak (lvs (lvs (lvs (lvs lvz)))) (h p l e s m args below meth c G hc)
  · replace h := h.2 z
    refine hb_iconst (q := 15) (v := 1) hc dd_X9_isWord_14 rfl ic_1 ?_
    refine hb_goto (tg := 19) hc dd_X9_isWord_15 (by decide) ?_
    refine hb_istore_n (q := 20) (lv' := [some (.ref 42), some (.ref wa), some (.int 1), none]) hc dd_X9_isWord_19 rfl (Nat.le_of_ble_eq_true rfl) rfl ?_
    refine hb_iconst (q := 21) (v := 0) hc dd_X9_isWord_20 rfl ic_0 ?_
    refine hb_istore_n (q := 22) (lv' := [some (.ref 42), some (.ref wa), some (.int 1), some (.int 0)]) hc dd_X9_isWord_21 rfl (Nat.le_of_ble_eq_true rfl) rfl ?_
    exact hb_weak (lvs (lvs (lvs (lvs lvz)))) (h p l e s m args below meth c G hc)
theorem w_X9_number {d : Nat} {M : Mm} {v1 : Int32} {v2 : Int32} {v3 : Int32} {K : Int32 → Mm → Prop}  (h : ((M.1 42 18) = (M.1 42 10) → (K 0 M)) ∧ (¬ (M.1 42 18) = (M.1 42 10) → (vp_in (M.1 42 18) 200 ∧ (ACi d X9_isDigit [.int (M.1 46 ((M.1 42 18).toNatClampNeg))] M (fun r1 M1 => (r1 = 0 → (K 0 M1)) ∧ (¬ r1 = 0 → ((((M1.1 42 19) - (M1.1 42 18)) ≤ 2 → (vp_in (M1.1 42 18) 200 ∧ ((¬ ((M1.1 42 19) - (M1.1 42 18)) = 2 → (ACi d X9_in [.long (((M1.1 46 ((M1.1 42 18).toNatClampNeg)) - 48).toInt64), .long v2.toInt64, .long v3.toInt64] M1 (fun r2 M2 => (r2 = 0 → ((r2 = 0 ∨ r2 = 1) ∧ K r2 M2)) ∧ (¬ r2 = 0 → (vp_in v1 2 ∧ (ACv d X9_nextToken [.ref 42] (wI M2 52 v1.toNatClampNeg ((M1.1 46 ((M1.1 42 18).toNatClampNeg)) - 48)) (fun M3 => (r2 = 0 ∨ r2 = 1) ∧ K r2 M3))))))) ∧ (((M1.1 42 19) - (M1.1 42 18)) = 2 → (vp_in ((M1.1 42 18) + 1) 200 ∧ (ACi d X9_in [.long ((((10 * ((M1.1 46 ((M1.1 42 18).toNatClampNeg)) - 48)) + (M1.1 46 (((M1.1 42 18) + 1).toNatClampNeg))) - 48).toInt64), .long v2.toInt64, .long v3.toInt64] M1 (fun r4 M4 => (r4 = 0 → ((r4 = 0 ∨ r4 = 1) ∧ K r4 M4)) ∧ (¬ r4 = 0 → (vp_in v1 2 ∧ (ACv d X9_nextToken [.ref 42] (wI M4 52 v1.toNatClampNeg (((10 * ((M1.1 46 ((M1.1 42 18).toNatClampNeg)) - 48)) + (M1.1 46 (((M1.1 42 18) + 1).toNatClampNeg))) - 48)) (fun M5 => (r4 = 0 ∨ r4 = 1) ∧ K r4 M5))))))))))) ∧ (¬ ((M1.1 42 19) - (M1.1 42 18)) ≤ 2 → (K 0 M1))))))))) : ACi (d + 1) X9_number [.ref 42, .int v1, .int v2, .int v3] M K := by
  refine AC.ofW (lv := [some (.ref 42), some (.int v1), some (.int v2), some (.int v3), none, none]) pn_X9 (Nat.le_of_ble_eq_true rfl) (show lvLe _ [some (.ref 42), some (.int v1), some (.int v2), some (.int v3)] from (lvs (lvs (lvs (lvs (lve (lve lvz))))))) ?_
  intro p l e s m args below meth c G hc
  refine hb_aload_n (q := 1) hc dd_X9_number_0 rfl rfl ?_
  refine hb_getI (q := 4) (v := M.1 42 18) hc fl_X9_122 sh42 sl42 rfl rfl dd_X9_number_1 rfl ?_
  refine hb_aload_n (q := 5) hc dd_X9_number_4 rfl rfl ?_
  refine hb_getI (q := 8) (v := M.1 42 10) hc fl_X9_108 sh42 sl42 rfl rfl dd_X9_number_5 rfl ?_
  refine hb_icmp_eq (q := 11) (tg := 39) hc dd_X9_number_8 rfl (by decide) (fun z => ?_) (fun z => ?_)
  · replace h := h.1 z
    refine hb_iconst (q := 40) (v := 0) hc dd_X9_number_39 rfl ic_0 ?_
    exact hb_zret hc rfl (by decide) dd_X9_number_40 h
  · replace h := h.2 z
    refine hb_aload_n (q := 12) hc dd_X9_number_11 rfl rfl ?_
    refine hb_getR (q := 15) hc fl_X9_20 sh42 sl42 rfl dd_X9_number_12 rfl ?_
    refine hb_aload_n (q := 16) hc dd_X9_number_15 rfl rfl ?_
    refine hb_getI (q := 19) (v := M.1 42 18) hc fl_X9_122 sh42 sl42 rfl rfl dd_X9_number_16 rfl ?_
    obtain ⟨hi, h⟩ := h
    refine hb_iald (q := 20) (v := M.1 46 ((M.1 42 18).toNatClampNeg)) hc sh46 sl46 hi rfl rfl dd_X9_number_19 rfl ?_
    refine hb_callSi (q := 23) (vs := [.int (M.1 46 ((M.1 42 18).toNatClampNeg))]) (st := []) hc mv_X9_129 h rfl rfl (Nat.le_of_ble_eq_true rfl) ⟨Nat.le_refl _, Nat.le_refl _⟩ ⟨Nat.le_refl _, Nat.le_refl _⟩ dd_X9_number_20 rfl (fun r1 M1 h => ?_)
    refine hb_if_eq (q := 26) (tg := 39) hc dd_X9_number_23 rfl (by decide) (fun z => ?_) (fun z => ?_)
    · replace h := h.1 z
      refine hb_iconst (q := 40) (v := 0) hc dd_X9_number_39 rfl ic_0 ?_
      exact hb_zret hc rfl (by decide) dd_X9_number_40 h
    · replace h := h.2 z
      refine hb_aload_n (q := 27) hc dd_X9_number_26 rfl rfl ?_
      refine hb_getI (q := 30) (v := M1.1 42 19) hc fl_X9_119 sh42 sl42 rfl rfl dd_X9_number_27 rfl ?_
      refine hb_aload_n (q := 31) hc dd_X9_number_30 rfl rfl ?_
      refine hb_getI (q := 34) (v := M1.1 42 18) hc fl_X9_122 sh42 sl42 rfl rfl dd_X9_number_31 rfl ?_
      refine hb_isub (q := 35) hc dd_X9_number_34 rfl ?_
      refine hb_iconst (q := 36) (v := 2) hc dd_X9_number_35 rfl ic_2 ?_
      refine hb_icmp_le (q := 39) (tg := 41) hc dd_X9_number_36 rfl (by decide) (fun z => ?_) (fun z => ?_)
      · replace h := h.1 z
        refine hb_aload_n (q := 42) hc dd_X9_number_41 rfl rfl ?_
        refine hb_getR (q := 45) hc fl_X9_20 sh42 sl42 rfl dd_X9_number_42 rfl ?_
        refine hb_aload_n (q := 46) hc dd_X9_number_45 rfl rfl ?_
        refine hb_getI (q := 49) (v := M1.1 42 18) hc fl_X9_122 sh42 sl42 rfl rfl dd_X9_number_46 rfl ?_
        obtain ⟨hi, h⟩ := h
        refine hb_iald (q := 50) (v := M1.1 46 ((M1.1 42 18).toNatClampNeg)) hc sh46 sl46 hi rfl rfl dd_X9_number_49 rfl ?_
        refine hb_bipush (q := 52) (v := 48) hc dd_X9_number_50 rfl bp_48 ?_
        refine hb_isub (q := 53) hc dd_X9_number_52 rfl ?_
        refine hb_istore (q := 55) (lv' := [some (.ref 42), some (.int v1), some (.int v2), some (.int v3), some (.int ((M1.1 46 ((M1.1 42 18).toNatClampNeg)) - 48)), none]) hc dd_X9_number_53 rfl (Nat.le_of_ble_eq_true rfl) rfl ?_
        refine hb_aload_n (q := 56) hc dd_X9_number_55 rfl rfl ?_
        refine hb_getI (q := 59) (v := M1.1 42 19) hc fl_X9_119 sh42 sl42 rfl rfl dd_X9_number_56 rfl ?_
        refine hb_aload_n (q := 60) hc dd_X9_number_59 rfl rfl ?_
        refine hb_getI (q := 63) (v := M1.1 42 18) hc fl_X9_122 sh42 sl42 rfl rfl dd_X9_number_60 rfl ?_
        refine hb_isub (q := 64) hc dd_X9_number_63 rfl ?_
        refine hb_iconst (q := 65) (v := 2) hc dd_X9_number_64 rfl ic_2 ?_
        refine hb_icmp_ne (q := 68) (tg := 91) hc dd_X9_number_65 rfl (by decide) (fun z => ?_) (fun z => ?_)
        · replace h := h.1 z
          refine hb_iload (q := 93) hc dd_X9_number_91 rfl rfl ?_
          refine hb_istore (q := 95) (lv' := [some (.ref 42), some (.int v1), some (.int v2), some (.int v3), some (.int ((M1.1 46 ((M1.1 42 18).toNatClampNeg)) - 48)), none]) hc dd_X9_number_93 rfl (Nat.le_of_ble_eq_true rfl) rfl ?_
          refine hb_iload (q := 97) hc dd_X9_number_95 rfl rfl ?_
          refine hb_i2l (q := 98) hc dd_X9_number_97 rfl ?_
          refine hb_iload_n (q := 99) hc dd_X9_number_98 rfl rfl ?_
          refine hb_i2l (q := 100) hc dd_X9_number_99 rfl ?_
          refine hb_iload_n (q := 101) hc dd_X9_number_100 rfl rfl ?_
          refine hb_i2l (q := 102) hc dd_X9_number_101 rfl ?_
          refine hb_callSi (q := 105) (vs := [.long (((M1.1 46 ((M1.1 42 18).toNatClampNeg)) - 48).toInt64), .long v2.toInt64, .long v3.toInt64]) (st := []) hc mv_X9_104 h rfl rfl (Nat.le_of_ble_eq_true rfl) ⟨Nat.le_refl _, Nat.le_refl _⟩ ⟨Nat.le_refl _, Nat.le_refl _⟩ dd_X9_number_102 rfl (fun r2 M2 h => ?_)
          refine hb_istore (q := 107) (lv' := [some (.ref 42), some (.int v1), some (.int v2), some (.int v3), some (.int ((M1.1 46 ((M1.1 42 18).toNatClampNeg)) - 48)), some (.int r2)]) hc dd_X9_number_105 rfl (Nat.le_of_ble_eq_true rfl) rfl ?_
          refine hb_iload (q := 109) hc dd_X9_number_107 rfl rfl ?_
          refine hb_if_eq (q := 112) (tg := 124) hc dd_X9_number_109 rfl (by decide) (fun z => ?_) (fun z => ?_)
          · replace h := h.1 z
            refine hb_iload (q := 126) hc dd_X9_number_124 rfl rfl ?_
            exact hb_zret hc rfl h.1 dd_X9_number_126 h.2
          · replace h := h.2 z
            refine hb_aload_n (q := 113) hc dd_X9_number_112 rfl rfl ?_
            refine hb_getR (q := 116) hc fl_X9_38 sh42 sl42 rfl dd_X9_number_113 rfl ?_
            refine hb_iload_n (q := 117) hc dd_X9_number_116 rfl rfl ?_
            refine hb_iload (q := 119) hc dd_X9_number_117 rfl rfl ?_
            obtain ⟨hi, h⟩ := h
            refine hb_iast (q := 120) hc sh52 sl52 hi rfl dd_X9_number_119 rfl ?_
            refine hb_aload_n (q := 121) hc dd_X9_number_120 rfl rfl ?_
            refine hb_callVv (q := 124) (vs := []) (st := []) hc mv_X9_132 h sh42 sl42 rfl rfl rfl (Nat.le_of_ble_eq_true rfl) ⟨Nat.le_refl _, Nat.le_refl _⟩ ⟨Nat.le_refl _, Nat.le_refl _⟩ dd_X9_number_121 rfl (fun M3 h => ?_)
            refine hb_iload (q := 126) hc dd_X9_number_124 rfl rfl ?_
            exact hb_zret hc rfl h.1 dd_X9_number_126 h.2
        · replace h := h.2 z
          refine hb_bipush (q := 70) (v := 10) hc dd_X9_number_68 rfl bp_10 ?_
          refine hb_iload (q := 72) hc dd_X9_number_70 rfl rfl ?_
          refine hb_imul (q := 73) hc dd_X9_number_72 rfl ?_
          refine hb_aload_n (q := 74) hc dd_X9_number_73 rfl rfl ?_
          refine hb_getR (q := 77) hc fl_X9_20 sh42 sl42 rfl dd_X9_number_74 rfl ?_
          refine hb_aload_n (q := 78) hc dd_X9_number_77 rfl rfl ?_
          refine hb_getI (q := 81) (v := M1.1 42 18) hc fl_X9_122 sh42 sl42 rfl rfl dd_X9_number_78 rfl ?_
          refine hb_iconst (q := 82) (v := 1) hc dd_X9_number_81 rfl ic_1 ?_
          refine hb_iadd (q := 83) hc dd_X9_number_82 rfl ?_
          obtain ⟨hi, h⟩ := h
          refine hb_iald (q := 84) (v := M1.1 46 (((M1.1 42 18) + 1).toNatClampNeg)) hc sh46 sl46 hi rfl rfl dd_X9_number_83 rfl ?_
          refine hb_iadd (q := 85) hc dd_X9_number_84 rfl ?_
          refine hb_bipush (q := 87) (v := 48) hc dd_X9_number_85 rfl bp_48 ?_
          refine hb_isub (q := 88) hc dd_X9_number_87 rfl ?_
          refine hb_goto (tg := 93) hc dd_X9_number_88 (by decide) ?_
          refine hb_istore (q := 95) (lv' := [some (.ref 42), some (.int v1), some (.int v2), some (.int v3), some (.int (((10 * ((M1.1 46 ((M1.1 42 18).toNatClampNeg)) - 48)) + (M1.1 46 (((M1.1 42 18) + 1).toNatClampNeg))) - 48)), none]) hc dd_X9_number_93 rfl (Nat.le_of_ble_eq_true rfl) rfl ?_
          refine hb_iload (q := 97) hc dd_X9_number_95 rfl rfl ?_
          refine hb_i2l (q := 98) hc dd_X9_number_97 rfl ?_
          refine hb_iload_n (q := 99) hc dd_X9_number_98 rfl rfl ?_
          refine hb_i2l (q := 100) hc dd_X9_number_99 rfl ?_
          refine hb_iload_n (q := 101) hc dd_X9_number_100 rfl rfl ?_
          refine hb_i2l (q := 102) hc dd_X9_number_101 rfl ?_
          refine hb_callSi (q := 105) (vs := [.long ((((10 * ((M1.1 46 ((M1.1 42 18).toNatClampNeg)) - 48)) + (M1.1 46 (((M1.1 42 18) + 1).toNatClampNeg))) - 48).toInt64), .long v2.toInt64, .long v3.toInt64]) (st := []) hc mv_X9_104 h rfl rfl (Nat.le_of_ble_eq_true rfl) ⟨Nat.le_refl _, Nat.le_refl _⟩ ⟨Nat.le_refl _, Nat.le_refl _⟩ dd_X9_number_102 rfl (fun r4 M4 h => ?_)
          refine hb_istore (q := 107) (lv' := [some (.ref 42), some (.int v1), some (.int v2), some (.int v3), some (.int (((10 * ((M1.1 46 ((M1.1 42 18).toNatClampNeg)) - 48)) + (M1.1 46 (((M1.1 42 18) + 1).toNatClampNeg))) - 48)), some (.int r4)]) hc dd_X9_number_105 rfl (Nat.le_of_ble_eq_true rfl) rfl ?_
          refine hb_iload (q := 109) hc dd_X9_number_107 rfl rfl ?_
          refine hb_if_eq (q := 112) (tg := 124) hc dd_X9_number_109 rfl (by decide) (fun z => ?_) (fun z => ?_)
          · replace h := h.1 z
            refine hb_iload (q := 126) hc dd_X9_number_124 rfl rfl ?_
            exact hb_zret hc rfl h.1 dd_X9_number_126 h.2
          · replace h := h.2 z
            refine hb_aload_n (q := 113) hc dd_X9_number_112 rfl rfl ?_
            refine hb_getR (q := 116) hc fl_X9_38 sh42 sl42 rfl dd_X9_number_113 rfl ?_
            refine hb_iload_n (q := 117) hc dd_X9_number_116 rfl rfl ?_
            refine hb_iload (q := 119) hc dd_X9_number_117 rfl rfl ?_
            obtain ⟨hi, h⟩ := h
            refine hb_iast (q := 120) hc sh52 sl52 hi rfl dd_X9_number_119 rfl ?_
            refine hb_aload_n (q := 121) hc dd_X9_number_120 rfl rfl ?_
            refine hb_callVv (q := 124) (vs := []) (st := []) hc mv_X9_132 h sh42 sl42 rfl rfl rfl (Nat.le_of_ble_eq_true rfl) ⟨Nat.le_refl _, Nat.le_refl _⟩ ⟨Nat.le_refl _, Nat.le_refl _⟩ dd_X9_number_121 rfl (fun M5 h => ?_)
            refine hb_iload (q := 126) hc dd_X9_number_124 rfl rfl ?_
            exact hb_zret hc rfl h.1 dd_X9_number_126 h.2
      · replace h := h.2 z
        refine hb_iconst (q := 40) (v := 0) hc dd_X9_number_39 rfl ic_0 ?_
        exact hb_zret hc rfl (by decide) dd_X9_number_40 h
def lp_X9_readsBeats_40 (d : Nat) (M : Mm) (v1 : Int32) (v2 : Int32) (v3 : Int32) (K : Int32 → Mm → Prop) : Prop := AW (d + 1) X9_readsBeats M 40 [some (.ref 42), some (.int v1), some (.int v2), some (.int v3)] [] (QI K)
theorem z_X9_readsBeats_40 {d : Nat} {M : Mm} {v1 : Int32} {v2 : Int32} {v3 : Int32} {K : Int32 → Mm → Prop}  (h : ((M.1 42 19) ≤ v3 → ((v1 = 0 → ((v1 = 0 ∨ v1 = 1) ∧ K v1 M)) ∧ (¬ v1 = 0 → (ACv d X9_nextToken [.ref 42] (wI M 52 0 v2) (fun M1 => (v1 = 0 ∨ v1 = 1) ∧ K v1 M1))))) ∧ (¬ (M.1 42 19) ≤ v3 → ((v1 = 0 → ((v1 = 0 → ((v1 = 0 ∨ v1 = 1) ∧ K v1 M)) ∧ (¬ v1 = 0 → (ACv d X9_nextToken [.ref 42] (wI M 52 0 v2) (fun M2 => (v1 = 0 ∨ v1 = 1) ∧ K v1 M2))))) ∧ (¬ v1 = 0 → (vp_in v3 200 ∧ (((M.1 46 v3.toNatClampNeg) = 100 → (vp_in v3 200 ∧ ((¬ (M.1 46 v3.toNatClampNeg) = 102 → (lp_X9_readsBeats_40 d M 1 ((2 * v2) + 0) (v3 + 1) K)) ∧ ((M.1 46 v3.toNatClampNeg) = 102 → (lp_X9_readsBeats_40 d M 1 ((2 * v2) + 1) (v3 + 1) K))))) ∧ (¬ (M.1 46 v3.toNatClampNeg) = 100 → (vp_in v3 200 ∧ ((¬ (M.1 46 v3.toNatClampNeg) = 102 → (vp_in v3 200 ∧ ((¬ (M.1 46 v3.toNatClampNeg) = 102 → (lp_X9_readsBeats_40 d M 0 ((2 * v2) + 0) (v3 + 1) K)) ∧ ((M.1 46 v3.toNatClampNeg) = 102 → (lp_X9_readsBeats_40 d M 0 ((2 * v2) + 1) (v3 + 1) K))))) ∧ ((M.1 46 v3.toNatClampNeg) = 102 → (vp_in v3 200 ∧ ((¬ (M.1 46 v3.toNatClampNeg) = 102 → (lp_X9_readsBeats_40 d M 1 ((2 * v2) + 0) (v3 + 1) K)) ∧ ((M.1 46 v3.toNatClampNeg) = 102 → (lp_X9_readsBeats_40 d M 1 ((2 * v2) + 1) (v3 + 1) K)))))))))))))) : lp_X9_readsBeats_40 d M v1 v2 v3 K := by
  intro p l e s m args below meth c G hc
  refine hb_iload_n (q := 41) hc dd_X9_readsBeats_40 rfl rfl ?_
  refine hb_aload_n (q := 42) hc dd_X9_readsBeats_41 rfl rfl ?_
  refine hb_getI (q := 45) (v := M.1 42 19) hc fl_X9_119 sh42 sl42 rfl rfl dd_X9_readsBeats_42 rfl ?_
  refine hb_icmp_ge (q := 48) (tg := 107) hc dd_X9_readsBeats_45 rfl (by decide) (fun z => ?_) (fun z => ?_)
  · replace h := h.1 z
    refine hb_iload_n (q := 108) hc dd_X9_readsBeats_107 rfl rfl ?_
    refine hb_if_eq (q := 111) (tg := 122) hc dd_X9_readsBeats_108 rfl (by decide) (fun z => ?_) (fun z => ?_)
    · replace h := h.1 z
      refine hb_iload_n (q := 123) hc dd_X9_readsBeats_122 rfl rfl ?_
      exact hb_zret hc rfl h.1 dd_X9_readsBeats_123 h.2
    · replace h := h.2 z
      refine hb_aload_n (q := 112) hc dd_X9_readsBeats_111 rfl rfl ?_
      refine hb_getR (q := 115) hc fl_X9_38 sh42 sl42 rfl dd_X9_readsBeats_112 rfl ?_
      refine hb_iconst (q := 116) (v := 0) hc dd_X9_readsBeats_115 rfl ic_0 ?_
      refine hb_iload_n (q := 117) hc dd_X9_readsBeats_116 rfl rfl ?_
      refine hb_iast (q := 118) (k := 0) hc sh52 sl52 vl_0_2 cl_0 dd_X9_readsBeats_117 rfl ?_
      refine hb_aload_n (q := 119) hc dd_X9_readsBeats_118 rfl rfl ?_
      refine hb_callVv (q := 122) (vs := []) (st := []) hc mv_X9_132 h sh42 sl42 rfl rfl rfl (Nat.le_of_ble_eq_true rfl) ⟨Nat.le_refl _, Nat.le_refl _⟩ ⟨Nat.le_refl _, Nat.le_refl _⟩ dd_X9_readsBeats_119 rfl (fun M1 h => ?_)
      refine hb_iload_n (q := 123) hc dd_X9_readsBeats_122 rfl rfl ?_
      exact hb_zret hc rfl h.1 dd_X9_readsBeats_123 h.2
  · replace h := h.2 z
    refine hb_iload_n (q := 49) hc dd_X9_readsBeats_48 rfl rfl ?_
    refine hb_if_eq (q := 52) (tg := 107) hc dd_X9_readsBeats_49 rfl (by decide) (fun z => ?_) (fun z => ?_)
    · replace h := h.1 z
      refine hb_iload_n (q := 108) hc dd_X9_readsBeats_107 rfl rfl ?_
      refine hb_if_eq (q := 111) (tg := 122) hc dd_X9_readsBeats_108 rfl (by decide) (fun z => ?_) (fun z => ?_)
      · replace h := h.1 z
        refine hb_iload_n (q := 123) hc dd_X9_readsBeats_122 rfl rfl ?_
        exact hb_zret hc rfl h.1 dd_X9_readsBeats_123 h.2
      · replace h := h.2 z
        refine hb_aload_n (q := 112) hc dd_X9_readsBeats_111 rfl rfl ?_
        refine hb_getR (q := 115) hc fl_X9_38 sh42 sl42 rfl dd_X9_readsBeats_112 rfl ?_
        refine hb_iconst (q := 116) (v := 0) hc dd_X9_readsBeats_115 rfl ic_0 ?_
        refine hb_iload_n (q := 117) hc dd_X9_readsBeats_116 rfl rfl ?_
        refine hb_iast (q := 118) (k := 0) hc sh52 sl52 vl_0_2 cl_0 dd_X9_readsBeats_117 rfl ?_
        refine hb_aload_n (q := 119) hc dd_X9_readsBeats_118 rfl rfl ?_
        refine hb_callVv (q := 122) (vs := []) (st := []) hc mv_X9_132 h sh42 sl42 rfl rfl rfl (Nat.le_of_ble_eq_true rfl) ⟨Nat.le_refl _, Nat.le_refl _⟩ ⟨Nat.le_refl _, Nat.le_refl _⟩ dd_X9_readsBeats_119 rfl (fun M2 h => ?_)
        refine hb_iload_n (q := 123) hc dd_X9_readsBeats_122 rfl rfl ?_
        exact hb_zret hc rfl h.1 dd_X9_readsBeats_123 h.2
    · replace h := h.2 z
      refine hb_aload_n (q := 53) hc dd_X9_readsBeats_52 rfl rfl ?_
      refine hb_getR (q := 56) hc fl_X9_20 sh42 sl42 rfl dd_X9_readsBeats_53 rfl ?_
      refine hb_iload_n (q := 57) hc dd_X9_readsBeats_56 rfl rfl ?_
      obtain ⟨hi, h⟩ := h
      refine hb_iald (q := 58) (v := M.1 46 v3.toNatClampNeg) hc sh46 sl46 hi rfl rfl dd_X9_readsBeats_57 rfl ?_
      refine hb_bipush (q := 60) (v := 100) hc dd_X9_readsBeats_58 rfl bp_100 ?_
      refine hb_icmp_eq (q := 63) (tg := 74) hc dd_X9_readsBeats_60 rfl (by decide) (fun z => ?_) (fun z => ?_)
      · replace h := h.1 z
        refine hb_iconst (q := 75) (v := 1) hc dd_X9_readsBeats_74 rfl ic_1 ?_
        refine hb_goto (tg := 79) hc dd_X9_readsBeats_75 (by decide) ?_
        refine hb_istore_n (q := 80) (lv' := [some (.ref 42), some (.int 1), some (.int v2), some (.int v3)]) hc dd_X9_readsBeats_79 rfl (Nat.le_of_ble_eq_true rfl) rfl ?_
        refine hb_iconst (q := 81) (v := 2) hc dd_X9_readsBeats_80 rfl ic_2 ?_
        refine hb_iload_n (q := 82) hc dd_X9_readsBeats_81 rfl rfl ?_
        refine hb_imul (q := 83) hc dd_X9_readsBeats_82 rfl ?_
        refine hb_aload_n (q := 84) hc dd_X9_readsBeats_83 rfl rfl ?_
        refine hb_getR (q := 87) hc fl_X9_20 sh42 sl42 rfl dd_X9_readsBeats_84 rfl ?_
        refine hb_iload_n (q := 88) hc dd_X9_readsBeats_87 rfl rfl ?_
        obtain ⟨hi, h⟩ := h
        refine hb_iald (q := 89) (v := M.1 46 v3.toNatClampNeg) hc sh46 sl46 hi rfl rfl dd_X9_readsBeats_88 rfl ?_
        refine hb_bipush (q := 91) (v := 102) hc dd_X9_readsBeats_89 rfl bp_102 ?_
        refine hb_icmp_ne (q := 94) (tg := 98) hc dd_X9_readsBeats_91 rfl (by decide) (fun z => ?_) (fun z => ?_)
        · replace h := h.1 z
          refine hb_iconst (q := 99) (v := 0) hc dd_X9_readsBeats_98 rfl ic_0 ?_
          refine hb_iadd (q := 100) hc dd_X9_readsBeats_99 rfl ?_
          refine hb_istore_n (q := 101) (lv' := [some (.ref 42), some (.int 1), some (.int ((2 * v2) + 0)), some (.int v3)]) hc dd_X9_readsBeats_100 rfl (Nat.le_of_ble_eq_true rfl) rfl ?_
          refine hb_iinc (q := 104) (v := v3 + 1) (lv' := [some (.ref 42), some (.int 1), some (.int ((2 * v2) + 0)), some (.int (v3 + 1))]) hc dd_X9_readsBeats_101 rfl rfl rfl (Nat.le_of_ble_eq_true rfl) rfl ?_
          refine hb_goto (tg := 40) hc dd_X9_readsBeats_104 (by decide) ?_
          exact hb_weak (lvs (lvs (lvs (lvs lvz)))) (h p l e s m args below meth c G hc)
        · replace h := h.2 z
          refine hb_iconst (q := 95) (v := 1) hc dd_X9_readsBeats_94 rfl ic_1 ?_
          refine hb_goto (tg := 99) hc dd_X9_readsBeats_95 (by decide) ?_
          refine hb_iadd (q := 100) hc dd_X9_readsBeats_99 rfl ?_
          refine hb_istore_n (q := 101) (lv' := [some (.ref 42), some (.int 1), some (.int ((2 * v2) + 1)), some (.int v3)]) hc dd_X9_readsBeats_100 rfl (Nat.le_of_ble_eq_true rfl) rfl ?_
          refine hb_iinc (q := 104) (v := v3 + 1) (lv' := [some (.ref 42), some (.int 1), some (.int ((2 * v2) + 1)), some (.int (v3 + 1))]) hc dd_X9_readsBeats_101 rfl rfl rfl (Nat.le_of_ble_eq_true rfl) rfl ?_
          refine hb_goto (tg := 40) hc dd_X9_readsBeats_104 (by decide) ?_
          exact hb_weak (lvs (lvs (lvs (lvs lvz)))) (h p l e s m args below meth c G hc)
      · replace h := h.2 z
        refine hb_aload_n (q := 64) hc dd_X9_readsBeats_63 rfl rfl ?_
        refine hb_getR (q := 67) hc fl_X9_20 sh42 sl42 rfl dd_X9_readsBeats_64 rfl ?_
        refine hb_iload_n (q := 68) hc dd_X9_readsBeats_67 rfl rfl ?_
        obtain ⟨hi, h⟩ := h
        refine hb_iald (q := 69) (v := M.1 46 v3.toNatClampNeg) hc sh46 sl46 hi rfl rfl dd_X9_readsBeats_68 rfl ?_
        refine hb_bipush (q := 71) (v := 102) hc dd_X9_readsBeats_69 rfl bp_102 ?_
        refine hb_icmp_ne (q := 74) (tg := 78) hc dd_X9_readsBeats_71 rfl (by decide) (fun z => ?_) (fun z => ?_)
        · replace h := h.1 z
          refine hb_iconst (q := 79) (v := 0) hc dd_X9_readsBeats_78 rfl ic_0 ?_
          refine hb_istore_n (q := 80) (lv' := [some (.ref 42), some (.int 0), some (.int v2), some (.int v3)]) hc dd_X9_readsBeats_79 rfl (Nat.le_of_ble_eq_true rfl) rfl ?_
          refine hb_iconst (q := 81) (v := 2) hc dd_X9_readsBeats_80 rfl ic_2 ?_
          refine hb_iload_n (q := 82) hc dd_X9_readsBeats_81 rfl rfl ?_
          refine hb_imul (q := 83) hc dd_X9_readsBeats_82 rfl ?_
          refine hb_aload_n (q := 84) hc dd_X9_readsBeats_83 rfl rfl ?_
          refine hb_getR (q := 87) hc fl_X9_20 sh42 sl42 rfl dd_X9_readsBeats_84 rfl ?_
          refine hb_iload_n (q := 88) hc dd_X9_readsBeats_87 rfl rfl ?_
          obtain ⟨hi, h⟩ := h
          refine hb_iald (q := 89) (v := M.1 46 v3.toNatClampNeg) hc sh46 sl46 hi rfl rfl dd_X9_readsBeats_88 rfl ?_
          refine hb_bipush (q := 91) (v := 102) hc dd_X9_readsBeats_89 rfl bp_102 ?_
          refine hb_icmp_ne (q := 94) (tg := 98) hc dd_X9_readsBeats_91 rfl (by decide) (fun z => ?_) (fun z => ?_)
          · replace h := h.1 z
            refine hb_iconst (q := 99) (v := 0) hc dd_X9_readsBeats_98 rfl ic_0 ?_
            refine hb_iadd (q := 100) hc dd_X9_readsBeats_99 rfl ?_
            refine hb_istore_n (q := 101) (lv' := [some (.ref 42), some (.int 0), some (.int ((2 * v2) + 0)), some (.int v3)]) hc dd_X9_readsBeats_100 rfl (Nat.le_of_ble_eq_true rfl) rfl ?_
            refine hb_iinc (q := 104) (v := v3 + 1) (lv' := [some (.ref 42), some (.int 0), some (.int ((2 * v2) + 0)), some (.int (v3 + 1))]) hc dd_X9_readsBeats_101 rfl rfl rfl (Nat.le_of_ble_eq_true rfl) rfl ?_
            refine hb_goto (tg := 40) hc dd_X9_readsBeats_104 (by decide) ?_
            exact hb_weak (lvs (lvs (lvs (lvs lvz)))) (h p l e s m args below meth c G hc)
          · replace h := h.2 z
            refine hb_iconst (q := 95) (v := 1) hc dd_X9_readsBeats_94 rfl ic_1 ?_
            refine hb_goto (tg := 99) hc dd_X9_readsBeats_95 (by decide) ?_
            refine hb_iadd (q := 100) hc dd_X9_readsBeats_99 rfl ?_
            refine hb_istore_n (q := 101) (lv' := [some (.ref 42), some (.int 0), some (.int ((2 * v2) + 1)), some (.int v3)]) hc dd_X9_readsBeats_100 rfl (Nat.le_of_ble_eq_true rfl) rfl ?_
            refine hb_iinc (q := 104) (v := v3 + 1) (lv' := [some (.ref 42), some (.int 0), some (.int ((2 * v2) + 1)), some (.int (v3 + 1))]) hc dd_X9_readsBeats_101 rfl rfl rfl (Nat.le_of_ble_eq_true rfl) rfl ?_
            refine hb_goto (tg := 40) hc dd_X9_readsBeats_104 (by decide) ?_
            exact hb_weak (lvs (lvs (lvs (lvs lvz)))) (h p l e s m args below meth c G hc)
        · replace h := h.2 z
          refine hb_iconst (q := 75) (v := 1) hc dd_X9_readsBeats_74 rfl ic_1 ?_
          refine hb_goto (tg := 79) hc dd_X9_readsBeats_75 (by decide) ?_
          refine hb_istore_n (q := 80) (lv' := [some (.ref 42), some (.int 1), some (.int v2), some (.int v3)]) hc dd_X9_readsBeats_79 rfl (Nat.le_of_ble_eq_true rfl) rfl ?_
          refine hb_iconst (q := 81) (v := 2) hc dd_X9_readsBeats_80 rfl ic_2 ?_
          refine hb_iload_n (q := 82) hc dd_X9_readsBeats_81 rfl rfl ?_
          refine hb_imul (q := 83) hc dd_X9_readsBeats_82 rfl ?_
          refine hb_aload_n (q := 84) hc dd_X9_readsBeats_83 rfl rfl ?_
          refine hb_getR (q := 87) hc fl_X9_20 sh42 sl42 rfl dd_X9_readsBeats_84 rfl ?_
          refine hb_iload_n (q := 88) hc dd_X9_readsBeats_87 rfl rfl ?_
          obtain ⟨hi, h⟩ := h
          refine hb_iald (q := 89) (v := M.1 46 v3.toNatClampNeg) hc sh46 sl46 hi rfl rfl dd_X9_readsBeats_88 rfl ?_
          refine hb_bipush (q := 91) (v := 102) hc dd_X9_readsBeats_89 rfl bp_102 ?_
          refine hb_icmp_ne (q := 94) (tg := 98) hc dd_X9_readsBeats_91 rfl (by decide) (fun z => ?_) (fun z => ?_)
          · replace h := h.1 z
            refine hb_iconst (q := 99) (v := 0) hc dd_X9_readsBeats_98 rfl ic_0 ?_
            refine hb_iadd (q := 100) hc dd_X9_readsBeats_99 rfl ?_
            refine hb_istore_n (q := 101) (lv' := [some (.ref 42), some (.int 1), some (.int ((2 * v2) + 0)), some (.int v3)]) hc dd_X9_readsBeats_100 rfl (Nat.le_of_ble_eq_true rfl) rfl ?_
            refine hb_iinc (q := 104) (v := v3 + 1) (lv' := [some (.ref 42), some (.int 1), some (.int ((2 * v2) + 0)), some (.int (v3 + 1))]) hc dd_X9_readsBeats_101 rfl rfl rfl (Nat.le_of_ble_eq_true rfl) rfl ?_
            refine hb_goto (tg := 40) hc dd_X9_readsBeats_104 (by decide) ?_
            exact hb_weak (lvs (lvs (lvs (lvs lvz)))) (h p l e s m args below meth c G hc)
          · replace h := h.2 z
            refine hb_iconst (q := 95) (v := 1) hc dd_X9_readsBeats_94 rfl ic_1 ?_
            refine hb_goto (tg := 99) hc dd_X9_readsBeats_95 (by decide) ?_
            refine hb_iadd (q := 100) hc dd_X9_readsBeats_99 rfl ?_
            refine hb_istore_n (q := 101) (lv' := [some (.ref 42), some (.int 1), some (.int ((2 * v2) + 1)), some (.int v3)]) hc dd_X9_readsBeats_100 rfl (Nat.le_of_ble_eq_true rfl) rfl ?_
            refine hb_iinc (q := 104) (v := v3 + 1) (lv' := [some (.ref 42), some (.int 1), some (.int ((2 * v2) + 1)), some (.int (v3 + 1))]) hc dd_X9_readsBeats_101 rfl rfl rfl (Nat.le_of_ble_eq_true rfl) rfl ?_
            refine hb_goto (tg := 40) hc dd_X9_readsBeats_104 (by decide) ?_
            exact hb_weak (lvs (lvs (lvs (lvs lvz)))) (h p l e s m args below meth c G hc)
theorem w_X9_readsBeats {d : Nat} {M : Mm}  {K : Int32 → Mm → Prop}  (h : ((M.1 42 10) ≤ (M.1 42 18) → (lp_X9_readsBeats_40 d M 0 0 (M.1 42 18) K)) ∧ (¬ (M.1 42 10) ≤ (M.1 42 18) → ((¬ ((M.1 42 19) - (M.1 42 18)) = (M.1 42 20) → (lp_X9_readsBeats_40 d M 0 0 (M.1 42 18) K)) ∧ (((M.1 42 19) - (M.1 42 18)) = (M.1 42 20) → (lp_X9_readsBeats_40 d M 1 0 (M.1 42 18) K))))) : ACi (d + 1) X9_readsBeats [.ref 42] M K := by
  refine AC.ofW (lv := [some (.ref 42), none, none, none]) pn_X9 (Nat.le_of_ble_eq_true rfl) (show lvLe _ [some (.ref 42)] from (lvs (lve (lve (lve lvz))))) ?_
  intro p l e s m args below meth c G hc
  refine hb_aload_n (q := 1) hc dd_X9_readsBeats_0 rfl rfl ?_
  refine hb_getI (q := 4) (v := M.1 42 18) hc fl_X9_122 sh42 sl42 rfl rfl dd_X9_readsBeats_1 rfl ?_
  refine hb_aload_n (q := 5) hc dd_X9_readsBeats_4 rfl rfl ?_
  refine hb_getI (q := 8) (v := M.1 42 10) hc fl_X9_108 sh42 sl42 rfl rfl dd_X9_readsBeats_5 rfl ?_
  refine hb_icmp_ge (q := 11) (tg := 31) hc dd_X9_readsBeats_8 rfl (by decide) (fun z => ?_) (fun z => ?_)
  · replace h := h.1 z
    refine hb_iconst (q := 32) (v := 0) hc dd_X9_readsBeats_31 rfl ic_0 ?_
    refine hb_istore_n (q := 33) (lv' := [some (.ref 42), some (.int 0), none, none]) hc dd_X9_readsBeats_32 rfl (Nat.le_of_ble_eq_true rfl) rfl ?_
    refine hb_iconst (q := 34) (v := 0) hc dd_X9_readsBeats_33 rfl ic_0 ?_
    refine hb_istore_n (q := 35) (lv' := [some (.ref 42), some (.int 0), some (.int 0), none]) hc dd_X9_readsBeats_34 rfl (Nat.le_of_ble_eq_true rfl) rfl ?_
    refine hb_aload_n (q := 36) hc dd_X9_readsBeats_35 rfl rfl ?_
    refine hb_getI (q := 39) (v := M.1 42 18) hc fl_X9_122 sh42 sl42 rfl rfl dd_X9_readsBeats_36 rfl ?_
    refine hb_istore_n (q := 40) (lv' := [some (.ref 42), some (.int 0), some (.int 0), some (.int (M.1 42 18))]) hc dd_X9_readsBeats_39 rfl (Nat.le_of_ble_eq_true rfl) rfl ?_
    exact hb_weak (lvs (lvs (lvs (lvs lvz)))) (h p l e s m args below meth c G hc)
  · replace h := h.2 z
    refine hb_aload_n (q := 12) hc dd_X9_readsBeats_11 rfl rfl ?_
    refine hb_getI (q := 15) (v := M.1 42 19) hc fl_X9_119 sh42 sl42 rfl rfl dd_X9_readsBeats_12 rfl ?_
    refine hb_aload_n (q := 16) hc dd_X9_readsBeats_15 rfl rfl ?_
    refine hb_getI (q := 19) (v := M.1 42 18) hc fl_X9_122 sh42 sl42 rfl rfl dd_X9_readsBeats_16 rfl ?_
    refine hb_isub (q := 20) hc dd_X9_readsBeats_19 rfl ?_
    refine hb_aload_n (q := 21) hc dd_X9_readsBeats_20 rfl rfl ?_
    refine hb_getI (q := 24) (v := M.1 42 20) hc fl_X9_135 sh42 sl42 rfl rfl dd_X9_readsBeats_21 rfl ?_
    refine hb_icmp_ne (q := 27) (tg := 31) hc dd_X9_readsBeats_24 rfl (by decide) (fun z => ?_) (fun z => ?_)
    · replace h := h.1 z
      refine hb_iconst (q := 32) (v := 0) hc dd_X9_readsBeats_31 rfl ic_0 ?_
      refine hb_istore_n (q := 33) (lv' := [some (.ref 42), some (.int 0), none, none]) hc dd_X9_readsBeats_32 rfl (Nat.le_of_ble_eq_true rfl) rfl ?_
      refine hb_iconst (q := 34) (v := 0) hc dd_X9_readsBeats_33 rfl ic_0 ?_
      refine hb_istore_n (q := 35) (lv' := [some (.ref 42), some (.int 0), some (.int 0), none]) hc dd_X9_readsBeats_34 rfl (Nat.le_of_ble_eq_true rfl) rfl ?_
      refine hb_aload_n (q := 36) hc dd_X9_readsBeats_35 rfl rfl ?_
      refine hb_getI (q := 39) (v := M.1 42 18) hc fl_X9_122 sh42 sl42 rfl rfl dd_X9_readsBeats_36 rfl ?_
      refine hb_istore_n (q := 40) (lv' := [some (.ref 42), some (.int 0), some (.int 0), some (.int (M.1 42 18))]) hc dd_X9_readsBeats_39 rfl (Nat.le_of_ble_eq_true rfl) rfl ?_
      exact hb_weak (lvs (lvs (lvs (lvs lvz)))) (h p l e s m args below meth c G hc)
    · replace h := h.2 z
      refine hb_iconst (q := 28) (v := 1) hc dd_X9_readsBeats_27 rfl ic_1 ?_
      refine hb_goto (tg := 32) hc dd_X9_readsBeats_28 (by decide) ?_
      refine hb_istore_n (q := 33) (lv' := [some (.ref 42), some (.int 1), none, none]) hc dd_X9_readsBeats_32 rfl (Nat.le_of_ble_eq_true rfl) rfl ?_
      refine hb_iconst (q := 34) (v := 0) hc dd_X9_readsBeats_33 rfl ic_0 ?_
      refine hb_istore_n (q := 35) (lv' := [some (.ref 42), some (.int 1), some (.int 0), none]) hc dd_X9_readsBeats_34 rfl (Nat.le_of_ble_eq_true rfl) rfl ?_
      refine hb_aload_n (q := 36) hc dd_X9_readsBeats_35 rfl rfl ?_
      refine hb_getI (q := 39) (v := M.1 42 18) hc fl_X9_122 sh42 sl42 rfl rfl dd_X9_readsBeats_36 rfl ?_
      refine hb_istore_n (q := 40) (lv' := [some (.ref 42), some (.int 1), some (.int 0), some (.int (M.1 42 18))]) hc dd_X9_readsBeats_39 rfl (Nat.le_of_ble_eq_true rfl) rfl ?_
      exact hb_weak (lvs (lvs (lvs (lvs lvz)))) (h p l e s m args below meth c G hc)
