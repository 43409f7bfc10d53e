/-! WALKS, by program (wip/whole/gen6.py). -/
theorem w_X9_dark {d : Nat} {M : Mm} {v1 : Int32} {K : Int32 → Mm → Prop}  (h : ACi d X9_isLight [.ref 42, .int v1] M (fun r1 M1 => (¬ r1 = 0 → (vp_in (6 + v1) 144 ∧ ((¬ (M1.1 43 ((6 + v1).toNatClampNeg)) = (-1) → (ACv d X9_become [.ref 42, .int (6 + v1), .int (-1)] M1 (fun M2 => K (M1.1 43 ((6 + v1).toNatClampNeg)) M2))) ∧ ((M1.1 43 ((6 + v1).toNatClampNeg)) = (-1) → (K (-4) M1))))) ∧ (r1 = 0 → (K (-2) M1)))) : ACi (d + 1) X9_dark [.ref 42, .int v1] M K := by
  refine AC.ofW (lv := [some (.ref 42), some (.int v1), none]) pn_X9 (Nat.le_of_ble_eq_true rfl) (show lvLe _ [some (.ref 42), some (.int v1)] from (lvs (lvs (lve lvz)))) ?_
  intro p l e s m args below meth c G hc
  refine hb_aload_n (q := 1) hc dd_X9_dark_0 rfl rfl ?_
  refine hb_iload_n (q := 2) hc dd_X9_dark_1 rfl rfl ?_
  refine hb_callVi (q := 5) (vs := [.int v1]) (st := []) hc mv_X9_224 h sh42 sl42 rfl rfl rfl (Nat.le_of_ble_eq_true rfl) ⟨Nat.le_refl _, Nat.le_refl _⟩ ⟨Nat.le_refl _, Nat.le_refl _⟩ dd_X9_dark_2 rfl (fun r1 M1 h => ?_)
  refine hb_if_ne (q := 8) (tg := 11) hc dd_X9_dark_5 rfl (by decide) (fun z => ?_) (fun z => ?_)
  · replace h := h.1 z
    refine hb_aload_n (q := 12) hc dd_X9_dark_11 rfl rfl ?_
    refine hb_getR (q := 15) hc fl_X9_7 sh42 sl42 rfl dd_X9_dark_12 rfl ?_
    refine hb_bipush (q := 17) (v := 6) hc dd_X9_dark_15 rfl bp_6 ?_
    refine hb_iload_n (q := 18) hc dd_X9_dark_17 rfl rfl ?_
    refine hb_iadd (q := 19) hc dd_X9_dark_18 rfl ?_
    obtain ⟨hi, h⟩ := h
    refine hb_iald (q := 20) (v := M1.1 43 ((6 + v1).toNatClampNeg)) hc sh43 sl43 hi rfl rfl dd_X9_dark_19 rfl ?_
    refine hb_istore_n (q := 21) (lv' := [some (.ref 42), some (.int v1), some (.int (M1.1 43 ((6 + v1).toNatClampNeg)))]) hc dd_X9_dark_20 rfl (Nat.le_of_ble_eq_true rfl) rfl ?_
    refine hb_iload_n (q := 22) hc dd_X9_dark_21 rfl rfl ?_
    refine hb_iconst (q := 23) (v := (-1)) hc dd_X9_dark_22 rfl ic_m1 ?_
    refine hb_icmp_ne (q := 26) (tg := 29) hc dd_X9_dark_23 rfl (by decide) (fun z => ?_) (fun z => ?_)
    · replace h := h.1 z
      refine hb_aload_n (q := 30) hc dd_X9_dark_29 rfl rfl ?_
      refine hb_bipush (q := 32) (v := 6) hc dd_X9_dark_30 rfl bp_6 ?_
      refine hb_iload_n (q := 33) hc dd_X9_dark_32 rfl rfl ?_
      refine hb_iadd (q := 34) hc dd_X9_dark_33 rfl ?_
      refine hb_iconst (q := 35) (v := (-1)) hc dd_X9_dark_34 rfl ic_m1 ?_
      refine hb_callVv (q := 38) (vs := [.int (6 + v1), .int (-1)]) (st := []) hc mv_X9_231 h sh42 sl42 rfl rfl rfl (Nat.le_of_ble_eq_true rfl) ⟨Nat.le_refl _, Nat.le_refl _⟩ ⟨Nat.le_refl _, Nat.le_refl _⟩ dd_X9_dark_35 rfl (fun M2 h => ?_)
      refine hb_iload_n (q := 39) hc dd_X9_dark_38 rfl rfl ?_
      exact hb_iret hc rfl dd_X9_dark_39 h
    · replace h := h.2 z
      refine hb_bipush (q := 28) (v := (-4)) hc dd_X9_dark_26 rfl bp_m4 ?_
      exact hb_iret hc rfl dd_X9_dark_28 h
  · replace h := h.2 z
    refine hb_bipush (q := 10) (v := (-2)) hc dd_X9_dark_8 rfl bp_m2 ?_
    exact hb_iret hc rfl dd_X9_dark_10 h
theorem w_X9_move {d : Nat} {M : Mm} {v1 : Int32} {v2 : Int32} {K : Int32 → Mm → Prop}  (h : ACi d X9_isLight [.ref 42, .int v1] M (fun r1 M1 => (¬ r1 = 0 → (ACi d X9_in [.long v2.toInt64, .long 0, .long 99] M1 (fun r2 M2 => (¬ r2 = 0 → (vp_in (0 + v1) 144 ∧ ((¬ (M2.1 43 ((0 + v1).toNatClampNeg)) = v2 → (ACv d X9_become [.ref 42, .int (0 + v1), .int v2] M2 (fun M3 => K (M2.1 43 ((0 + v1).toNatClampNeg)) M3))) ∧ ((M2.1 43 ((0 + v1).toNatClampNeg)) = v2 → (K (-4) M2))))) ∧ (r2 = 0 → (K (-3) M2))))) ∧ (r1 = 0 → (K (-2) M1)))) : ACi (d + 1) X9_move [.ref 42, .int v1, .int v2] M K := by
  refine AC.ofW (lv := [some (.ref 42), some (.int v1), some (.int v2), none]) pn_X9 (Nat.le_of_ble_eq_true rfl) (show lvLe _ [some (.ref 42), some (.int v1), some (.int v2)] from (lvs (lvs (lvs (lve lvz))))) ?_
  intro p l e s m args below meth c G hc
  refine hb_aload_n (q := 1) hc dd_X9_move_0 rfl rfl ?_
  refine hb_iload_n (q := 2) hc dd_X9_move_1 rfl rfl ?_
  refine hb_callVi (q := 5) (vs := [.int v1]) (st := []) hc mv_X9_224 h sh42 sl42 rfl rfl rfl (Nat.le_of_ble_eq_true rfl) ⟨Nat.le_refl _, Nat.le_refl _⟩ ⟨Nat.le_refl _, Nat.le_refl _⟩ dd_X9_move_2 rfl (fun r1 M1 h => ?_)
  refine hb_if_ne (q := 8) (tg := 11) hc dd_X9_move_5 rfl (by decide) (fun z => ?_) (fun z => ?_)
  · replace h := h.1 z
    refine hb_iload_n (q := 12) hc dd_X9_move_11 rfl rfl ?_
    refine hb_i2l (q := 13) hc dd_X9_move_12 rfl ?_
    refine hb_lconst (q := 14) (v := 0) hc dd_X9_move_13 rfl lc_0 ?_
    refine hb_ldc2 (q := 17) (v := 99) hc dd_X9_move_14 rfl iw_1135 ?_
    refine hb_callSi (q := 20) (vs := [.long v2.toInt64, .long 0, .long 99]) (st := []) hc mv_X9_104 h rfl rfl (Nat.le_of_ble_eq_true rfl) ⟨Nat.le_refl _, Nat.le_refl _⟩ ⟨Nat.le_refl _, Nat.le_refl _⟩ dd_X9_move_17 rfl (fun r2 M2 h => ?_)
    refine hb_if_ne (q := 23) (tg := 26) hc dd_X9_move_20 rfl (by decide) (fun z => ?_) (fun z => ?_)
    · replace h := h.1 z
      refine hb_aload_n (q := 27) hc dd_X9_move_26 rfl rfl ?_
      refine hb_getR (q := 30) hc fl_X9_7 sh42 sl42 rfl dd_X9_move_27 rfl ?_
      refine hb_iconst (q := 31) (v := 0) hc dd_X9_move_30 rfl ic_0 ?_
      refine hb_iload_n (q := 32) hc dd_X9_move_31 rfl rfl ?_
      refine hb_iadd (q := 33) hc dd_X9_move_32 rfl ?_
      obtain ⟨hi, h⟩ := h
      refine hb_iald (q := 34) (v := M2.1 43 ((0 + v1).toNatClampNeg)) hc sh43 sl43 hi rfl rfl dd_X9_move_33 rfl ?_
      refine hb_istore_n (q := 35) (lv' := [some (.ref 42), some (.int v1), some (.int v2), some (.int (M2.1 43 ((0 + v1).toNatClampNeg)))]) hc dd_X9_move_34 rfl (Nat.le_of_ble_eq_true rfl) rfl ?_
      refine hb_iload_n (q := 36) hc dd_X9_move_35 rfl rfl ?_
      refine hb_iload_n (q := 37) hc dd_X9_move_36 rfl rfl ?_
      refine hb_icmp_ne (q := 40) (tg := 43) hc dd_X9_move_37 rfl (by decide) (fun z => ?_) (fun z => ?_)
      · replace h := h.1 z
        refine hb_aload_n (q := 44) hc dd_X9_move_43 rfl rfl ?_
        refine hb_iconst (q := 45) (v := 0) hc dd_X9_move_44 rfl ic_0 ?_
        refine hb_iload_n (q := 46) hc dd_X9_move_45 rfl rfl ?_
        refine hb_iadd (q := 47) hc dd_X9_move_46 rfl ?_
        refine hb_iload_n (q := 48) hc dd_X9_move_47 rfl rfl ?_
        refine hb_callVv (q := 51) (vs := [.int (0 + v1), .int v2]) (st := []) hc mv_X9_231 h sh42 sl42 rfl rfl rfl (Nat.le_of_ble_eq_true rfl) ⟨Nat.le_refl _, Nat.le_refl _⟩ ⟨Nat.le_refl _, Nat.le_refl _⟩ dd_X9_move_48 rfl (fun M3 h => ?_)
        refine hb_iload_n (q := 52) hc dd_X9_move_51 rfl rfl ?_
        exact hb_iret hc rfl dd_X9_move_52 h
      · replace h := h.2 z
        refine hb_bipush (q := 42) (v := (-4)) hc dd_X9_move_40 rfl bp_m4 ?_
        exact hb_iret hc rfl dd_X9_move_42 h
    · replace h := h.2 z
      refine hb_bipush (q := 25) (v := (-3)) hc dd_X9_move_23 rfl bp_m3 ?_
      exact hb_iret hc rfl dd_X9_move_25 h
  · replace h := h.2 z
    refine hb_bipush (q := 10) (v := (-2)) hc dd_X9_move_8 rfl bp_m2 ?_
    exact hb_iret hc rfl dd_X9_move_10 h
theorem w_X9_undo {d : Nat} {M : Mm}  {K : Int32 → Mm → Prop}  (h : (¬ (M.1 42 7) = 0 → (ACv d X9_copyRow [.ref 42, .int (12 + (12 * ((M.1 42 7) - 1))), .int 0] (wI M 42 7 ((M.1 42 7) - 1)) (fun M1 => K (M1.1 42 7) (wI M1 42 11 0)))) ∧ ((M.1 42 7) = 0 → (K (-4) M))) : ACi (d + 1) X9_undo [.ref 42] M K := by
  refine AC.ofW (lv := [some (.ref 42)]) pn_X9 (Nat.le_of_ble_eq_true rfl) (show lvLe _ [some (.ref 42)] from (lvs lvz)) ?_
  intro p l e s m args below meth c G hc
  refine hb_aload_n (q := 1) hc dd_X9_undo_0 rfl rfl ?_
  refine hb_getI (q := 4) (v := M.1 42 7) hc fl_X9_180 sh42 sl42 rfl rfl dd_X9_undo_1 rfl ?_
  refine hb_if_ne (q := 7) (tg := 10) hc dd_X9_undo_4 rfl (by decide) (fun z => ?_) (fun z => ?_)
  · replace h := h.1 z
    refine hb_aload_n (q := 11) hc dd_X9_undo_10 rfl rfl ?_
    refine hb_dup (q := 12) hc dd_X9_undo_11 rfl rfl ?_
    refine hb_getI (q := 15) (v := M.1 42 7) hc fl_X9_180 sh42 sl42 rfl rfl dd_X9_undo_12 rfl ?_
    refine hb_iconst (q := 16) (v := 1) hc dd_X9_undo_15 rfl ic_1 ?_
    refine hb_isub (q := 17) hc dd_X9_undo_16 rfl ?_
    refine hb_putI (q := 20) hc fl_X9_180 sh42 sl42 rfl dd_X9_undo_17 rfl ?_
    refine hb_aload_n (q := 21) hc dd_X9_undo_20 rfl rfl ?_
    refine hb_bipush (q := 23) (v := 12) hc dd_X9_undo_21 rfl bp_12 ?_
    refine hb_bipush (q := 25) (v := 12) hc dd_X9_undo_23 rfl bp_12 ?_
    refine hb_aload_n (q := 26) hc dd_X9_undo_25 rfl rfl ?_
    refine hb_getI (q := 29) (v := (M.1 42 7) - 1) hc fl_X9_180 sh42 sl42 rfl rfl dd_X9_undo_26 rfl ?_
    refine hb_imul (q := 30) hc dd_X9_undo_29 rfl ?_
    refine hb_iadd (q := 31) hc dd_X9_undo_30 rfl ?_
    refine hb_iconst (q := 32) (v := 0) hc dd_X9_undo_31 rfl ic_0 ?_
    refine hb_callVv (q := 35) (vs := [.int (12 + (12 * ((M.1 42 7) - 1))), .int 0]) (st := []) hc mv_X9_82 h sh42 sl42 rfl rfl rfl (Nat.le_of_ble_eq_true rfl) ⟨Nat.le_refl _, Nat.le_refl _⟩ ⟨Nat.le_refl _, Nat.le_refl _⟩ dd_X9_undo_32 rfl (fun M1 h => ?_)
    refine hb_aload_n (q := 36) hc dd_X9_undo_35 rfl rfl ?_
    refine hb_iconst (q := 37) (v := 0) hc dd_X9_undo_36 rfl ic_0 ?_
    refine hb_putZ (q := 40) hc fl_X9_183 sh42 sl42 rfl (by decide) dd_X9_undo_37 rfl ?_
    refine hb_aload_n (q := 41) hc dd_X9_undo_40 rfl rfl ?_
    refine hb_getI (q := 44) (v := M1.1 42 7) hc fl_X9_180 sh42 sl42 rfl rfl dd_X9_undo_41 rfl ?_
    exact hb_iret hc rfl dd_X9_undo_44 h
  · replace h := h.2 z
    refine hb_bipush (q := 9) (v := (-4)) hc dd_X9_undo_7 rfl bp_m4 ?_
    exact hb_iret hc rfl dd_X9_undo_9 h
def lp_X9_litOnes_4 (d : Nat) (M : Mm) (v1 : Int32) (v2 : Int32) (K : Int32 → Mm → Prop) : Prop := AW (d + 1) X9_litOnes M 4 [some (.ref 42), some (.int v1), some (.int v2)] [] (QI K)
theorem z_X9_litOnes_4 {d : Nat} {M : Mm} {v1 : Int32} {v2 : Int32} {K : Int32 → Mm → Prop}  (h : ((M.1 42 5) ≤ v2 → (K v1 M)) ∧ (¬ (M.1 42 5) ≤ v2 → (vp_in (6 + v2) 144 ∧ ((¬ (M.1 43 ((6 + v2).toNatClampNeg)) = (-1) → (lp_X9_litOnes_4 d M (v1 ||| (1 <<< (v2 &&& 31))) (v2 + 1) K)) ∧ ((M.1 43 ((6 + v2).toNatClampNeg)) = (-1) → (lp_X9_litOnes_4 d M (v1 ||| 0) (v2 + 1) K)))))) : lp_X9_litOnes_4 d M v1 v2 K := by
  intro p l e s m args below meth c G hc
  refine hb_iload_n (q := 5) hc dd_X9_litOnes_4 rfl rfl ?_
  refine hb_aload_n (q := 6) hc dd_X9_litOnes_5 rfl rfl ?_
  refine hb_getI (q := 9) (v := M.1 42 5) hc fl_X9_99 sh42 sl42 rfl rfl dd_X9_litOnes_6 rfl ?_
  refine hb_icmp_ge (q := 12) (tg := 41) hc dd_X9_litOnes_9 rfl (by decide) (fun z => ?_) (fun z => ?_)
  · replace h := h.1 z
    refine hb_iload_n (q := 42) hc dd_X9_litOnes_41 rfl rfl ?_
    exact hb_iret hc rfl dd_X9_litOnes_42 h
  · replace h := h.2 z
    refine hb_iload_n (q := 13) hc dd_X9_litOnes_12 rfl rfl ?_
    refine hb_aload_n (q := 14) hc dd_X9_litOnes_13 rfl rfl ?_
    refine hb_getR (q := 17) hc fl_X9_7 sh42 sl42 rfl dd_X9_litOnes_14 rfl ?_
    refine hb_bipush (q := 19) (v := 6) hc dd_X9_litOnes_17 rfl bp_6 ?_
    refine hb_iload_n (q := 20) hc dd_X9_litOnes_19 rfl rfl ?_
    refine hb_iadd (q := 21) hc dd_X9_litOnes_20 rfl ?_
    obtain ⟨hi, h⟩ := h
    refine hb_iald (q := 22) (v := M.1 43 ((6 + v2).toNatClampNeg)) hc sh43 sl43 hi rfl rfl dd_X9_litOnes_21 rfl ?_
    refine hb_iconst (q := 23) (v := (-1)) hc dd_X9_litOnes_22 rfl ic_m1 ?_
    refine hb_icmp_ne (q := 26) (tg := 30) hc dd_X9_litOnes_23 rfl (by decide) (fun z => ?_) (fun z => ?_)
    · replace h := h.1 z
      refine hb_iconst (q := 31) (v := 1) hc dd_X9_litOnes_30 rfl ic_1 ?_
      refine hb_iload_n (q := 32) hc dd_X9_litOnes_31 rfl rfl ?_
      refine hb_ishl (q := 33) hc dd_X9_litOnes_32 rfl ?_
      refine hb_ior (q := 34) hc dd_X9_litOnes_33 rfl ?_
      refine hb_istore_n (q := 35) (lv' := [some (.ref 42), some (.int (v1 ||| (1 <<< (v2 &&& 31)))), some (.int v2)]) hc dd_X9_litOnes_34 rfl (Nat.le_of_ble_eq_true rfl) rfl ?_
      refine hb_iinc (q := 38) (v := v2 + 1) (lv' := [some (.ref 42), some (.int (v1 ||| (1 <<< (v2 &&& 31)))), some (.int (v2 + 1))]) hc dd_X9_litOnes_35 rfl rfl rfl (Nat.le_of_ble_eq_true rfl) rfl ?_
      refine hb_goto (tg := 4) hc dd_X9_litOnes_38 (by decide) ?_
      exact hb_weak (lvs (lvs (lvs lvz))) (h p l e s m args below meth c G hc)
    · replace h := h.2 z
      refine hb_iconst (q := 27) (v := 0) hc dd_X9_litOnes_26 rfl ic_0 ?_
      refine hb_goto (tg := 33) hc dd_X9_litOnes_27 (by decide) ?_
      refine hb_ior (q := 34) hc dd_X9_litOnes_33 rfl ?_
      refine hb_istore_n (q := 35) (lv' := [some (.ref 42), some (.int (v1 ||| 0)), some (.int v2)]) hc dd_X9_litOnes_34 rfl (Nat.le_of_ble_eq_true rfl) rfl ?_
      refine hb_iinc (q := 38) (v := v2 + 1) (lv' := [some (.ref 42), some (.int (v1 ||| 0)), some (.int (v2 + 1))]) hc dd_X9_litOnes_35 rfl rfl rfl (Nat.le_of_ble_eq_true rfl) rfl ?_
      refine hb_goto (tg := 4) hc dd_X9_litOnes_38 (by decide) ?_
      exact hb_weak (lvs (lvs (lvs lvz))) (h p l e s m args below meth c G hc)
theorem w_X9_litOnes {d : Nat} {M : Mm}  {K : Int32 → Mm → Prop}  (h : lp_X9_litOnes_4 d M 0 0 K) : ACi (d + 1) X9_litOnes [.ref 42] M K := by
  refine AC.ofW (lv := [some (.ref 42), none, none]) pn_X9 (Nat.le_of_ble_eq_true rfl) (show lvLe _ [some (.ref 42)] from (lvs (lve (lve lvz)))) ?_
  intro p l e s m args below meth c G hc
  refine hb_iconst (q := 1) (v := 0) hc dd_X9_litOnes_0 rfl ic_0 ?_
  refine hb_istore_n (q := 2) (lv' := [some (.ref 42), some (.int 0), none]) hc dd_X9_litOnes_1 rfl (Nat.le_of_ble_eq_true rfl) rfl ?_
  refine hb_iconst (q := 3) (v := 0) hc dd_X9_litOnes_2 rfl ic_0 ?_
  refine hb_istore_n (q := 4) (lv' := [some (.ref 42), some (.int 0), some (.int 0)]) hc dd_X9_litOnes_3 rfl (Nat.le_of_ble_eq_true rfl) rfl ?_
  exact hb_weak (lvs (lvs (lvs lvz))) (h p l e s m args below meth c G hc)
theorem w_X9_keep {d : Nat} {M : Mm} {v1 : Int32} {K : Int32 → Mm → Prop}  (h : ACi d X9_in [.long v1.toInt64, .long 0, .long 1] M (fun r1 M1 => (¬ r1 = 0 → (ACv d X9_copyRow [.ref 42, .int 0, .int (108 + (12 * v1))] M1 (fun M2 => vp_in v1 2 ∧ (ACi d X9_litOnes [.ref 42] (wI M2 45 v1.toNatClampNeg 1) (fun r3 M3 => ACi d X9_ones [.int r3] M3 (fun r4 M4 => K r4 M4)))))) ∧ (r1 = 0 → (K (-2) M1)))) : ACi (d + 1) X9_keep [.ref 42, .int v1] M K := by
  refine AC.ofW (lv := [some (.ref 42), some (.int v1)]) pn_X9 (Nat.le_of_ble_eq_true rfl) (show lvLe _ [some (.ref 42), some (.int v1)] from (lvs (lvs lvz))) ?_
  intro p l e s m args below meth c G hc
  refine hb_iload_n (q := 1) hc dd_X9_keep_0 rfl rfl ?_
  refine hb_i2l (q := 2) hc dd_X9_keep_1 rfl ?_
  refine hb_lconst (q := 3) (v := 0) hc dd_X9_keep_2 rfl lc_0 ?_
  refine hb_lconst (q := 4) (v := 1) hc dd_X9_keep_3 rfl lc_1 ?_
  refine hb_callSi (q := 7) (vs := [.long v1.toInt64, .long 0, .long 1]) (st := []) hc mv_X9_104 h rfl rfl (Nat.le_of_ble_eq_true rfl) ⟨Nat.le_refl _, Nat.le_refl _⟩ ⟨Nat.le_refl _, Nat.le_refl _⟩ dd_X9_keep_4 rfl (fun r1 M1 h => ?_)
  refine hb_if_ne (q := 10) (tg := 13) hc dd_X9_keep_7 rfl (by decide) (fun z => ?_) (fun z => ?_)
  · replace h := h.1 z
    refine hb_aload_n (q := 14) hc dd_X9_keep_13 rfl rfl ?_
    refine hb_iconst (q := 15) (v := 0) hc dd_X9_keep_14 rfl ic_0 ?_
    refine hb_bipush (q := 17) (v := 108) hc dd_X9_keep_15 rfl bp_108 ?_
    refine hb_bipush (q := 19) (v := 12) hc dd_X9_keep_17 rfl bp_12 ?_
    refine hb_iload_n (q := 20) hc dd_X9_keep_19 rfl rfl ?_
    refine hb_imul (q := 21) hc dd_X9_keep_20 rfl ?_
    refine hb_iadd (q := 22) hc dd_X9_keep_21 rfl ?_
    refine hb_callVv (q := 25) (vs := [.int 0, .int (108 + (12 * v1))]) (st := []) hc mv_X9_82 h sh42 sl42 rfl rfl rfl (Nat.le_of_ble_eq_true rfl) ⟨Nat.le_refl _, Nat.le_refl _⟩ ⟨Nat.le_refl _, Nat.le_refl _⟩ dd_X9_keep_22 rfl (fun M2 h => ?_)
    refine hb_aload_n (q := 26) hc dd_X9_keep_25 rfl rfl ?_
    refine hb_getR (q := 29) hc fl_X9_16 sh42 sl42 rfl dd_X9_keep_26 rfl ?_
    refine hb_iload_n (q := 30) hc dd_X9_keep_29 rfl rfl ?_
    refine hb_iconst (q := 31) (v := 1) hc dd_X9_keep_30 rfl ic_1 ?_
    obtain ⟨hi, h⟩ := h
    refine hb_zast (q := 32) hc sh45 sl45 hi (by decide) rfl dd_X9_keep_31 rfl ?_
    refine hb_aload_n (q := 33) hc dd_X9_keep_32 rfl rfl ?_
    refine hb_callVi (q := 36) (vs := []) (st := []) hc mv_X9_236 h sh42 sl42 rfl rfl rfl (Nat.le_of_ble_eq_true rfl) ⟨Nat.le_refl _, Nat.le_refl _⟩ ⟨Nat.le_refl _, Nat.le_refl _⟩ dd_X9_keep_33 rfl (fun r3 M3 h => ?_)
    refine hb_callSi (q := 39) (vs := [.int r3]) (st := []) hc mv_X9_190 h rfl rfl (Nat.le_of_ble_eq_true rfl) ⟨Nat.le_refl _, Nat.le_refl _⟩ ⟨Nat.le_refl _, Nat.le_refl _⟩ dd_X9_keep_36 rfl (fun r4 M4 h => ?_)
    exact hb_iret hc rfl dd_X9_keep_39 h
  · replace h := h.2 z
    refine hb_bipush (q := 12) (v := (-2)) hc dd_X9_keep_10 rfl bp_m2 ?_
    exact hb_iret hc rfl dd_X9_keep_12 h
theorem w_X9_back {d : Nat} {M : Mm} {v1 : Int32} {K : Int32 → Mm → Prop}  (h : ACi d X9_in [.long v1.toInt64, .long 0, .long 1] M (fun r1 M1 => (¬ r1 = 0 → (vp_in v1 2 ∧ ((¬ (M1.1 45 v1.toNatClampNeg) = 0 → (ACv d X9_copyRow [.ref 42, .int (108 + (12 * v1)), .int 0] M1 (fun M2 => ACi d X9_litOnes [.ref 42] (wI (wI M2 42 7 0) 42 11 0) (fun r3 M3 => ACi d X9_ones [.int r3] M3 (fun r4 M4 => K r4 M4))))) ∧ ((M1.1 45 v1.toNatClampNeg) = 0 → (K (-4) M1))))) ∧ (r1 = 0 → (K (-2) M1)))) : ACi (d + 1) X9_back [.ref 42, .int v1] M K := by
  refine AC.ofW (lv := [some (.ref 42), some (.int v1)]) pn_X9 (Nat.le_of_ble_eq_true rfl) (show lvLe _ [some (.ref 42), some (.int v1)] from (lvs (lvs lvz))) ?_
  intro p l e s m args below meth c G hc
  refine hb_iload_n (q := 1) hc dd_X9_back_0 rfl rfl ?_
  refine hb_i2l (q := 2) hc dd_X9_back_1 rfl ?_
  refine hb_lconst (q := 3) (v := 0) hc dd_X9_back_2 rfl lc_0 ?_
  refine hb_lconst (q := 4) (v := 1) hc dd_X9_back_3 rfl lc_1 ?_
  refine hb_callSi (q := 7) (vs := [.long v1.toInt64, .long 0, .long 1]) (st := []) hc mv_X9_104 h rfl rfl (Nat.le_of_ble_eq_true rfl) ⟨Nat.le_refl _, Nat.le_refl _⟩ ⟨Nat.le_refl _, Nat.le_refl _⟩ dd_X9_back_4 rfl (fun r1 M1 h => ?_)
  refine hb_if_ne (q := 10) (tg := 13) hc dd_X9_back_7 rfl (by decide) (fun z => ?_) (fun z => ?_)
  · replace h := h.1 z
    refine hb_aload_n (q := 14) hc dd_X9_back_13 rfl rfl ?_
    refine hb_getR (q := 17) hc fl_X9_16 sh42 sl42 rfl dd_X9_back_14 rfl ?_
    refine hb_iload_n (q := 18) hc dd_X9_back_17 rfl rfl ?_
    obtain ⟨hi, h⟩ := h
    refine hb_zald (q := 19) (v := M1.1 45 v1.toNatClampNeg) hc sh45 sl45 hi rfl rfl dd_X9_back_18 rfl ?_
    refine hb_if_ne (q := 22) (tg := 25) hc dd_X9_back_19 rfl (by decide) (fun z => ?_) (fun z => ?_)
    · replace h := h.1 z
      refine hb_aload_n (q := 26) hc dd_X9_back_25 rfl rfl ?_
      refine hb_bipush (q := 28) (v := 108) hc dd_X9_back_26 rfl bp_108 ?_
      refine hb_bipush (q := 30) (v := 12) hc dd_X9_back_28 rfl bp_12 ?_
      refine hb_iload_n (q := 31) hc dd_X9_back_30 rfl rfl ?_
      refine hb_imul (q := 32) hc dd_X9_back_31 rfl ?_
      refine hb_iadd (q := 33) hc dd_X9_back_32 rfl ?_
      refine hb_iconst (q := 34) (v := 0) hc dd_X9_back_33 rfl ic_0 ?_
      refine hb_callVv (q := 37) (vs := [.int (108 + (12 * v1)), .int 0]) (st := []) hc mv_X9_82 h sh42 sl42 rfl rfl rfl (Nat.le_of_ble_eq_true rfl) ⟨Nat.le_refl _, Nat.le_refl _⟩ ⟨Nat.le_refl _, Nat.le_refl _⟩ dd_X9_back_34 rfl (fun M2 h => ?_)
      refine hb_aload_n (q := 38) hc dd_X9_back_37 rfl rfl ?_
      refine hb_iconst (q := 39) (v := 0) hc dd_X9_back_38 rfl ic_0 ?_
      refine hb_putI (q := 42) hc fl_X9_180 sh42 sl42 rfl dd_X9_back_39 rfl ?_
      refine hb_aload_n (q := 43) hc dd_X9_back_42 rfl rfl ?_
      refine hb_iconst (q := 44) (v := 0) hc dd_X9_back_43 rfl ic_0 ?_
      refine hb_putZ (q := 47) hc fl_X9_183 sh42 sl42 rfl (by decide) dd_X9_back_44 rfl ?_
      refine hb_aload_n (q := 48) hc dd_X9_back_47 rfl rfl ?_
      refine hb_callVi (q := 51) (vs := []) (st := []) hc mv_X9_236 h sh42 sl42 rfl rfl rfl (Nat.le_of_ble_eq_true rfl) ⟨Nat.le_refl _, Nat.le_refl _⟩ ⟨Nat.le_refl _, Nat.le_refl _⟩ dd_X9_back_48 rfl (fun r3 M3 h => ?_)
      refine hb_callSi (q := 54) (vs := [.int r3]) (st := []) hc mv_X9_190 h rfl rfl (Nat.le_of_ble_eq_true rfl) ⟨Nat.le_refl _, Nat.le_refl _⟩ ⟨Nat.le_refl _, Nat.le_refl _⟩ dd_X9_back_51 rfl (fun r4 M4 h => ?_)
      exact hb_iret hc rfl dd_X9_back_54 h
    · replace h := h.2 z
      refine hb_bipush (q := 24) (v := (-4)) hc dd_X9_back_22 rfl bp_m4 ?_
      exact hb_iret hc rfl dd_X9_back_24 h
  · replace h := h.2 z
    refine hb_bipush (q := 12) (v := (-2)) hc dd_X9_back_10 rfl bp_m2 ?_
    exact hb_iret hc rfl dd_X9_back_12 h
def lp_X9_layBars_2 (d : Nat) (M : Mm) (v1 : Int32) (v2 : Int32) (K : Mm → Prop) : Prop := AW (d + 1) X9_layBars M 2 [some (.ref 42), some (.int v1), some (.int v2), none] [] (QV K)
def lp_X9_layBars_19 (d : Nat) (M : Mm) (v1 : Int32) (v2 : Int32) (v3 : Int32) (K : Mm → Prop) : Prop := AW (d + 1) X9_layBars M 19 [some (.ref 42), some (.int v1), some (.int v2), some (.int v3)] [] (QV K)
theorem z_X9_layBars_2 {d : Nat} {M : Mm} {v1 : Int32} {v2 : Int32} {K : Mm → Prop}  (h : ((M.1 42 4) ≤ v2 → (K M)) ∧ (¬ (M.1 42 4) ≤ v2 → (vp_in v2 8 ∧ (lp_X9_layBars_19 d (wI M 59 v2.toNatClampNeg 0) v1 v2 0 K)))) : lp_X9_layBars_2 d M v1 v2 K := by
  intro p l e s m args below meth c G hc
  refine hb_iload_n (q := 3) hc dd_X9_layBars_2 rfl rfl ?_
  refine hb_aload_n (q := 4) hc dd_X9_layBars_3 rfl rfl ?_
  refine hb_getI (q := 7) (v := M.1 42 4) hc fl_X9_96 sh42 sl42 rfl rfl dd_X9_layBars_4 rfl ?_
  refine hb_icmp_ge (q := 10) (tg := 69) hc dd_X9_layBars_7 rfl (by decide) (fun z => ?_) (fun z => ?_)
  · replace h := h.1 z
    exact hb_vret hc rfl dd_X9_layBars_69 h
  · replace h := h.2 z
    refine hb_aload_n (q := 11) hc dd_X9_layBars_10 rfl rfl ?_
    refine hb_getR (q := 14) hc fl_X9_59 sh42 sl42 rfl dd_X9_layBars_11 rfl ?_
    refine hb_iload_n (q := 15) hc dd_X9_layBars_14 rfl rfl ?_
    refine hb_iconst (q := 16) (v := 0) hc dd_X9_layBars_15 rfl ic_0 ?_
    obtain ⟨hi, h⟩ := h
    refine hb_iast (q := 17) hc sh59 sl59 hi rfl dd_X9_layBars_16 rfl ?_
    refine hb_iconst (q := 18) (v := 0) hc dd_X9_layBars_17 rfl ic_0 ?_
    refine hb_istore_n (q := 19) (lv' := [some (.ref 42), some (.int v1), some (.int v2), some (.int 0)]) hc dd_X9_layBars_18 rfl (Nat.le_of_ble_eq_true rfl) rfl ?_
    exact hb_weak (lvs (lvs (lvs (lvs lvz)))) (h p l e s m args below meth c G hc)
theorem z_X9_layBars_19 {d : Nat} {M : Mm} {v1 : Int32} {v2 : Int32} {v3 : Int32} {K : Mm → Prop}  (h : ((M.1 42 4) ≤ v3 → (lp_X9_layBars_2 d M v1 (v2 + 1) K)) ∧ (¬ (M.1 42 4) ≤ v3 → (vp_in v2 8 ∧ (ACi d X9_areLike [.ref 42, .int v2, .int v3, .int (M.1 42 2), .int v1] M (fun r1 M1 => (r1 = 0 → (vp_in v2 8 ∧ (lp_X9_layBars_19 d (wI M1 59 v2.toNatClampNeg ((M.1 59 v2.toNatClampNeg) ||| 0)) v1 v2 (v3 + 1) K))) ∧ (¬ r1 = 0 → (vp_in v2 8 ∧ (lp_X9_layBars_19 d (wI M1 59 v2.toNatClampNeg ((M.1 59 v2.toNatClampNeg) ||| (1 <<< (v3 &&& 31)))) v1 v2 (v3 + 1) K)))))))) : lp_X9_layBars_19 d M v1 v2 v3 K := by
  intro p l e s m args below meth c G hc
  refine hb_iload_n (q := 20) hc dd_X9_layBars_19 rfl rfl ?_
  refine hb_aload_n (q := 21) hc dd_X9_layBars_20 rfl rfl ?_
  refine hb_getI (q := 24) (v := M.1 42 4) hc fl_X9_96 sh42 sl42 rfl rfl dd_X9_layBars_21 rfl ?_
  refine hb_icmp_ge (q := 27) (tg := 63) hc dd_X9_layBars_24 rfl (by decide) (fun z => ?_) (fun z => ?_)
  · replace h := h.1 z
    refine hb_iinc (q := 66) (v := v2 + 1) (lv' := [some (.ref 42), some (.int v1), some (.int (v2 + 1)), some (.int v3)]) hc dd_X9_layBars_63 rfl rfl rfl (Nat.le_of_ble_eq_true rfl) rfl ?_
    refine hb_goto (tg := 2) hc dd_X9_layBars_66 (by decide) ?_
    exact hb_weak (lvs (lvs (lvs (lvn lvz)))) (h p l e s m args below meth c G hc)
  · replace h := h.2 z
    refine hb_aload_n (q := 28) hc dd_X9_layBars_27 rfl rfl ?_
    refine hb_getR (q := 31) hc fl_X9_59 sh42 sl42 rfl dd_X9_layBars_28 rfl ?_
    refine hb_iload_n (q := 32) hc dd_X9_layBars_31 rfl rfl ?_
    refine hb_dup2 (q := 33) hc dd_X9_layBars_32 rfl rfl rfl ?_
    obtain ⟨hi, h⟩ := h
    refine hb_iald (q := 34) (v := M.1 59 v2.toNatClampNeg) hc sh59 sl59 hi rfl rfl dd_X9_layBars_33 rfl ?_
    refine hb_aload_n (q := 35) hc dd_X9_layBars_34 rfl rfl ?_
    refine hb_iload_n (q := 36) hc dd_X9_layBars_35 rfl rfl ?_
    refine hb_iload_n (q := 37) hc dd_X9_layBars_36 rfl rfl ?_
    refine hb_aload_n (q := 38) hc dd_X9_layBars_37 rfl rfl ?_
    refine hb_getI (q := 41) (v := M.1 42 2) hc fl_X9_90 sh42 sl42 rfl rfl dd_X9_layBars_38 rfl ?_
    refine hb_iload_n (q := 42) hc dd_X9_layBars_41 rfl rfl ?_
    refine hb_callVi (q := 45) (vs := [.int v2, .int v3, .int (M.1 42 2), .int v1]) (st := [.int (M.1 59 v2.toNatClampNeg), .int v2, .ref 59]) hc mv_X9_214 h sh42 sl42 rfl rfl rfl (Nat.le_of_ble_eq_true rfl) ⟨Nat.le_refl _, Nat.le_refl _⟩ ⟨Nat.le_refl _, Nat.le_refl _⟩ dd_X9_layBars_42 rfl (fun r1 M1 h => ?_)
    refine hb_if_eq (q := 48) (tg := 54) hc dd_X9_layBars_45 rfl (by decide) (fun z => ?_) (fun z => ?_)
    · replace h := h.1 z
      refine hb_iconst (q := 55) (v := 0) hc dd_X9_layBars_54 rfl ic_0 ?_
      refine hb_ior (q := 56) hc dd_X9_layBars_55 rfl ?_
      obtain ⟨hi, h⟩ := h
      refine hb_iast (q := 57) hc sh59 sl59 hi rfl dd_X9_layBars_56 rfl ?_
      refine hb_iinc (q := 60) (v := v3 + 1) (lv' := [some (.ref 42), some (.int v1), some (.int v2), some (.int (v3 + 1))]) hc dd_X9_layBars_57 rfl rfl rfl (Nat.le_of_ble_eq_true rfl) rfl ?_
      refine hb_goto (tg := 19) hc dd_X9_layBars_60 (by decide) ?_
      exact hb_weak (lvs (lvs (lvs (lvs lvz)))) (h p l e s m args below meth c G hc)
    · replace h := h.2 z
      refine hb_iconst (q := 49) (v := 1) hc dd_X9_layBars_48 rfl ic_1 ?_
      refine hb_iload_n (q := 50) hc dd_X9_layBars_49 rfl rfl ?_
      refine hb_ishl (q := 51) hc dd_X9_layBars_50 rfl ?_
      refine hb_goto (tg := 55) hc dd_X9_layBars_51 (by decide) ?_
      refine hb_ior (q := 56) hc dd_X9_layBars_55 rfl ?_
      obtain ⟨hi, h⟩ := h
      refine hb_iast (q := 57) hc sh59 sl59 hi rfl dd_X9_layBars_56 rfl ?_
      refine hb_iinc (q := 60) (v := v3 + 1) (lv' := [some (.ref 42), some (.int v1), some (.int v2), some (.int (v3 + 1))]) hc dd_X9_layBars_57 rfl rfl rfl (Nat.le_of_ble_eq_true rfl) rfl ?_
      refine hb_goto (tg := 19) hc dd_X9_layBars_60 (by decide) ?_
      exact hb_weak (lvs (lvs (lvs (lvs lvz)))) (h p l e s m args below meth c G hc)
theorem w_X9_layBars {d : Nat} {M : Mm} {v1 : Int32} {K : Mm → Prop}  (h : lp_X9_layBars_2 d M v1 0 K) : ACv (d + 1) X9_layBars [.ref 42, .int v1] M K := by
  refine AC.ofW (lv := [some (.ref 42), some (.int v1), none, none]) pn_X9 (Nat.le_of_ble_eq_true rfl) (show lvLe _ [some (.ref 42), some (.int v1)] from (lvs (lvs (lve (lve lvz))))) ?_
  intro p l e s m args below meth c G hc
  refine hb_iconst (q := 1) (v := 0) hc dd_X9_layBars_0 rfl ic_0 ?_
  refine hb_istore_n (q := 2) (lv' := [some (.ref 42), some (.int v1), some (.int 0), none]) hc dd_X9_layBars_1 rfl (Nat.le_of_ble_eq_true rfl) rfl ?_
  exact hb_weak (lvs (lvs (lvs (lvn lvz)))) (h p l e s m args below meth c G hc)
def lp_X9_isPlan_2 (d : Nat) (M : Mm) (v1 : Int32) (K : Int32 → Mm → Prop) : Prop := AW (d + 1) X9_isPlan M 2 [some (.ref 42), some (.int v1), none] [] (QI K)
def lp_X9_isPlan_12 (d : Nat) (M : Mm) (v1 : Int32) (v2 : Int32) (K : Int32 → Mm → Prop) : Prop := AW (d + 1) X9_isPlan M 12 [some (.ref 42), some (.int v1), some (.int v2)] [] (QI K)
theorem z_X9_isPlan_2 {d : Nat} {M : Mm} {v1 : Int32} {K : Int32 → Mm → Prop}  (h : ((M.1 42 5) ≤ v1 → (K 1 M)) ∧ (¬ (M.1 42 5) ≤ v1 → (lp_X9_isPlan_12 d M v1 0 K))) : lp_X9_isPlan_2 d M v1 K := by
  intro p l e s m args below meth c G hc
  refine hb_iload_n (q := 3) hc dd_X9_isPlan_2 rfl rfl ?_
  refine hb_aload_n (q := 4) hc dd_X9_isPlan_3 rfl rfl ?_
  refine hb_getI (q := 7) (v := M.1 42 5) hc fl_X9_99 sh42 sl42 rfl rfl dd_X9_isPlan_4 rfl ?_
  refine hb_icmp_ge (q := 10) (tg := 63) hc dd_X9_isPlan_7 rfl (by decide) (fun z => ?_) (fun z => ?_)
  · replace h := h.1 z
    refine hb_iconst (q := 64) (v := 1) hc dd_X9_isPlan_63 rfl ic_1 ?_
    exact hb_zret hc rfl (by decide) dd_X9_isPlan_64 h
  · replace h := h.2 z
    refine hb_iconst (q := 11) (v := 0) hc dd_X9_isPlan_10 rfl ic_0 ?_
    refine hb_istore_n (q := 12) (lv' := [some (.ref 42), some (.int v1), some (.int 0)]) hc dd_X9_isPlan_11 rfl (Nat.le_of_ble_eq_true rfl) rfl ?_
    exact hb_weak (lvs (lvs (lvs lvz))) (h p l e s m args below meth c G hc)
theorem z_X9_isPlan_12 {d : Nat} {M : Mm} {v1 : Int32} {v2 : Int32} {K : Int32 → Mm → Prop}  (h : (v1 ≤ v2 → (lp_X9_isPlan_2 d M (v1 + 1) K)) ∧ (¬ v1 ≤ v2 → (ACi d X9_areNeighbours [.ref 42, .int v1, .int v2] M (fun r1 M1 => (r1 = 0 → (lp_X9_isPlan_12 d M1 v1 (v2 + 1) K)) ∧ (¬ r1 = 0 → (vp_in v1 6 ∧ (vp_in (M1.1 60 v1.toNatClampNeg) 8 ∧ (vp_in v2 6 ∧ (ACi d X9_has [.int (M1.1 59 ((M1.1 60 v1.toNatClampNeg).toNatClampNeg)), .int (M1.1 60 v2.toNatClampNeg)] M1 (fun r2 M2 => (r2 = 0 → (lp_X9_isPlan_12 d M2 v1 (v2 + 1) K)) ∧ (¬ r2 = 0 → (K 0 M2)))))))))))) : lp_X9_isPlan_12 d M v1 v2 K := by
  intro p l e s m args below meth c G hc
  refine hb_iload_n (q := 13) hc dd_X9_isPlan_12 rfl rfl ?_
  refine hb_iload_n (q := 14) hc dd_X9_isPlan_13 rfl rfl ?_
  refine hb_icmp_ge (q := 17) (tg := 57) hc dd_X9_isPlan_14 rfl (by decide) (fun z => ?_) (fun z => ?_)
  · replace h := h.1 z
    refine hb_iinc (q := 60) (v := v1 + 1) (lv' := [some (.ref 42), some (.int (v1 + 1)), some (.int v2)]) hc dd_X9_isPlan_57 rfl rfl rfl (Nat.le_of_ble_eq_true rfl) rfl ?_
    refine hb_goto (tg := 2) hc dd_X9_isPlan_60 (by decide) ?_
    exact hb_weak (lvs (lvs (lvn lvz))) (h p l e s m args below meth c G hc)
  · replace h := h.2 z
    refine hb_aload_n (q := 18) hc dd_X9_isPlan_17 rfl rfl ?_
    refine hb_iload_n (q := 19) hc dd_X9_isPlan_18 rfl rfl ?_
    refine hb_iload_n (q := 20) hc dd_X9_isPlan_19 rfl rfl ?_
    refine hb_callVi (q := 23) (vs := [.int v1, .int v2]) (st := []) hc mv_X9_218 h sh42 sl42 rfl rfl rfl (Nat.le_of_ble_eq_true rfl) ⟨Nat.le_refl _, Nat.le_refl _⟩ ⟨Nat.le_refl _, Nat.le_refl _⟩ dd_X9_isPlan_20 rfl (fun r1 M1 h => ?_)
    refine hb_if_eq (q := 26) (tg := 51) hc dd_X9_isPlan_23 rfl (by decide) (fun z => ?_) (fun z => ?_)
    · replace h := h.1 z
      refine hb_iinc (q := 54) (v := v2 + 1) (lv' := [some (.ref 42), some (.int v1), some (.int (v2 + 1))]) hc dd_X9_isPlan_51 rfl rfl rfl (Nat.le_of_ble_eq_true rfl) rfl ?_
      refine hb_goto (tg := 12) hc dd_X9_isPlan_54 (by decide) ?_
      exact hb_weak (lvs (lvs (lvs lvz))) (h p l e s m args below meth c G hc)
    · replace h := h.2 z
      refine hb_aload_n (q := 27) hc dd_X9_isPlan_26 rfl rfl ?_
      refine hb_getR (q := 30) hc fl_X9_59 sh42 sl42 rfl dd_X9_isPlan_27 rfl ?_
      refine hb_aload_n (q := 31) hc dd_X9_isPlan_30 rfl rfl ?_
      refine hb_getR (q := 34) hc fl_X9_62 sh42 sl42 rfl dd_X9_isPlan_31 rfl ?_
      refine hb_iload_n (q := 35) hc dd_X9_isPlan_34 rfl rfl ?_
      obtain ⟨hi, h⟩ := h
      refine hb_iald (q := 36) (v := M1.1 60 v1.toNatClampNeg) hc sh60 sl60 hi rfl rfl dd_X9_isPlan_35 rfl ?_
      obtain ⟨hi, h⟩ := h
      refine hb_iald (q := 37) (v := M1.1 59 ((M1.1 60 v1.toNatClampNeg).toNatClampNeg)) hc sh59 sl59 hi rfl rfl dd_X9_isPlan_36 rfl ?_
      refine hb_aload_n (q := 38) hc dd_X9_isPlan_37 rfl rfl ?_
      refine hb_getR (q := 41) hc fl_X9_62 sh42 sl42 rfl dd_X9_isPlan_38 rfl ?_
      refine hb_iload_n (q := 42) hc dd_X9_isPlan_41 rfl rfl ?_
      obtain ⟨hi, h⟩ := h
      refine hb_iald (q := 43) (v := M1.1 60 v2.toNatClampNeg) hc sh60 sl60 hi rfl rfl dd_X9_isPlan_42 rfl ?_
      refine hb_callSi (q := 46) (vs := [.int (M1.1 59 ((M1.1 60 v1.toNatClampNeg).toNatClampNeg)), .int (M1.1 60 v2.toNatClampNeg)]) (st := []) hc mv_X9_239 h rfl rfl (Nat.le_of_ble_eq_true rfl) ⟨Nat.le_refl _, Nat.le_refl _⟩ ⟨Nat.le_refl _, Nat.le_refl _⟩ dd_X9_isPlan_43 rfl (fun r2 M2 h => ?_)
      refine hb_if_eq (q := 49) (tg := 51) hc dd_X9_isPlan_46 rfl (by decide) (fun z => ?_) (fun z => ?_)
      · replace h := h.1 z
        refine hb_iinc (q := 54) (v := v2 + 1) (lv' := [some (.ref 42), some (.int v1), some (.int (v2 + 1))]) hc dd_X9_isPlan_51 rfl rfl rfl (Nat.le_of_ble_eq_true rfl) rfl ?_
        refine hb_goto (tg := 12) hc dd_X9_isPlan_54 (by decide) ?_
        exact hb_weak (lvs (lvs (lvs lvz))) (h p l e s m args below meth c G hc)
      · replace h := h.2 z
        refine hb_iconst (q := 50) (v := 0) hc dd_X9_isPlan_49 rfl ic_0 ?_
        exact hb_zret hc rfl (by decide) dd_X9_isPlan_50 h
theorem w_X9_isPlan {d : Nat} {M : Mm}  {K : Int32 → Mm → Prop}  (h : lp_X9_isPlan_2 d M 0 K) : ACi (d + 1) X9_isPlan [.ref 42] M K := by
  refine AC.ofW (lv := [some (.ref 42), none, none]) pn_X9 (Nat.le_of_ble_eq_true rfl) (show lvLe _ [some (.ref 42)] from (lvs (lve (lve lvz)))) ?_
  intro p l e s m args below meth c G hc
  refine hb_iconst (q := 1) (v := 0) hc dd_X9_isPlan_0 rfl ic_0 ?_
  refine hb_istore_n (q := 2) (lv' := [some (.ref 42), some (.int 0), none]) hc dd_X9_isPlan_1 rfl (Nat.le_of_ble_eq_true rfl) rfl ?_
  exact hb_weak (lvs (lvs (lvn lvz))) (h p l e s m args below meth c G hc)
def lp_X9_layPlan_9 (d : Nat) (M : Mm) (v2 : Int32) (v3 : Int32) (K : Int32 → Mm → Prop) : Prop := AW (d + 1) X9_layPlan M 9 [some (.ref 42), none, some (.int v2), some (.int v3), none, none, none, none, none] [] (QI K)
def lp_X9_layPlan_35 (d : Nat) (M : Mm) (v2 : Int32) (v3 : Int32) (v4 : Int32) (K : Int32 → Mm → Prop) : Prop := AW (d + 1) X9_layPlan M 35 [some (.ref 42), none, some (.int v2), some (.int v3), some (.int v4), none, none, none, none] [] (QI K)
def lp_X9_layPlan_56 (d : Nat) (M : Mm) (v2 : Int32) (v3 : Int32) (v4 : Int32) (v5 : Int32) (v6 : Int32) (v7 : Int32) (K : Int32 → Mm → Prop) : Prop := AW (d + 1) X9_layPlan M 56 [some (.ref 42), none, some (.int v2), some (.int v3), some (.int v4), some (.int v5), some (.int v6), some (.int v7), none] [] (QI K)
def lp_X9_layPlan_135 (d : Nat) (M : Mm) (v2 : Int32) (v3 : Int32) (v4 : Int32) (v8 : Int32) (K : Int32 → Mm → Prop) : Prop := AW (d + 1) X9_layPlan M 135 [some (.ref 42), none, some (.int v2), some (.int v3), some (.int v4), none, none, none, some (.int v8)] [] (QI K)
theorem z_X9_layPlan_9 {d : Nat} {M : Mm} {v2 : Int32} {v3 : Int32} {K : Int32 → Mm → Prop}  (h : ((M.1 42 5) ≤ v3 → (lp_X9_layPlan_35 d M v2 (-1) 0 K)) ∧ (¬ (M.1 42 5) ≤ v3 → (lp_X9_layPlan_9 d M (v2 * (M.1 42 4)) (v3 + 1) K))) : lp_X9_layPlan_9 d M v2 v3 K := by
  intro p l e s m args below meth c G hc
  refine hb_iload_n (q := 10) hc dd_X9_layPlan_9 rfl rfl ?_
  refine hb_aload_n (q := 11) hc dd_X9_layPlan_10 rfl rfl ?_
  refine hb_getI (q := 14) (v := M.1 42 5) hc fl_X9_99 sh42 sl42 rfl rfl dd_X9_layPlan_11 rfl ?_
  refine hb_icmp_ge (q := 17) (tg := 30) hc dd_X9_layPlan_14 rfl (by decide) (fun z => ?_) (fun z => ?_)
  · replace h := h.1 z
    refine hb_iconst (q := 31) (v := (-1)) hc dd_X9_layPlan_30 rfl ic_m1 ?_
    refine hb_istore_n (q := 32) (lv' := [some (.ref 42), none, some (.int v2), some (.int (-1)), none, none, none, none, none]) hc dd_X9_layPlan_31 rfl (Nat.le_of_ble_eq_true rfl) rfl ?_
    refine hb_iconst (q := 33) (v := 0) hc dd_X9_layPlan_32 rfl ic_0 ?_
    refine hb_istore (q := 35) (lv' := [some (.ref 42), none, some (.int v2), some (.int (-1)), some (.int 0), none, none, none, none]) hc dd_X9_layPlan_33 rfl (Nat.le_of_ble_eq_true rfl) rfl ?_
    exact hb_weak (lvs (lvn (lvs (lvs (lvs (lvn (lvn (lvn (lvn lvz))))))))) (h p l e s m args below meth c G hc)
  · replace h := h.2 z
    refine hb_iload_n (q := 18) hc dd_X9_layPlan_17 rfl rfl ?_
    refine hb_aload_n (q := 19) hc dd_X9_layPlan_18 rfl rfl ?_
    refine hb_getI (q := 22) (v := M.1 42 4) hc fl_X9_96 sh42 sl42 rfl rfl dd_X9_layPlan_19 rfl ?_
    refine hb_imul (q := 23) hc dd_X9_layPlan_22 rfl ?_
    refine hb_istore_n (q := 24) (lv' := [some (.ref 42), none, some (.int (v2 * (M.1 42 4))), some (.int v3), none, none, none, none, none]) hc dd_X9_layPlan_23 rfl (Nat.le_of_ble_eq_true rfl) rfl ?_
    refine hb_iinc (q := 27) (v := v3 + 1) (lv' := [some (.ref 42), none, some (.int (v2 * (M.1 42 4))), some (.int (v3 + 1)), none, none, none, none, none]) hc dd_X9_layPlan_24 rfl rfl rfl (Nat.le_of_ble_eq_true rfl) rfl ?_
    refine hb_goto (tg := 9) hc dd_X9_layPlan_27 (by decide) ?_
    exact hb_weak (lvs (lvn (lvs (lvs (lvn (lvn (lvn (lvn (lvn lvz))))))))) (h p l e s m args below meth c G hc)
theorem z_X9_layPlan_35 {d : Nat} {M : Mm} {v2 : Int32} {v3 : Int32} {v4 : Int32} {K : Int32 → Mm → Prop}  (h : (v2 ≤ v4 → (K v3 M)) ∧ (¬ v2 ≤ v4 → (lp_X9_layPlan_56 d M v2 v3 v4 v4 0 ((M.1 42 5) - 1) K))) : lp_X9_layPlan_35 d M v2 v3 v4 K := by
  intro p l e s m args below meth c G hc
  refine hb_iload (q := 37) hc dd_X9_layPlan_35 rfl rfl ?_
  refine hb_iload_n (q := 38) hc dd_X9_layPlan_37 rfl rfl ?_
  refine hb_icmp_ge (q := 41) (tg := 170) hc dd_X9_layPlan_38 rfl (by decide) (fun z => ?_) (fun z => ?_)
  · replace h := h.1 z
    refine hb_iload_n (q := 171) hc dd_X9_layPlan_170 rfl rfl ?_
    exact hb_iret hc rfl dd_X9_layPlan_171 h
  · replace h := h.2 z
    refine hb_iload (q := 43) hc dd_X9_layPlan_41 rfl rfl ?_
    refine hb_istore (q := 45) (lv' := [some (.ref 42), none, some (.int v2), some (.int v3), some (.int v4), some (.int v4), none, none, none]) hc dd_X9_layPlan_43 rfl (Nat.le_of_ble_eq_true rfl) rfl ?_
    refine hb_iconst (q := 46) (v := 0) hc dd_X9_layPlan_45 rfl ic_0 ?_
    refine hb_istore (q := 48) (lv' := [some (.ref 42), none, some (.int v2), some (.int v3), some (.int v4), some (.int v4), some (.int 0), none, none]) hc dd_X9_layPlan_46 rfl (Nat.le_of_ble_eq_true rfl) rfl ?_
    refine hb_aload_n (q := 49) hc dd_X9_layPlan_48 rfl rfl ?_
    refine hb_getI (q := 52) (v := M.1 42 5) hc fl_X9_99 sh42 sl42 rfl rfl dd_X9_layPlan_49 rfl ?_
    refine hb_iconst (q := 53) (v := 1) hc dd_X9_layPlan_52 rfl ic_1 ?_
    refine hb_isub (q := 54) hc dd_X9_layPlan_53 rfl ?_
    refine hb_istore (q := 56) (lv' := [some (.ref 42), none, some (.int v2), some (.int v3), some (.int v4), some (.int v4), some (.int 0), some (.int ((M.1 42 5) - 1)), none]) hc dd_X9_layPlan_54 rfl (Nat.le_of_ble_eq_true rfl) rfl ?_
    exact hb_weak (lvs (lvn (lvs (lvs (lvs (lvs (lvs (lvs (lvn lvz))))))))) (h p l e s m args below meth c G hc)
theorem z_X9_layPlan_56 {d : Nat} {M : Mm} {v2 : Int32} {v3 : Int32} {v4 : Int32} {v5 : Int32} {v6 : Int32} {v7 : Int32} {K : Int32 → Mm → Prop}  (h : (v7 < 0 → (ACi d X9_ones [.int v6] M (fun r1 M1 => (v3 = (-1) → (ACi d X9_isPlan [.ref 42] M1 (fun r2 M2 => (r2 = 0 → (lp_X9_layPlan_35 d M2 v2 v3 (v4 + 1) K)) ∧ (¬ r2 = 0 → (lp_X9_layPlan_135 d M2 v2 r1 v4 0 K))))) ∧ (¬ v3 = (-1) → ((v3 ≤ r1 → (lp_X9_layPlan_35 d M1 v2 v3 (v4 + 1) K)) ∧ (¬ v3 ≤ r1 → (ACi d X9_isPlan [.ref 42] M1 (fun r3 M3 => (r3 = 0 → (lp_X9_layPlan_35 d M3 v2 v3 (v4 + 1) K)) ∧ (¬ r3 = 0 → (lp_X9_layPlan_135 d M3 v2 r1 v4 0 K)))))))))) ∧ (¬ v7 < 0 → (¬ (M.1 42 4) = 0 ∧ (vp_in v7 6 ∧ (¬ (M.1 42 4) = 0 ∧ (vp_in v7 6 ∧ (lp_X9_layPlan_56 d (wI M 60 v7.toNatClampNeg (v5 - v5 / (M.1 42 4) * (M.1 42 4))) v2 v3 v4 (v5 / (M.1 42 4)) (v6 ||| (1 <<< ((v5 - v5 / (M.1 42 4) * (M.1 42 4)) &&& 31))) (v7 + (-1)) K))))))) : lp_X9_layPlan_56 d M v2 v3 v4 v5 v6 v7 K := by
  intro p l e s m args below meth c G hc
  refine hb_iload (q := 58) hc dd_X9_layPlan_56 rfl rfl ?_
  refine hb_if_lt (q := 61) (tg := 104) hc dd_X9_layPlan_58 rfl (by decide) (fun z => ?_) (fun z => ?_)
  · replace h := h.1 z
    refine hb_iload (q := 106) hc dd_X9_layPlan_104 rfl rfl ?_
    refine hb_callSi (q := 109) (vs := [.int v6]) (st := []) hc mv_X9_190 h rfl rfl (Nat.le_of_ble_eq_true rfl) ⟨Nat.le_refl _, Nat.le_refl _⟩ ⟨Nat.le_refl _, Nat.le_refl _⟩ dd_X9_layPlan_106 rfl (fun r1 M1 h => ?_)
    refine hb_istore (q := 111) (lv' := [some (.ref 42), none, some (.int v2), some (.int v3), some (.int v4), some (.int v5), some (.int v6), some (.int r1), none]) hc dd_X9_layPlan_109 rfl (Nat.le_of_ble_eq_true rfl) rfl ?_
    refine hb_iload_n (q := 112) hc dd_X9_layPlan_111 rfl rfl ?_
    refine hb_iconst (q := 113) (v := (-1)) hc dd_X9_layPlan_112 rfl ic_m1 ?_
    refine hb_icmp_eq (q := 116) (tg := 122) hc dd_X9_layPlan_113 rfl (by decide) (fun z => ?_) (fun z => ?_)
    · replace h := h.1 z
      refine hb_aload_n (q := 123) hc dd_X9_layPlan_122 rfl rfl ?_
      refine hb_callVi (q := 126) (vs := []) (st := []) hc mv_X9_246 h sh42 sl42 rfl rfl rfl (Nat.le_of_ble_eq_true rfl) ⟨Nat.le_refl _, Nat.le_refl _⟩ ⟨Nat.le_refl _, Nat.le_refl _⟩ dd_X9_layPlan_123 rfl (fun r2 M2 h => ?_)
      refine hb_if_eq (q := 129) (tg := 164) hc dd_X9_layPlan_126 rfl (by decide) (fun z => ?_) (fun z => ?_)
      · replace h := h.1 z
        refine hb_iinc (q := 167) (v := v4 + 1) (lv' := [some (.ref 42), none, some (.int v2), some (.int v3), some (.int (v4 + 1)), some (.int v5), some (.int v6), some (.int r1), none]) hc dd_X9_layPlan_164 rfl rfl rfl (Nat.le_of_ble_eq_true rfl) rfl ?_
        refine hb_goto (tg := 35) hc dd_X9_layPlan_167 (by decide) ?_
        exact hb_weak (lvs (lvn (lvs (lvs (lvs (lvn (lvn (lvn (lvn lvz))))))))) (h p l e s m args below meth c G hc)
      · replace h := h.2 z
        refine hb_iload (q := 131) hc dd_X9_layPlan_129 rfl rfl ?_
        refine hb_istore_n (q := 132) (lv' := [some (.ref 42), none, some (.int v2), some (.int r1), some (.int v4), some (.int v5), some (.int v6), some (.int r1), none]) hc dd_X9_layPlan_131 rfl (Nat.le_of_ble_eq_true rfl) rfl ?_
        refine hb_iconst (q := 133) (v := 0) hc dd_X9_layPlan_132 rfl ic_0 ?_
        refine hb_istore (q := 135) (lv' := [some (.ref 42), none, some (.int v2), some (.int r1), some (.int v4), some (.int v5), some (.int v6), some (.int r1), some (.int 0)]) hc dd_X9_layPlan_133 rfl (Nat.le_of_ble_eq_true rfl) rfl ?_
        exact hb_weak (lvs (lvn (lvs (lvs (lvs (lvn (lvn (lvn (lvs lvz))))))))) (h p l e s m args below meth c G hc)
    · replace h := h.2 z
      refine hb_iload (q := 118) hc dd_X9_layPlan_116 rfl rfl ?_
      refine hb_iload_n (q := 119) hc dd_X9_layPlan_118 rfl rfl ?_
      refine hb_icmp_ge (q := 122) (tg := 164) hc dd_X9_layPlan_119 rfl (by decide) (fun z => ?_) (fun z => ?_)
      · replace h := h.1 z
        refine hb_iinc (q := 167) (v := v4 + 1) (lv' := [some (.ref 42), none, some (.int v2), some (.int v3), some (.int (v4 + 1)), some (.int v5), some (.int v6), some (.int r1), none]) hc dd_X9_layPlan_164 rfl rfl rfl (Nat.le_of_ble_eq_true rfl) rfl ?_
        refine hb_goto (tg := 35) hc dd_X9_layPlan_167 (by decide) ?_
        exact hb_weak (lvs (lvn (lvs (lvs (lvs (lvn (lvn (lvn (lvn lvz))))))))) (h p l e s m args below meth c G hc)
      · replace h := h.2 z
        refine hb_aload_n (q := 123) hc dd_X9_layPlan_122 rfl rfl ?_
        refine hb_callVi (q := 126) (vs := []) (st := []) hc mv_X9_246 h sh42 sl42 rfl rfl rfl (Nat.le_of_ble_eq_true rfl) ⟨Nat.le_refl _, Nat.le_refl _⟩ ⟨Nat.le_refl _, Nat.le_refl _⟩ dd_X9_layPlan_123 rfl (fun r3 M3 h => ?_)
        refine hb_if_eq (q := 129) (tg := 164) hc dd_X9_layPlan_126 rfl (by decide) (fun z => ?_) (fun z => ?_)
        · replace h := h.1 z
          refine hb_iinc (q := 167) (v := v4 + 1) (lv' := [some (.ref 42), none, some (.int v2), some (.int v3), some (.int (v4 + 1)), some (.int v5), some (.int v6), some (.int r1), none]) hc dd_X9_layPlan_164 rfl rfl rfl (Nat.le_of_ble_eq_true rfl) rfl ?_
          refine hb_goto (tg := 35) hc dd_X9_layPlan_167 (by decide) ?_
          exact hb_weak (lvs (lvn (lvs (lvs (lvs (lvn (lvn (lvn (lvn lvz))))))))) (h p l e s m args below meth c G hc)
        · replace h := h.2 z
          refine hb_iload (q := 131) hc dd_X9_layPlan_129 rfl rfl ?_
          refine hb_istore_n (q := 132) (lv' := [some (.ref 42), none, some (.int v2), some (.int r1), some (.int v4), some (.int v5), some (.int v6), some (.int r1), none]) hc dd_X9_layPlan_131 rfl (Nat.le_of_ble_eq_true rfl) rfl ?_
          refine hb_iconst (q := 133) (v := 0) hc dd_X9_layPlan_132 rfl ic_0 ?_
          refine hb_istore (q := 135) (lv' := [some (.ref 42), none, some (.int v2), some (.int r1), some (.int v4), some (.int v5), some (.int v6), some (.int r1), some (.int 0)]) hc dd_X9_layPlan_133 rfl (Nat.le_of_ble_eq_true rfl) rfl ?_
          exact hb_weak (lvs (lvn (lvs (lvs (lvs (lvn (lvn (lvn (lvs lvz))))))))) (h p l e s m args below meth c G hc)
  · replace h := h.2 z
    refine hb_aload_n (q := 62) hc dd_X9_layPlan_61 rfl rfl ?_
    refine hb_getR (q := 65) hc fl_X9_62 sh42 sl42 rfl dd_X9_layPlan_62 rfl ?_
    refine hb_iload (q := 67) hc dd_X9_layPlan_65 rfl rfl ?_
    refine hb_iload (q := 69) hc dd_X9_layPlan_67 rfl rfl ?_
    refine hb_aload_n (q := 70) hc dd_X9_layPlan_69 rfl rfl ?_
    refine hb_getI (q := 73) (v := M.1 42 4) hc fl_X9_96 sh42 sl42 rfl rfl dd_X9_layPlan_70 rfl ?_
    obtain ⟨hn, h⟩ := h
    refine hb_irem (q := 74) hc dd_X9_layPlan_73 rfl hn ?_
    obtain ⟨hi, h⟩ := h
    refine hb_iast (q := 75) hc sh60 sl60 hi rfl dd_X9_layPlan_74 rfl ?_
    refine hb_iload (q := 77) hc dd_X9_layPlan_75 rfl rfl ?_
    refine hb_aload_n (q := 78) hc dd_X9_layPlan_77 rfl rfl ?_
    refine hb_getI (q := 81) (v := M.1 42 4) hc fl_X9_96 sh42 sl42 rfl (by simp [wI, wL, cpI, cpL]) dd_X9_layPlan_78 rfl ?_
    obtain ⟨hn, h⟩ := h
    refine hb_idiv (q := 82) hc dd_X9_layPlan_81 rfl hn ?_
    refine hb_istore (q := 84) (lv' := [some (.ref 42), none, some (.int v2), some (.int v3), some (.int v4), some (.int (v5 / (M.1 42 4))), some (.int v6), some (.int v7), none]) hc dd_X9_layPlan_82 rfl (Nat.le_of_ble_eq_true rfl) rfl ?_
    refine hb_iload (q := 86) hc dd_X9_layPlan_84 rfl rfl ?_
    refine hb_iconst (q := 87) (v := 1) hc dd_X9_layPlan_86 rfl ic_1 ?_
    refine hb_aload_n (q := 88) hc dd_X9_layPlan_87 rfl rfl ?_
    refine hb_getR (q := 91) hc fl_X9_62 sh42 sl42 rfl dd_X9_layPlan_88 rfl ?_
    refine hb_iload (q := 93) hc dd_X9_layPlan_91 rfl rfl ?_
    obtain ⟨hi, h⟩ := h
    refine hb_iald (q := 94) (v := v5 - v5 / (M.1 42 4) * (M.1 42 4)) hc sh60 sl60 hi rfl (by simp [wI, wL, cpI, cpL]) dd_X9_layPlan_93 rfl ?_
    refine hb_ishl (q := 95) hc dd_X9_layPlan_94 rfl ?_
    refine hb_ior (q := 96) hc dd_X9_layPlan_95 rfl ?_
    refine hb_istore (q := 98) (lv' := [some (.ref 42), none, some (.int v2), some (.int v3), some (.int v4), some (.int (v5 / (M.1 42 4))), some (.int (v6 ||| (1 <<< ((v5 - v5 / (M.1 42 4) * (M.1 42 4)) &&& 31)))), some (.int v7), none]) hc dd_X9_layPlan_96 rfl (Nat.le_of_ble_eq_true rfl) rfl ?_
    refine hb_iinc (q := 101) (v := v7 + (-1)) (lv' := [some (.ref 42), none, some (.int v2), some (.int v3), some (.int v4), some (.int (v5 / (M.1 42 4))), some (.int (v6 ||| (1 <<< ((v5 - v5 / (M.1 42 4) * (M.1 42 4)) &&& 31)))), some (.int (v7 + (-1))), none]) hc dd_X9_layPlan_98 rfl rfl rfl (Nat.le_of_ble_eq_true rfl) rfl ?_
    refine hb_goto (tg := 56) hc dd_X9_layPlan_101 (by decide) ?_
    exact hb_weak (lvs (lvn (lvs (lvs (lvs (lvs (lvs (lvs (lvn lvz))))))))) (h p l e s m args below meth c G hc)
theorem z_X9_layPlan_135 {d : Nat} {M : Mm} {v2 : Int32} {v3 : Int32} {v4 : Int32} {v8 : Int32} {K : Int32 → Mm → Prop}  (h : ((M.1 42 5) ≤ v8 → (lp_X9_layPlan_35 d M v2 v3 (v4 + 1) K)) ∧ (¬ (M.1 42 5) ≤ v8 → (vp_in v8 6 ∧ (vp_in v8 6 ∧ (lp_X9_layPlan_135 d (wI M 61 v8.toNatClampNeg (M.1 60 v8.toNatClampNeg)) v2 v3 v4 (v8 + 1) K))))) : lp_X9_layPlan_135 d M v2 v3 v4 v8 K := by
  intro p l e s m args below meth c G hc
  refine hb_iload (q := 137) hc dd_X9_layPlan_135 rfl rfl ?_
  refine hb_aload_n (q := 138) hc dd_X9_layPlan_137 rfl rfl ?_
  refine hb_getI (q := 141) (v := M.1 42 5) hc fl_X9_99 sh42 sl42 rfl rfl dd_X9_layPlan_138 rfl ?_
  refine hb_icmp_ge (q := 144) (tg := 164) hc dd_X9_layPlan_141 rfl (by decide) (fun z => ?_) (fun z => ?_)
  · replace h := h.1 z
    refine hb_iinc (q := 167) (v := v4 + 1) (lv' := [some (.ref 42), none, some (.int v2), some (.int v3), some (.int (v4 + 1)), none, none, none, some (.int v8)]) hc dd_X9_layPlan_164 rfl rfl rfl (Nat.le_of_ble_eq_true rfl) rfl ?_
    refine hb_goto (tg := 35) hc dd_X9_layPlan_167 (by decide) ?_
    exact hb_weak (lvs (lvn (lvs (lvs (lvs (lvn (lvn (lvn (lvn lvz))))))))) (h p l e s m args below meth c G hc)
  · replace h := h.2 z
    refine hb_aload_n (q := 145) hc dd_X9_layPlan_144 rfl rfl ?_
    refine hb_getR (q := 148) hc fl_X9_65 sh42 sl42 rfl dd_X9_layPlan_145 rfl ?_
    refine hb_iload (q := 150) hc dd_X9_layPlan_148 rfl rfl ?_
    refine hb_aload_n (q := 151) hc dd_X9_layPlan_150 rfl rfl ?_
    refine hb_getR (q := 154) hc fl_X9_62 sh42 sl42 rfl dd_X9_layPlan_151 rfl ?_
    refine hb_iload (q := 156) hc dd_X9_layPlan_154 rfl rfl ?_
    obtain ⟨hi, h⟩ := h
    refine hb_iald (q := 157) (v := M.1 60 v8.toNatClampNeg) hc sh60 sl60 hi rfl rfl dd_X9_layPlan_156 rfl ?_
    obtain ⟨hi, h⟩ := h
    refine hb_iast (q := 158) hc sh61 sl61 hi rfl dd_X9_layPlan_157 rfl ?_
    refine hb_iinc (q := 161) (v := v8 + 1) (lv' := [some (.ref 42), none, some (.int v2), some (.int v3), some (.int v4), none, none, none, some (.int (v8 + 1))]) hc dd_X9_layPlan_158 rfl rfl rfl (Nat.le_of_ble_eq_true rfl) rfl ?_
    refine hb_goto (tg := 135) hc dd_X9_layPlan_161 (by decide) ?_
    exact hb_weak (lvs (lvn (lvs (lvs (lvs (lvn (lvn (lvn (lvs lvz))))))))) (h p l e s m args below meth c G hc)
theorem w_X9_layPlan {d : Nat} {M : Mm} {v1 : Int32} {K : Int32 → Mm → Prop}  (h : ACv d X9_layBars [.ref 42, .int v1] M (fun M1 => lp_X9_layPlan_9 d M1 1 0 K)) : ACi (d + 1) X9_layPlan [.ref 42, .int v1] M K := by
  refine AC.ofW (lv := [some (.ref 42), some (.int v1), none, none, none, none, none, none, none]) pn_X9 (Nat.le_of_ble_eq_true rfl) (show lvLe _ [some (.ref 42), some (.int v1)] from (lvs (lvs (lve (lve (lve (lve (lve (lve (lve lvz)))))))))) ?_
  intro p l e s m args below meth c G hc
  refine hb_aload_n (q := 1) hc dd_X9_layPlan_0 rfl rfl ?_
  refine hb_iload_n (q := 2) hc dd_X9_layPlan_1 rfl rfl ?_
  refine hb_callVv (q := 5) (vs := [.int v1]) (st := []) hc mv_X9_242 h sh42 sl42 rfl rfl rfl (Nat.le_of_ble_eq_true rfl) ⟨Nat.le_refl _, Nat.le_refl _⟩ ⟨Nat.le_refl _, Nat.le_refl _⟩ dd_X9_layPlan_2 rfl (fun M1 h => ?_)
  refine hb_iconst (q := 6) (v := 1) hc dd_X9_layPlan_5 rfl ic_1 ?_
  refine hb_istore_n (q := 7) (lv' := [some (.ref 42), some (.int v1), some (.int 1), none, none, none, none, none, none]) hc dd_X9_layPlan_6 rfl (Nat.le_of_ble_eq_true rfl) rfl ?_
  refine hb_iconst (q := 8) (v := 0) hc dd_X9_layPlan_7 rfl ic_0 ?_
  refine hb_istore_n (q := 9) (lv' := [some (.ref 42), some (.int v1), some (.int 1), some (.int 0), none, none, none, none, none]) hc dd_X9_layPlan_8 rfl (Nat.le_of_ble_eq_true rfl) rfl ?_
  exact hb_weak (lvs (lvn (lvs (lvs (lvn (lvn (lvn (lvn (lvn lvz))))))))) (h p l e s m args below meth c G hc)
def lp_X9_plan_16 (d : Nat) (M : Mm) (v1 : Int32) (v2 : Int32) (K : Int32 → Mm → Prop) : Prop := AW (d + 1) X9_plan M 16 [some (.ref 42), some (.int v1), some (.int v2), none] [] (QI K)
theorem z_X9_plan_16 {d : Nat} {M : Mm} {v1 : Int32} {v2 : Int32} {K : Int32 → Mm → Prop}  (h : ACi d X9_in [.long v1.toInt64, .long 0, .long 1] M (fun r1 M1 => (¬ r1 = 0 → ((¬ v1 = 1 → (ACi d X9_layPlan [.ref 42, .int 0] M1 (fun r2 M2 => (v2 = (-1) → (K r2 M2)) ∧ (¬ v2 = (-1) → ((¬ r2 = (-1) → (vp_in v2 6 ∧ (K (M2.1 61 v2.toNatClampNeg) M2))) ∧ (r2 = (-1) → (K r2 M2))))))) ∧ (v1 = 1 → (ACi d X9_layPlan [.ref 42, .int 1] M1 (fun r3 M3 => (v2 = (-1) → (K r3 M3)) ∧ (¬ v2 = (-1) → ((¬ r3 = (-1) → (vp_in v2 6 ∧ (K (M3.1 61 v2.toNatClampNeg) M3))) ∧ (r3 = (-1) → (K r3 M3))))))))) ∧ (r1 = 0 → (K (-3) M1)))) : lp_X9_plan_16 d M v1 v2 K := by
  intro p l e s m args below meth c G hc
  refine hb_iload_n (q := 17) hc dd_X9_plan_16 rfl rfl ?_
  refine hb_i2l (q := 18) hc dd_X9_plan_17 rfl ?_
  refine hb_lconst (q := 19) (v := 0) hc dd_X9_plan_18 rfl lc_0 ?_
  refine hb_lconst (q := 20) (v := 1) hc dd_X9_plan_19 rfl lc_1 ?_
  refine hb_callSi (q := 23) (vs := [.long v1.toInt64, .long 0, .long 1]) (st := []) hc mv_X9_104 h rfl rfl (Nat.le_of_ble_eq_true rfl) ⟨Nat.le_refl _, Nat.le_refl _⟩ ⟨Nat.le_refl _, Nat.le_refl _⟩ dd_X9_plan_20 rfl (fun r1 M1 h => ?_)
  refine hb_if_ne (q := 26) (tg := 29) hc dd_X9_plan_23 rfl (by decide) (fun z => ?_) (fun z => ?_)
  · replace h := h.1 z
    refine hb_aload_n (q := 30) hc dd_X9_plan_29 rfl rfl ?_
    refine hb_iload_n (q := 31) hc dd_X9_plan_30 rfl rfl ?_
    refine hb_iconst (q := 32) (v := 1) hc dd_X9_plan_31 rfl ic_1 ?_
    refine hb_icmp_ne (q := 35) (tg := 39) hc dd_X9_plan_32 rfl (by decide) (fun z => ?_) (fun z => ?_)
    · replace h := h.1 z
      refine hb_iconst (q := 40) (v := 0) hc dd_X9_plan_39 rfl ic_0 ?_
      refine hb_callVi (q := 43) (vs := [.int 0]) (st := []) hc mv_X9_249 h sh42 sl42 rfl rfl rfl (Nat.le_of_ble_eq_true rfl) ⟨Nat.le_refl _, Nat.le_refl _⟩ ⟨Nat.le_refl _, Nat.le_refl _⟩ dd_X9_plan_40 rfl (fun r2 M2 h => ?_)
      refine hb_istore_n (q := 44) (lv' := [some (.ref 42), some (.int v1), some (.int v2), some (.int r2)]) hc dd_X9_plan_43 rfl (Nat.le_of_ble_eq_true rfl) rfl ?_
      refine hb_iload_n (q := 45) hc dd_X9_plan_44 rfl rfl ?_
      refine hb_iconst (q := 46) (v := (-1)) hc dd_X9_plan_45 rfl ic_m1 ?_
      refine hb_icmp_eq (q := 49) (tg := 54) hc dd_X9_plan_46 rfl (by decide) (fun z => ?_) (fun z => ?_)
      · replace h := h.1 z
        refine hb_iload_n (q := 55) hc dd_X9_plan_54 rfl rfl ?_
        refine hb_goto (tg := 64) hc dd_X9_plan_55 (by decide) ?_
        exact hb_iret hc rfl dd_X9_plan_64 h
      · replace h := h.2 z
        refine hb_iload_n (q := 50) hc dd_X9_plan_49 rfl rfl ?_
        refine hb_iconst (q := 51) (v := (-1)) hc dd_X9_plan_50 rfl ic_m1 ?_
        refine hb_icmp_ne (q := 54) (tg := 58) hc dd_X9_plan_51 rfl (by decide) (fun z => ?_) (fun z => ?_)
        · replace h := h.1 z
          refine hb_aload_n (q := 59) hc dd_X9_plan_58 rfl rfl ?_
          refine hb_getR (q := 62) hc fl_X9_65 sh42 sl42 rfl dd_X9_plan_59 rfl ?_
          refine hb_iload_n (q := 63) hc dd_X9_plan_62 rfl rfl ?_
          obtain ⟨hi, h⟩ := h
          refine hb_iald (q := 64) (v := M2.1 61 v2.toNatClampNeg) hc sh61 sl61 hi rfl rfl dd_X9_plan_63 rfl ?_
          exact hb_iret hc rfl dd_X9_plan_64 h
        · replace h := h.2 z
          refine hb_iload_n (q := 55) hc dd_X9_plan_54 rfl rfl ?_
          refine hb_goto (tg := 64) hc dd_X9_plan_55 (by decide) ?_
          exact hb_iret hc rfl dd_X9_plan_64 h
    · replace h := h.2 z
      refine hb_iconst (q := 36) (v := 1) hc dd_X9_plan_35 rfl ic_1 ?_
      refine hb_goto (tg := 40) hc dd_X9_plan_36 (by decide) ?_
      refine hb_callVi (q := 43) (vs := [.int 1]) (st := []) hc mv_X9_249 h sh42 sl42 rfl rfl rfl (Nat.le_of_ble_eq_true rfl) ⟨Nat.le_refl _, Nat.le_refl _⟩ ⟨Nat.le_refl _, Nat.le_refl _⟩ dd_X9_plan_40 rfl (fun r3 M3 h => ?_)
      refine hb_istore_n (q := 44) (lv' := [some (.ref 42), some (.int v1), some (.int v2), some (.int r3)]) hc dd_X9_plan_43 rfl (Nat.le_of_ble_eq_true rfl) rfl ?_
      refine hb_iload_n (q := 45) hc dd_X9_plan_44 rfl rfl ?_
      refine hb_iconst (q := 46) (v := (-1)) hc dd_X9_plan_45 rfl ic_m1 ?_
      refine hb_icmp_eq (q := 49) (tg := 54) hc dd_X9_plan_46 rfl (by decide) (fun z => ?_) (fun z => ?_)
      · replace h := h.1 z
        refine hb_iload_n (q := 55) hc dd_X9_plan_54 rfl rfl ?_
        refine hb_goto (tg := 64) hc dd_X9_plan_55 (by decide) ?_
        exact hb_iret hc rfl dd_X9_plan_64 h
      · replace h := h.2 z
        refine hb_iload_n (q := 50) hc dd_X9_plan_49 rfl rfl ?_
        refine hb_iconst (q := 51) (v := (-1)) hc dd_X9_plan_50 rfl ic_m1 ?_
        refine hb_icmp_ne (q := 54) (tg := 58) hc dd_X9_plan_51 rfl (by decide) (fun z => ?_) (fun z => ?_)
        · replace h := h.1 z
          refine hb_aload_n (q := 59) hc dd_X9_plan_58 rfl rfl ?_
          refine hb_getR (q := 62) hc fl_X9_65 sh42 sl42 rfl dd_X9_plan_59 rfl ?_
          refine hb_iload_n (q := 63) hc dd_X9_plan_62 rfl rfl ?_
          obtain ⟨hi, h⟩ := h
          refine hb_iald (q := 64) (v := M3.1 61 v2.toNatClampNeg) hc sh61 sl61 hi rfl rfl dd_X9_plan_63 rfl ?_
          exact hb_iret hc rfl dd_X9_plan_64 h
        · replace h := h.2 z
          refine hb_iload_n (q := 55) hc dd_X9_plan_54 rfl rfl ?_
          refine hb_goto (tg := 64) hc dd_X9_plan_55 (by decide) ?_
          exact hb_iret hc rfl dd_X9_plan_64 h
  · replace h := h.2 z
    refine hb_bipush (q := 28) (v := (-3)) hc dd_X9_plan_26 rfl bp_m3 ?_
    exact hb_iret hc rfl dd_X9_plan_28 h
theorem w_X9_plan {d : Nat} {M : Mm} {v1 : Int32} {v2 : Int32} {K : Int32 → Mm → Prop}  (h : (v2 = (-1) → (lp_X9_plan_16 d M v1 v2 K)) ∧ (¬ v2 = (-1) → (ACi d X9_isLight [.ref 42, .int v2] M (fun r1 M1 => (¬ r1 = 0 → (lp_X9_plan_16 d M1 v1 v2 K)) ∧ (r1 = 0 → (K (-2) M1)))))) : ACi (d + 1) X9_plan [.ref 42, .int v1, .int v2] M K := by
  refine AC.ofW (lv := [some (.ref 42), some (.int v1), some (.int v2), none]) pn_X9 (Nat.le_of_ble_eq_true rfl) (show lvLe _ [some (.ref 42), some (.int v1), some (.int v2)] from (lvs (lvs (lvs (lve lvz))))) ?_
  intro p l e s m args below meth c G hc
  refine hb_iload_n (q := 1) hc dd_X9_plan_0 rfl rfl ?_
  refine hb_iconst (q := 2) (v := (-1)) hc dd_X9_plan_1 rfl ic_m1 ?_
  refine hb_icmp_eq (q := 5) (tg := 16) hc dd_X9_plan_2 rfl (by decide) (fun z => ?_) (fun z => ?_)
  · replace h := h.1 z
    exact hb_weak (lvs (lvs (lvs (lvn lvz)))) (h p l e s m args below meth c G hc)
  · replace h := h.2 z
    refine hb_aload_n (q := 6) hc dd_X9_plan_5 rfl rfl ?_
    refine hb_iload_n (q := 7) hc dd_X9_plan_6 rfl rfl ?_
    refine hb_callVi (q := 10) (vs := [.int v2]) (st := []) hc mv_X9_224 h sh42 sl42 rfl rfl rfl (Nat.le_of_ble_eq_true rfl) ⟨Nat.le_refl _, Nat.le_refl _⟩ ⟨Nat.le_refl _, Nat.le_refl _⟩ dd_X9_plan_7 rfl (fun r1 M1 h => ?_)
    refine hb_if_ne (q := 13) (tg := 16) hc dd_X9_plan_10 rfl (by decide) (fun z => ?_) (fun z => ?_)
    · replace h := h.1 z
      exact hb_weak (lvs (lvs (lvs (lvn lvz)))) (h p l e s m args below meth c G hc)
    · replace h := h.2 z
      refine hb_bipush (q := 15) (v := (-2)) hc dd_X9_plan_13 rfl bp_m2 ?_
      exact hb_iret hc rfl dd_X9_plan_15 h
def lp_X9_most_31 (d : Nat) (M : Mm) (v2 : Int32) (v3 : Int32) (K : Int32 → Mm → Prop) : Prop := AW (d + 1) X9_most M 31 [some (.ref 42), none, some (.int v2), some (.int v3), none, none] [] (QI K)
def lp_X9_most_47 (d : Nat) (M : Mm) (v2 : Int32) (v3 : Int32) (v4 : Int32) (v5 : Int32) (K : Int32 → Mm → Prop) : Prop := AW (d + 1) X9_most M 47 [some (.ref 42), none, some (.int v2), some (.int v3), some (.int v4), some (.int v5)] [] (QI K)
theorem z_X9_most_31 {d : Nat} {M : Mm} {v2 : Int32} {v3 : Int32} {K : Int32 → Mm → Prop}  (h : ((1 <<< ((M.1 42 4) &&& 31)) ≤ v3 → (K v2 M)) ∧ (¬ (1 <<< ((M.1 42 4) &&& 31)) ≤ v3 → (lp_X9_most_47 d M v2 v3 1 0 K))) : lp_X9_most_31 d M v2 v3 K := by
  intro p l e s m args below meth c G hc
  refine hb_iload_n (q := 32) hc dd_X9_most_31 rfl rfl ?_
  refine hb_iconst (q := 33) (v := 1) hc dd_X9_most_32 rfl ic_1 ?_
  refine hb_aload_n (q := 34) hc dd_X9_most_33 rfl rfl ?_
  refine hb_getI (q := 37) (v := M.1 42 4) hc fl_X9_96 sh42 sl42 rfl rfl dd_X9_most_34 rfl ?_
  refine hb_ishl (q := 38) hc dd_X9_most_37 rfl ?_
  refine hb_icmp_ge (q := 41) (tg := 130) hc dd_X9_most_38 rfl (by decide) (fun z => ?_) (fun z => ?_)
  · replace h := h.1 z
    refine hb_iload_n (q := 131) hc dd_X9_most_130 rfl rfl ?_
    exact hb_iret hc rfl dd_X9_most_131 h
  · replace h := h.2 z
    refine hb_iconst (q := 42) (v := 1) hc dd_X9_most_41 rfl ic_1 ?_
    refine hb_istore (q := 44) (lv' := [some (.ref 42), none, some (.int v2), some (.int v3), some (.int 1), none]) hc dd_X9_most_42 rfl (Nat.le_of_ble_eq_true rfl) rfl ?_
    refine hb_iconst (q := 45) (v := 0) hc dd_X9_most_44 rfl ic_0 ?_
    refine hb_istore (q := 47) (lv' := [some (.ref 42), none, some (.int v2), some (.int v3), some (.int 1), some (.int 0)]) hc dd_X9_most_45 rfl (Nat.le_of_ble_eq_true rfl) rfl ?_
    exact hb_weak (lvs (lvn (lvs (lvs (lvs (lvs lvz)))))) (h p l e s m args below meth c G hc)
theorem z_X9_most_47 {d : Nat} {M : Mm} {v2 : Int32} {v3 : Int32} {v4 : Int32} {v5 : Int32} {K : Int32 → Mm → Prop}  (h : ((M.1 42 4) ≤ v5 → ((v4 = 0 → (lp_X9_most_31 d M v2 (v3 + 1) K)) ∧ (¬ v4 = 0 → (ACi d X9_ones [.int v3] M (fun r1 M1 => ACi d X9_ones [.int v2] M1 (fun r2 M2 => (r1 ≤ r2 → (lp_X9_most_31 d M2 v2 (v3 + 1) K)) ∧ (¬ r1 ≤ r2 → (lp_X9_most_31 d M2 v3 (v3 + 1) K)))))))) ∧ (¬ (M.1 42 4) ≤ v5 → ((v4 = 0 → (lp_X9_most_47 d M v2 v3 0 (v5 + 1) K)) ∧ (¬ v4 = 0 → (ACi d X9_has [.int v3, .int v5] M (fun r3 M3 => (r3 = 0 → (lp_X9_most_47 d M3 v2 v3 1 (v5 + 1) K)) ∧ (¬ r3 = 0 → (vp_in v5 8 ∧ ((¬ (((M3.1 59 v5.toNatClampNeg) &&& v3) &&& ((1 <<< (v5 &&& 31)) ^^^ (-1))) = 0 → (lp_X9_most_47 d M3 v2 v3 0 (v5 + 1) K)) ∧ ((((M3.1 59 v5.toNatClampNeg) &&& v3) &&& ((1 <<< (v5 &&& 31)) ^^^ (-1))) = 0 → (lp_X9_most_47 d M3 v2 v3 1 (v5 + 1) K))))))))))) : lp_X9_most_47 d M v2 v3 v4 v5 K := by
  intro p l e s m args below meth c G hc
  refine hb_iload (q := 49) hc dd_X9_most_47 rfl rfl ?_
  refine hb_aload_n (q := 50) hc dd_X9_most_49 rfl rfl ?_
  refine hb_getI (q := 53) (v := M.1 42 4) hc fl_X9_96 sh42 sl42 rfl rfl dd_X9_most_50 rfl ?_
  refine hb_icmp_ge (q := 56) (tg := 102) hc dd_X9_most_53 rfl (by decide) (fun z => ?_) (fun z => ?_)
  · replace h := h.1 z
    refine hb_iload (q := 104) hc dd_X9_most_102 rfl rfl ?_
    refine hb_if_eq (q := 107) (tg := 122) hc dd_X9_most_104 rfl (by decide) (fun z => ?_) (fun z => ?_)
    · replace h := h.1 z
      refine hb_iload_n (q := 123) hc dd_X9_most_122 rfl rfl ?_
      refine hb_istore_n (q := 124) (lv' := [some (.ref 42), none, some (.int v2), some (.int v3), some (.int v4), some (.int v5)]) hc dd_X9_most_123 rfl (Nat.le_of_ble_eq_true rfl) rfl ?_
      refine hb_iinc (q := 127) (v := v3 + 1) (lv' := [some (.ref 42), none, some (.int v2), some (.int (v3 + 1)), some (.int v4), some (.int v5)]) hc dd_X9_most_124 rfl rfl rfl (Nat.le_of_ble_eq_true rfl) rfl ?_
      refine hb_goto (tg := 31) hc dd_X9_most_127 (by decide) ?_
      exact hb_weak (lvs (lvn (lvs (lvs (lvn (lvn lvz)))))) (h p l e s m args below meth c G hc)
    · replace h := h.2 z
      refine hb_iload_n (q := 108) hc dd_X9_most_107 rfl rfl ?_
      refine hb_callSi (q := 111) (vs := [.int v3]) (st := []) hc mv_X9_190 h rfl rfl (Nat.le_of_ble_eq_true rfl) ⟨Nat.le_refl _, Nat.le_refl _⟩ ⟨Nat.le_refl _, Nat.le_refl _⟩ dd_X9_most_108 rfl (fun r1 M1 h => ?_)
      refine hb_iload_n (q := 112) hc dd_X9_most_111 rfl rfl ?_
      refine hb_callSi (q := 115) (vs := [.int v2]) (st := [.int r1]) hc mv_X9_190 h rfl rfl (Nat.le_of_ble_eq_true rfl) ⟨Nat.le_refl _, Nat.le_refl _⟩ ⟨Nat.le_refl _, Nat.le_refl _⟩ dd_X9_most_112 rfl (fun r2 M2 h => ?_)
      refine hb_icmp_le (q := 118) (tg := 122) hc dd_X9_most_115 rfl (by decide) (fun z => ?_) (fun z => ?_)
      · replace h := h.1 z
        refine hb_iload_n (q := 123) hc dd_X9_most_122 rfl rfl ?_
        refine hb_istore_n (q := 124) (lv' := [some (.ref 42), none, some (.int v2), some (.int v3), some (.int v4), some (.int v5)]) hc dd_X9_most_123 rfl (Nat.le_of_ble_eq_true rfl) rfl ?_
        refine hb_iinc (q := 127) (v := v3 + 1) (lv' := [some (.ref 42), none, some (.int v2), some (.int (v3 + 1)), some (.int v4), some (.int v5)]) hc dd_X9_most_124 rfl rfl rfl (Nat.le_of_ble_eq_true rfl) rfl ?_
        refine hb_goto (tg := 31) hc dd_X9_most_127 (by decide) ?_
        exact hb_weak (lvs (lvn (lvs (lvs (lvn (lvn lvz)))))) (h p l e s m args below meth c G hc)
      · replace h := h.2 z
        refine hb_iload_n (q := 119) hc dd_X9_most_118 rfl rfl ?_
        refine hb_goto (tg := 123) hc dd_X9_most_119 (by decide) ?_
        refine hb_istore_n (q := 124) (lv' := [some (.ref 42), none, some (.int v3), some (.int v3), some (.int v4), some (.int v5)]) hc dd_X9_most_123 rfl (Nat.le_of_ble_eq_true rfl) rfl ?_
        refine hb_iinc (q := 127) (v := v3 + 1) (lv' := [some (.ref 42), none, some (.int v3), some (.int (v3 + 1)), some (.int v4), some (.int v5)]) hc dd_X9_most_124 rfl rfl rfl (Nat.le_of_ble_eq_true rfl) rfl ?_
        refine hb_goto (tg := 31) hc dd_X9_most_127 (by decide) ?_
        exact hb_weak (lvs (lvn (lvs (lvs (lvn (lvn lvz)))))) (h p l e s m args below meth c G hc)
  · replace h := h.2 z
    refine hb_iload (q := 58) hc dd_X9_most_56 rfl rfl ?_
    refine hb_if_eq (q := 61) (tg := 93) hc dd_X9_most_58 rfl (by decide) (fun z => ?_) (fun z => ?_)
    · replace h := h.1 z
      refine hb_iconst (q := 94) (v := 0) hc dd_X9_most_93 rfl ic_0 ?_
      refine hb_istore (q := 96) (lv' := [some (.ref 42), none, some (.int v2), some (.int v3), some (.int 0), some (.int v5)]) hc dd_X9_most_94 rfl (Nat.le_of_ble_eq_true rfl) rfl ?_
      refine hb_iinc (q := 99) (v := v5 + 1) (lv' := [some (.ref 42), none, some (.int v2), some (.int v3), some (.int 0), some (.int (v5 + 1))]) hc dd_X9_most_96 rfl rfl rfl (Nat.le_of_ble_eq_true rfl) rfl ?_
      refine hb_goto (tg := 47) hc dd_X9_most_99 (by decide) ?_
      exact hb_weak (lvs (lvn (lvs (lvs (lvs (lvs lvz)))))) (h p l e s m args below meth c G hc)
    · replace h := h.2 z
      refine hb_iload_n (q := 62) hc dd_X9_most_61 rfl rfl ?_
      refine hb_iload (q := 64) hc dd_X9_most_62 rfl rfl ?_
      refine hb_callSi (q := 67) (vs := [.int v3, .int v5]) (st := []) hc mv_X9_239 h rfl rfl (Nat.le_of_ble_eq_true rfl) ⟨Nat.le_refl _, Nat.le_refl _⟩ ⟨Nat.le_refl _, Nat.le_refl _⟩ dd_X9_most_64 rfl (fun r3 M3 h => ?_)
      refine hb_if_eq (q := 70) (tg := 89) hc dd_X9_most_67 rfl (by decide) (fun z => ?_) (fun z => ?_)
      · replace h := h.1 z
        refine hb_iconst (q := 90) (v := 1) hc dd_X9_most_89 rfl ic_1 ?_
        refine hb_goto (tg := 94) hc dd_X9_most_90 (by decide) ?_
        refine hb_istore (q := 96) (lv' := [some (.ref 42), none, some (.int v2), some (.int v3), some (.int 1), some (.int v5)]) hc dd_X9_most_94 rfl (Nat.le_of_ble_eq_true rfl) rfl ?_
        refine hb_iinc (q := 99) (v := v5 + 1) (lv' := [some (.ref 42), none, some (.int v2), some (.int v3), some (.int 1), some (.int (v5 + 1))]) hc dd_X9_most_96 rfl rfl rfl (Nat.le_of_ble_eq_true rfl) rfl ?_
        refine hb_goto (tg := 47) hc dd_X9_most_99 (by decide) ?_
        exact hb_weak (lvs (lvn (lvs (lvs (lvs (lvs lvz)))))) (h p l e s m args below meth c G hc)
      · replace h := h.2 z
        refine hb_aload_n (q := 71) hc dd_X9_most_70 rfl rfl ?_
        refine hb_getR (q := 74) hc fl_X9_59 sh42 sl42 rfl dd_X9_most_71 rfl ?_
        refine hb_iload (q := 76) hc dd_X9_most_74 rfl rfl ?_
        obtain ⟨hi, h⟩ := h
        refine hb_iald (q := 77) (v := M3.1 59 v5.toNatClampNeg) hc sh59 sl59 hi rfl rfl dd_X9_most_76 rfl ?_
        refine hb_iload_n (q := 78) hc dd_X9_most_77 rfl rfl ?_
        refine hb_iand (q := 79) hc dd_X9_most_78 rfl ?_
        refine hb_iconst (q := 80) (v := 1) hc dd_X9_most_79 rfl ic_1 ?_
        refine hb_iload (q := 82) hc dd_X9_most_80 rfl rfl ?_
        refine hb_ishl (q := 83) hc dd_X9_most_82 rfl ?_
        refine hb_iconst (q := 84) (v := (-1)) hc dd_X9_most_83 rfl ic_m1 ?_
        refine hb_ixor (q := 85) hc dd_X9_most_84 rfl ?_
        refine hb_iand (q := 86) hc dd_X9_most_85 rfl ?_
        refine hb_if_ne (q := 89) (tg := 93) hc dd_X9_most_86 rfl (by decide) (fun z => ?_) (fun z => ?_)
        · replace h := h.1 z
          refine hb_iconst (q := 94) (v := 0) hc dd_X9_most_93 rfl ic_0 ?_
          refine hb_istore (q := 96) (lv' := [some (.ref 42), none, some (.int v2), some (.int v3), some (.int 0), some (.int v5)]) hc dd_X9_most_94 rfl (Nat.le_of_ble_eq_true rfl) rfl ?_
          refine hb_iinc (q := 99) (v := v5 + 1) (lv' := [some (.ref 42), none, some (.int v2), some (.int v3), some (.int 0), some (.int (v5 + 1))]) hc dd_X9_most_96 rfl rfl rfl (Nat.le_of_ble_eq_true rfl) rfl ?_
          refine hb_goto (tg := 47) hc dd_X9_most_99 (by decide) ?_
          exact hb_weak (lvs (lvn (lvs (lvs (lvs (lvs lvz)))))) (h p l e s m args below meth c G hc)
        · replace h := h.2 z
          refine hb_iconst (q := 90) (v := 1) hc dd_X9_most_89 rfl ic_1 ?_
          refine hb_goto (tg := 94) hc dd_X9_most_90 (by decide) ?_
          refine hb_istore (q := 96) (lv' := [some (.ref 42), none, some (.int v2), some (.int v3), some (.int 1), some (.int v5)]) hc dd_X9_most_94 rfl (Nat.le_of_ble_eq_true rfl) rfl ?_
          refine hb_iinc (q := 99) (v := v5 + 1) (lv' := [some (.ref 42), none, some (.int v2), some (.int v3), some (.int 1), some (.int (v5 + 1))]) hc dd_X9_most_96 rfl rfl rfl (Nat.le_of_ble_eq_true rfl) rfl ?_
          refine hb_goto (tg := 47) hc dd_X9_most_99 (by decide) ?_
          exact hb_weak (lvs (lvn (lvs (lvs (lvs (lvs lvz)))))) (h p l e s m args below meth c G hc)
theorem w_X9_most {d : Nat} {M : Mm} {v1 : Int32} {K : Int32 → Mm → Prop}  (h : ACi d X9_in [.long v1.toInt64, .long 0, .long 1] M (fun r1 M1 => (¬ r1 = 0 → ((¬ v1 = 1 → (ACv d X9_layBars [.ref 42, .int 0] M1 (fun M2 => lp_X9_most_31 d M2 0 1 K))) ∧ (v1 = 1 → (ACv d X9_layBars [.ref 42, .int 1] M1 (fun M3 => lp_X9_most_31 d M3 0 1 K))))) ∧ (r1 = 0 → (K (-3) M1)))) : ACi (d + 1) X9_most [.ref 42, .int v1] M K := by
  refine AC.ofW (lv := [some (.ref 42), some (.int v1), none, none, none, none]) pn_X9 (Nat.le_of_ble_eq_true rfl) (show lvLe _ [some (.ref 42), some (.int v1)] from (lvs (lvs (lve (lve (lve (lve lvz))))))) ?_
  intro p l e s m args below meth c G hc
  refine hb_iload_n (q := 1) hc dd_X9_most_0 rfl rfl ?_
  refine hb_i2l (q := 2) hc dd_X9_most_1 rfl ?_
  refine hb_lconst (q := 3) (v := 0) hc dd_X9_most_2 rfl lc_0 ?_
  refine hb_lconst (q := 4) (v := 1) hc dd_X9_most_3 rfl lc_1 ?_
  refine hb_callSi (q := 7) (vs := [.long v1.toInt64, .long 0, .long 1]) (st := []) hc mv_X9_104 h rfl rfl (Nat.le_of_ble_eq_true rfl) ⟨Nat.le_refl _, Nat.le_refl _⟩ ⟨Nat.le_refl _, Nat.le_refl _⟩ dd_X9_most_4 rfl (fun r1 M1 h => ?_)
  refine hb_if_ne (q := 10) (tg := 13) hc dd_X9_most_7 rfl (by decide) (fun z => ?_) (fun z => ?_)
  · replace h := h.1 z
    refine hb_aload_n (q := 14) hc dd_X9_most_13 rfl rfl ?_
    refine hb_iload_n (q := 15) hc dd_X9_most_14 rfl rfl ?_
    refine hb_iconst (q := 16) (v := 1) hc dd_X9_most_15 rfl ic_1 ?_
    refine hb_icmp_ne (q := 19) (tg := 23) hc dd_X9_most_16 rfl (by decide) (fun z => ?_) (fun z => ?_)
    · replace h := h.1 z
      refine hb_iconst (q := 24) (v := 0) hc dd_X9_most_23 rfl ic_0 ?_
      refine hb_callVv (q := 27) (vs := [.int 0]) (st := []) hc mv_X9_242 h sh42 sl42 rfl rfl rfl (Nat.le_of_ble_eq_true rfl) ⟨Nat.le_refl _, Nat.le_refl _⟩ ⟨Nat.le_refl _, Nat.le_refl _⟩ dd_X9_most_24 rfl (fun M2 h => ?_)
      refine hb_iconst (q := 28) (v := 0) hc dd_X9_most_27 rfl ic_0 ?_
      refine hb_istore_n (q := 29) (lv' := [some (.ref 42), some (.int v1), some (.int 0), none, none, none]) hc dd_X9_most_28 rfl (Nat.le_of_ble_eq_true rfl) rfl ?_
      refine hb_iconst (q := 30) (v := 1) hc dd_X9_most_29 rfl ic_1 ?_
      refine hb_istore_n (q := 31) (lv' := [some (.ref 42), some (.int v1), some (.int 0), some (.int 1), none, none]) hc dd_X9_most_30 rfl (Nat.le_of_ble_eq_true rfl) rfl ?_
      exact hb_weak (lvs (lvn (lvs (lvs (lvn (lvn lvz)))))) (h p l e s m args below meth c G hc)
    · replace h := h.2 z
      refine hb_iconst (q := 20) (v := 1) hc dd_X9_most_19 rfl ic_1 ?_
      refine hb_goto (tg := 24) hc dd_X9_most_20 (by decide) ?_
      refine hb_callVv (q := 27) (vs := [.int 1]) (st := []) hc mv_X9_242 h sh42 sl42 rfl rfl rfl (Nat.le_of_ble_eq_true rfl) ⟨Nat.le_refl _, Nat.le_refl _⟩ ⟨Nat.le_refl _, Nat.le_refl _⟩ dd_X9_most_24 rfl (fun M3 h => ?_)
      refine hb_iconst (q := 28) (v := 0) hc dd_X9_most_27 rfl ic_0 ?_
      refine hb_istore_n (q := 29) (lv' := [some (.ref 42), some (.int v1), some (.int 0), none, none, none]) hc dd_X9_most_28 rfl (Nat.le_of_ble_eq_true rfl) rfl ?_
      refine hb_iconst (q := 30) (v := 1) hc dd_X9_most_29 rfl ic_1 ?_
      refine hb_istore_n (q := 31) (lv' := [some (.ref 42), some (.int v1), some (.int 0), some (.int 1), none, none]) hc dd_X9_most_30 rfl (Nat.le_of_ble_eq_true rfl) rfl ?_
      exact hb_weak (lvs (lvn (lvs (lvs (lvn (lvn lvz)))))) (h p l e s m args below meth c G hc)
  · replace h := h.2 z
    refine hb_bipush (q := 12) (v := (-3)) hc dd_X9_most_10 rfl bp_m3 ?_
    exact hb_iret hc rfl dd_X9_most_12 h
