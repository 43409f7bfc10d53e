/-! WALKS, by program (wip/whole/gen6.py). -/
def lp_X9_apart_21 (d : Nat) (M : Mm) (v1 : Int32) (v2 : Int32) (v3 : Int32) (K : Int32 → Mm → Prop) : Prop := AW (d + 1) X9_apart M 21 [some (.ref 42), some (.int v1), some (.int v2), some (.int v3)] [] (QI K)
theorem z_X9_apart_21 {d : Nat} {M : Mm} {v1 : Int32} {v2 : Int32} {v3 : Int32} {K : Int32 → Mm → Prop}  (h : ((M.1 42 1) < v3 → (K (-1) M)) ∧ (¬ (M.1 42 1) < v3 → (ACi d X9_areLike [.ref 42, .int v1, .int v2, .int v3, .int 0] M (fun r1 M1 => (¬ r1 = 0 → (lp_X9_apart_21 d M1 v1 v2 (v3 + 1) K)) ∧ (r1 = 0 → (K v3 M1)))))) : lp_X9_apart_21 d M v1 v2 v3 K := by
  intro p l e s m args below meth c G hc
  refine hb_iload_n (q := 22) hc dd_X9_apart_21 rfl rfl ?_
  refine hb_aload_n (q := 23) hc dd_X9_apart_22 rfl rfl ?_
  refine hb_getI (q := 26) (v := M.1 42 1) hc fl_X9_86 sh42 sl42 rfl rfl dd_X9_apart_23 rfl ?_
  refine hb_icmp_gt (q := 29) (tg := 48) hc dd_X9_apart_26 rfl (by decide) (fun z => ?_) (fun z => ?_)
  · replace h := h.1 z
    refine hb_iconst (q := 49) (v := (-1)) hc dd_X9_apart_48 rfl ic_m1 ?_
    exact hb_iret hc rfl dd_X9_apart_49 h
  · replace h := h.2 z
    refine hb_aload_n (q := 30) hc dd_X9_apart_29 rfl rfl ?_
    refine hb_iload_n (q := 31) hc dd_X9_apart_30 rfl rfl ?_
    refine hb_iload_n (q := 32) hc dd_X9_apart_31 rfl rfl ?_
    refine hb_iload_n (q := 33) hc dd_X9_apart_32 rfl rfl ?_
    refine hb_iconst (q := 34) (v := 0) hc dd_X9_apart_33 rfl ic_0 ?_
    refine hb_callVi (q := 37) (vs := [.int v1, .int v2, .int v3, .int 0]) (st := []) hc mv_X9_214 h sh42 sl42 rfl rfl rfl (Nat.le_of_ble_eq_true rfl) ⟨Nat.le_refl _, Nat.le_refl _⟩ ⟨Nat.le_refl _, Nat.le_refl _⟩ dd_X9_apart_34 rfl (fun r1 M1 h => ?_)
    refine hb_if_ne (q := 40) (tg := 42) hc dd_X9_apart_37 rfl (by decide) (fun z => ?_) (fun z => ?_)
    · replace h := h.1 z
      refine hb_iinc (q := 45) (v := v3 + 1) (lv' := [some (.ref 42), some (.int v1), some (.int v2), some (.int (v3 + 1))]) hc dd_X9_apart_42 rfl rfl rfl (Nat.le_of_ble_eq_true rfl) rfl ?_
      refine hb_goto (tg := 21) hc dd_X9_apart_45 (by decide) ?_
      exact hb_weak (lvs (lvs (lvs (lvs lvz)))) (h p l e s m args below meth c G hc)
    · replace h := h.2 z
      refine hb_iload_n (q := 41) hc dd_X9_apart_40 rfl rfl ?_
      exact hb_iret hc rfl dd_X9_apart_41 h
theorem w_X9_apart {d : Nat} {M : Mm} {v1 : Int32} {v2 : Int32} {K : Int32 → Mm → Prop}  (h : ACi d X9_isRhythm [.ref 42, .int v1] M (fun r1 M1 => (r1 = 0 → (K (-2) M1)) ∧ (¬ r1 = 0 → (ACi d X9_isRhythm [.ref 42, .int v2] M1 (fun r2 M2 => (¬ r2 = 0 → (lp_X9_apart_21 d M2 v1 v2 1 K)) ∧ (r2 = 0 → (K (-2) M2))))))) : ACi (d + 1) X9_apart [.ref 42, .int v1, .int v2] M K := by
  refine AC.ofW (lv := [some (.ref 42), some (.int v1), some (.int v2), none]) pn_X9 (Nat.le_of_ble_eq_true rfl) (show lvLe _ [some (.ref 42), some (.int v1), some (.int v2)] from (lvs (lvs (lvs (lve lvz))))) ?_
  intro p l e s m args below meth c G hc
  refine hb_aload_n (q := 1) hc dd_X9_apart_0 rfl rfl ?_
  refine hb_iload_n (q := 2) hc dd_X9_apart_1 rfl rfl ?_
  refine hb_callVi (q := 5) (vs := [.int v1]) (st := []) hc mv_X9_198 h sh42 sl42 rfl rfl rfl (Nat.le_of_ble_eq_true rfl) ⟨Nat.le_refl _, Nat.le_refl _⟩ ⟨Nat.le_refl _, Nat.le_refl _⟩ dd_X9_apart_2 rfl (fun r1 M1 h => ?_)
  refine hb_if_eq (q := 8) (tg := 16) hc dd_X9_apart_5 rfl (by decide) (fun z => ?_) (fun z => ?_)
  · replace h := h.1 z
    refine hb_bipush (q := 18) (v := (-2)) hc dd_X9_apart_16 rfl bp_m2 ?_
    exact hb_iret hc rfl dd_X9_apart_18 h
  · replace h := h.2 z
    refine hb_aload_n (q := 9) hc dd_X9_apart_8 rfl rfl ?_
    refine hb_iload_n (q := 10) hc dd_X9_apart_9 rfl rfl ?_
    refine hb_callVi (q := 13) (vs := [.int v2]) (st := []) hc mv_X9_198 h sh42 sl42 rfl rfl rfl (Nat.le_of_ble_eq_true rfl) ⟨Nat.le_refl _, Nat.le_refl _⟩ ⟨Nat.le_refl _, Nat.le_refl _⟩ dd_X9_apart_10 rfl (fun r2 M2 h => ?_)
    refine hb_if_ne (q := 16) (tg := 19) hc dd_X9_apart_13 rfl (by decide) (fun z => ?_) (fun z => ?_)
    · replace h := h.1 z
      refine hb_iconst (q := 20) (v := 1) hc dd_X9_apart_19 rfl ic_1 ?_
      refine hb_istore_n (q := 21) (lv' := [some (.ref 42), some (.int v1), some (.int v2), some (.int 1)]) hc dd_X9_apart_20 rfl (Nat.le_of_ble_eq_true rfl) rfl ?_
      exact hb_weak (lvs (lvs (lvs (lvs lvz)))) (h p l e s m args below meth c G hc)
    · replace h := h.2 z
      refine hb_bipush (q := 18) (v := (-2)) hc dd_X9_apart_16 rfl bp_m2 ?_
      exact hb_iret hc rfl dd_X9_apart_18 h
def lp_X9_firstSet_5 (d : Nat) (M : Mm) (v1 : Int32) (v2 : Int64) (v4 : Int32) (K : Int64 → Mm → Prop) : Prop := AW (d + 1) X9_firstSet M 5 [some (.ref 42), some (.int v1), some (.long v2), none, some (.int v4), none] [] (QL K)
def lp_X9_firstSet_60 (d : Nat) (M : Mm) (v1 : Int32) (v2 : Int64) (v4 : Int32) (v5 : Int32) (K : Int64 → Mm → Prop) : Prop := AW (d + 1) X9_firstSet M 60 [some (.ref 42), some (.int v1), some (.long v2), none, some (.int v4), some (.int v5)] [] (QL K)
theorem z_X9_firstSet_5 {d : Nat} {M : Mm} {v1 : Int32} {v2 : Int64} {v4 : Int32} {K : Int64 → Mm → Prop}  (h : ((M.1 42 5) ≤ v4 → (K v2 M)) ∧ (¬ (M.1 42 5) ≤ v4 → (vp_in (6 + v4) 144 ∧ (((M.1 43 ((6 + v4).toNatClampNeg)) = (-1) → (lp_X9_firstSet_5 d M v1 v2 (v4 + 1) K)) ∧ (¬ (M.1 43 ((6 + v4).toNatClampNeg)) = (-1) → (vp_in (0 + v4) 144 ∧ (ACi d X9_in [.long (((M.1 43 ((0 + v4).toNatClampNeg)) - v1).toInt64), .long ((-(M.1 42 3)).toInt64), .long ((M.1 42 3).toInt64)] M (fun r1 M1 => (r1 = 0 → (lp_X9_firstSet_5 d M1 v1 v2 (v4 + 1) K)) ∧ (¬ r1 = 0 → (lp_X9_firstSet_60 d M1 v1 v2 v4 0 K)))))))))) : lp_X9_firstSet_5 d M v1 v2 v4 K := by
  intro p l e s m args below meth c G hc
  refine hb_iload (q := 7) hc dd_X9_firstSet_5 rfl rfl ?_
  refine hb_aload_n (q := 8) hc dd_X9_firstSet_7 rfl rfl ?_
  refine hb_getI (q := 11) (v := M.1 42 5) hc fl_X9_99 sh42 sl42 rfl rfl dd_X9_firstSet_8 rfl ?_
  refine hb_icmp_ge (q := 14) (tg := 94) hc dd_X9_firstSet_11 rfl (by decide) (fun z => ?_) (fun z => ?_)
  · replace h := h.1 z
    refine hb_lload_n (q := 95) hc dd_X9_firstSet_94 rfl rfl ?_
    exact hb_lret hc rfl dd_X9_firstSet_95 h
  · replace h := h.2 z
    refine hb_aload_n (q := 15) hc dd_X9_firstSet_14 rfl rfl ?_
    refine hb_getR (q := 18) hc fl_X9_7 sh42 sl42 rfl dd_X9_firstSet_15 rfl ?_
    refine hb_bipush (q := 20) (v := 6) hc dd_X9_firstSet_18 rfl bp_6 ?_
    refine hb_iload (q := 22) hc dd_X9_firstSet_20 rfl rfl ?_
    refine hb_iadd (q := 23) hc dd_X9_firstSet_22 rfl ?_
    obtain ⟨hi, h⟩ := h
    refine hb_iald (q := 24) (v := M.1 43 ((6 + v4).toNatClampNeg)) hc sh43 sl43 hi rfl rfl dd_X9_firstSet_23 rfl ?_
    refine hb_iconst (q := 25) (v := (-1)) hc dd_X9_firstSet_24 rfl ic_m1 ?_
    refine hb_icmp_eq (q := 28) (tg := 88) hc dd_X9_firstSet_25 rfl (by decide) (fun z => ?_) (fun z => ?_)
    · replace h := h.1 z
      refine hb_iinc (q := 91) (v := v4 + 1) (lv' := [some (.ref 42), some (.int v1), some (.long v2), none, some (.int (v4 + 1)), none]) hc dd_X9_firstSet_88 rfl rfl rfl (Nat.le_of_ble_eq_true rfl) rfl ?_
      refine hb_goto (tg := 5) hc dd_X9_firstSet_91 (by decide) ?_
      exact hb_weak (lvs (lvs (lvs (lvn (lvs (lvn lvz)))))) (h p l e s m args below meth c G hc)
    · replace h := h.2 z
      refine hb_aload_n (q := 29) hc dd_X9_firstSet_28 rfl rfl ?_
      refine hb_getR (q := 32) hc fl_X9_7 sh42 sl42 rfl dd_X9_firstSet_29 rfl ?_
      refine hb_iconst (q := 33) (v := 0) hc dd_X9_firstSet_32 rfl ic_0 ?_
      refine hb_iload (q := 35) hc dd_X9_firstSet_33 rfl rfl ?_
      refine hb_iadd (q := 36) hc dd_X9_firstSet_35 rfl ?_
      obtain ⟨hi, h⟩ := h
      refine hb_iald (q := 37) (v := M.1 43 ((0 + v4).toNatClampNeg)) hc sh43 sl43 hi rfl rfl dd_X9_firstSet_36 rfl ?_
      refine hb_iload_n (q := 38) hc dd_X9_firstSet_37 rfl rfl ?_
      refine hb_isub (q := 39) hc dd_X9_firstSet_38 rfl ?_
      refine hb_i2l (q := 40) hc dd_X9_firstSet_39 rfl ?_
      refine hb_aload_n (q := 41) hc dd_X9_firstSet_40 rfl rfl ?_
      refine hb_getI (q := 44) (v := M.1 42 3) hc fl_X9_93 sh42 sl42 rfl rfl dd_X9_firstSet_41 rfl ?_
      refine hb_ineg (q := 45) hc dd_X9_firstSet_44 rfl ?_
      refine hb_i2l (q := 46) hc dd_X9_firstSet_45 rfl ?_
      refine hb_aload_n (q := 47) hc dd_X9_firstSet_46 rfl rfl ?_
      refine hb_getI (q := 50) (v := M.1 42 3) hc fl_X9_93 sh42 sl42 rfl rfl dd_X9_firstSet_47 rfl ?_
      refine hb_i2l (q := 51) hc dd_X9_firstSet_50 rfl ?_
      refine hb_callSi (q := 54) (vs := [.long (((M.1 43 ((0 + v4).toNatClampNeg)) - v1).toInt64), .long ((-(M.1 42 3)).toInt64), .long ((M.1 42 3).toInt64)]) (st := []) hc mv_X9_104 h rfl rfl (Nat.le_of_ble_eq_true rfl) ⟨Nat.le_refl _, Nat.le_refl _⟩ ⟨Nat.le_refl _, Nat.le_refl _⟩ dd_X9_firstSet_51 rfl (fun r1 M1 h => ?_)
      refine hb_if_eq (q := 57) (tg := 88) hc dd_X9_firstSet_54 rfl (by decide) (fun z => ?_) (fun z => ?_)
      · replace h := h.1 z
        refine hb_iinc (q := 91) (v := v4 + 1) (lv' := [some (.ref 42), some (.int v1), some (.long v2), none, some (.int (v4 + 1)), none]) hc dd_X9_firstSet_88 rfl rfl rfl (Nat.le_of_ble_eq_true rfl) rfl ?_
        refine hb_goto (tg := 5) hc dd_X9_firstSet_91 (by decide) ?_
        exact hb_weak (lvs (lvs (lvs (lvn (lvs (lvn lvz)))))) (h p l e s m args below meth c G hc)
      · replace h := h.2 z
        refine hb_iconst (q := 58) (v := 0) hc dd_X9_firstSet_57 rfl ic_0 ?_
        refine hb_istore (q := 60) (lv' := [some (.ref 42), some (.int v1), some (.long v2), none, some (.int v4), some (.int 0)]) hc dd_X9_firstSet_58 rfl (Nat.le_of_ble_eq_true rfl) rfl ?_
        exact hb_weak (lvs (lvs (lvs (lvn (lvs (lvs lvz)))))) (h p l e s m args below meth c G hc)
theorem z_X9_firstSet_60 {d : Nat} {M : Mm} {v1 : Int32} {v2 : Int64} {v4 : Int32} {v5 : Int32} {K : Int64 → Mm → Prop}  (h : ((M.1 42 1) ≤ v5 → (lp_X9_firstSet_5 d M v1 v2 (v4 + 1) K)) ∧ (¬ (M.1 42 1) ≤ v5 → (lp_X9_firstSet_60 d M v1 (v2 ||| ((1 : Int64) <<< (((8 * v4) + v5).toInt64 &&& 63))) v4 (v5 + 1) K))) : lp_X9_firstSet_60 d M v1 v2 v4 v5 K := by
  intro p l e s m args below meth c G hc
  refine hb_iload (q := 62) hc dd_X9_firstSet_60 rfl rfl ?_
  refine hb_aload_n (q := 63) hc dd_X9_firstSet_62 rfl rfl ?_
  refine hb_getI (q := 66) (v := M.1 42 1) hc fl_X9_86 sh42 sl42 rfl rfl dd_X9_firstSet_63 rfl ?_
  refine hb_icmp_ge (q := 69) (tg := 88) hc dd_X9_firstSet_66 rfl (by decide) (fun z => ?_) (fun z => ?_)
  · replace h := h.1 z
    refine hb_iinc (q := 91) (v := v4 + 1) (lv' := [some (.ref 42), some (.int v1), some (.long v2), none, some (.int (v4 + 1)), some (.int v5)]) hc dd_X9_firstSet_88 rfl rfl rfl (Nat.le_of_ble_eq_true rfl) rfl ?_
    refine hb_goto (tg := 5) hc dd_X9_firstSet_91 (by decide) ?_
    exact hb_weak (lvs (lvs (lvs (lvn (lvs (lvn lvz)))))) (h p l e s m args below meth c G hc)
  · replace h := h.2 z
    refine hb_lload_n (q := 70) hc dd_X9_firstSet_69 rfl rfl ?_
    refine hb_lconst (q := 71) (v := 1) hc dd_X9_firstSet_70 rfl lc_1 ?_
    refine hb_bipush (q := 73) (v := 8) hc dd_X9_firstSet_71 rfl bp_8 ?_
    refine hb_iload (q := 75) hc dd_X9_firstSet_73 rfl rfl ?_
    refine hb_imul (q := 76) hc dd_X9_firstSet_75 rfl ?_
    refine hb_iload (q := 78) hc dd_X9_firstSet_76 rfl rfl ?_
    refine hb_iadd (q := 79) hc dd_X9_firstSet_78 rfl ?_
    refine hb_lshl (q := 80) hc dd_X9_firstSet_79 rfl ?_
    refine hb_lor (q := 81) hc dd_X9_firstSet_80 rfl ?_
    refine hb_lstore_n (q := 82) (lv' := [some (.ref 42), some (.int v1), some (.long (v2 ||| ((1 : Int64) <<< (((8 * v4) + v5).toInt64 &&& 63)))), none, some (.int v4), some (.int v5)]) hc dd_X9_firstSet_81 rfl (Nat.le_of_ble_eq_true rfl) rfl ?_
    refine hb_iinc (q := 85) (v := v5 + 1) (lv' := [some (.ref 42), some (.int v1), some (.long (v2 ||| ((1 : Int64) <<< (((8 * v4) + v5).toInt64 &&& 63)))), none, some (.int v4), some (.int (v5 + 1))]) hc dd_X9_firstSet_82 rfl rfl rfl (Nat.le_of_ble_eq_true rfl) rfl ?_
    refine hb_goto (tg := 60) hc dd_X9_firstSet_85 (by decide) ?_
    exact hb_weak (lvs (lvs (lvs (lvn (lvs (lvs lvz)))))) (h p l e s m args below meth c G hc)
theorem w_X9_firstSet {d : Nat} {M : Mm} {v1 : Int32} {K : Int64 → Mm → Prop}  (h : lp_X9_firstSet_5 d M v1 0 0 K) : ACl (d + 1) X9_firstSet [.ref 42, .int v1] M K := by
  refine AC.ofW (lv := [some (.ref 42), some (.int v1), none, none, none, none]) pn_X9 (Nat.le_of_ble_eq_true rfl) (show lvLe _ [some (.ref 42), some (.int v1)] from (lvs (lvs (lve (lve (lve (lve lvz))))))) ?_
  intro p l e s m args below meth c G hc
  refine hb_lconst (q := 1) (v := 0) hc dd_X9_firstSet_0 rfl lc_0 ?_
  refine hb_lstore_n (q := 2) (lv' := [some (.ref 42), some (.int v1), some (.long 0), none, none, none]) hc dd_X9_firstSet_1 rfl (Nat.le_of_ble_eq_true rfl) rfl ?_
  refine hb_iconst (q := 3) (v := 0) hc dd_X9_firstSet_2 rfl ic_0 ?_
  refine hb_istore (q := 5) (lv' := [some (.ref 42), some (.int v1), some (.long 0), none, some (.int 0), none]) hc dd_X9_firstSet_3 rfl (Nat.le_of_ble_eq_true rfl) rfl ?_
  exact hb_weak (lvs (lvs (lvs (lvn (lvs (lvn lvz)))))) (h p l e s m args below meth c G hc)
def lp_X9_becomes_6 (d : Nat) (M : Mm) (v1 : Int64) (v3 : Int32) (v4 : Int64) (v6 : Int32) (K : Int64 → Mm → Prop) : Prop := AW (d + 1) X9_becomes M 6 [some (.ref 42), some (.long v1), none, some (.int v3), some (.long v4), none, some (.int v6), none, none] [] (QL K)
theorem z_X9_becomes_6 {d : Nat} {M : Mm} {v1 : Int64} {v3 : Int32} {v4 : Int64} {v6 : Int32} {K : Int64 → Mm → Prop}  (h : (48 ≤ v6 → (K v4 M)) ∧ (¬ 48 ≤ v6 → ((¬ (lg_cmp ((v1 >>> (v6.toInt64 &&& 63)) &&& 1) 1) = 0 → (lp_X9_becomes_6 d M v1 v3 v4 (v6 + 1) K)) ∧ ((lg_cmp ((v1 >>> (v6.toInt64 &&& 63)) &&& 1) 1) = 0 → (vp_in (6 + (v6 / 8)) 144 ∧ (ACi d X9_beatOf [.ref 42, .int (M.1 43 ((6 + (v6 / 8)).toNatClampNeg)), .int (v6 - v6 / 8 * 8)] M (fun r1 M1 => (¬ r1 = v3 → (lp_X9_becomes_6 d M1 v1 v3 v4 (v6 + 1) K)) ∧ (r1 = v3 → (¬ (M1.1 42 1) = 0 ∧ (lp_X9_becomes_6 d M1 v1 v3 (v4 ||| ((1 : Int64) <<< (((8 * (v6 / 8)) + (((v6 - v6 / 8 * 8) + 1) - ((v6 - v6 / 8 * 8) + 1) / (M1.1 42 1) * (M1.1 42 1))).toInt64 &&& 63))) (v6 + 1) K)))))))))) : lp_X9_becomes_6 d M v1 v3 v4 v6 K := by
  intro p l e s m args below meth c G hc
  refine hb_iload (q := 8) hc dd_X9_becomes_6 rfl rfl ?_
  refine hb_bipush (q := 10) (v := 48) hc dd_X9_becomes_8 rfl bp_48 ?_
  refine hb_icmp_ge (q := 13) (tg := 86) hc dd_X9_becomes_10 rfl (by decide) (fun z => ?_) (fun z => ?_)
  · replace h := h.1 z
    refine hb_lload (q := 88) hc dd_X9_becomes_86 rfl rfl ?_
    exact hb_lret hc rfl dd_X9_becomes_88 h
  · replace h := h.2 z
    refine hb_iload (q := 15) hc dd_X9_becomes_13 rfl rfl ?_
    refine hb_bipush (q := 17) (v := 8) hc dd_X9_becomes_15 rfl bp_8 ?_
    refine hb_idiv (q := 18) hc dd_X9_becomes_17 rfl (by decide) ?_
    refine hb_istore (q := 20) (lv' := [some (.ref 42), some (.long v1), none, some (.int v3), some (.long v4), none, some (.int v6), some (.int (v6 / 8)), none]) hc dd_X9_becomes_18 rfl (Nat.le_of_ble_eq_true rfl) rfl ?_
    refine hb_iload (q := 22) hc dd_X9_becomes_20 rfl rfl ?_
    refine hb_bipush (q := 24) (v := 8) hc dd_X9_becomes_22 rfl bp_8 ?_
    refine hb_irem (q := 25) hc dd_X9_becomes_24 rfl (by decide) ?_
    refine hb_istore (q := 27) (lv' := [some (.ref 42), some (.long v1), none, some (.int v3), some (.long v4), none, some (.int v6), some (.int (v6 / 8)), some (.int (v6 - v6 / 8 * 8))]) hc dd_X9_becomes_25 rfl (Nat.le_of_ble_eq_true rfl) rfl ?_
    refine hb_lload_n (q := 28) hc dd_X9_becomes_27 rfl rfl ?_
    refine hb_iload (q := 30) hc dd_X9_becomes_28 rfl rfl ?_
    refine hb_lshr (q := 31) hc dd_X9_becomes_30 rfl ?_
    refine hb_lconst (q := 32) (v := 1) hc dd_X9_becomes_31 rfl lc_1 ?_
    refine hb_land (q := 33) hc dd_X9_becomes_32 rfl ?_
    refine hb_lconst (q := 34) (v := 1) hc dd_X9_becomes_33 rfl lc_1 ?_
    refine hb_lcmp (q := 35) hc dd_X9_becomes_34 rfl ?_
    refine hb_if_ne (q := 38) (tg := 80) hc dd_X9_becomes_35 rfl (by decide) (fun z => ?_) (fun z => ?_)
    · replace h := h.1 z
      refine hb_iinc (q := 83) (v := v6 + 1) (lv' := [some (.ref 42), some (.long v1), none, some (.int v3), some (.long v4), none, some (.int (v6 + 1)), some (.int (v6 / 8)), some (.int (v6 - v6 / 8 * 8))]) hc dd_X9_becomes_80 rfl rfl rfl (Nat.le_of_ble_eq_true rfl) rfl ?_
      refine hb_goto (tg := 6) hc dd_X9_becomes_83 (by decide) ?_
      exact hb_weak (lvs (lvs (lvn (lvs (lvs (lvn (lvs (lvn (lvn lvz))))))))) (h p l e s m args below meth c G hc)
    · replace h := h.2 z
      refine hb_aload_n (q := 39) hc dd_X9_becomes_38 rfl rfl ?_
      refine hb_aload_n (q := 40) hc dd_X9_becomes_39 rfl rfl ?_
      refine hb_getR (q := 43) hc fl_X9_7 sh42 sl42 rfl dd_X9_becomes_40 rfl ?_
      refine hb_bipush (q := 45) (v := 6) hc dd_X9_becomes_43 rfl bp_6 ?_
      refine hb_iload (q := 47) hc dd_X9_becomes_45 rfl rfl ?_
      refine hb_iadd (q := 48) hc dd_X9_becomes_47 rfl ?_
      obtain ⟨hi, h⟩ := h
      refine hb_iald (q := 49) (v := M.1 43 ((6 + (v6 / 8)).toNatClampNeg)) hc sh43 sl43 hi rfl rfl dd_X9_becomes_48 rfl ?_
      refine hb_iload (q := 51) hc dd_X9_becomes_49 rfl rfl ?_
      refine hb_callVi (q := 54) (vs := [.int (M.1 43 ((6 + (v6 / 8)).toNatClampNeg)), .int (v6 - v6 / 8 * 8)]) (st := []) hc mv_X9_186 h sh42 sl42 rfl rfl rfl (Nat.le_of_ble_eq_true rfl) ⟨Nat.le_refl _, Nat.le_refl _⟩ ⟨Nat.le_refl _, Nat.le_refl _⟩ dd_X9_becomes_51 rfl (fun r1 M1 h => ?_)
      refine hb_iload_n (q := 55) hc dd_X9_becomes_54 rfl rfl ?_
      refine hb_icmp_ne (q := 58) (tg := 80) hc dd_X9_becomes_55 rfl (by decide) (fun z => ?_) (fun z => ?_)
      · replace h := h.1 z
        refine hb_iinc (q := 83) (v := v6 + 1) (lv' := [some (.ref 42), some (.long v1), none, some (.int v3), some (.long v4), none, some (.int (v6 + 1)), some (.int (v6 / 8)), some (.int (v6 - v6 / 8 * 8))]) hc dd_X9_becomes_80 rfl rfl rfl (Nat.le_of_ble_eq_true rfl) rfl ?_
        refine hb_goto (tg := 6) hc dd_X9_becomes_83 (by decide) ?_
        exact hb_weak (lvs (lvs (lvn (lvs (lvs (lvn (lvs (lvn (lvn lvz))))))))) (h p l e s m args below meth c G hc)
      · replace h := h.2 z
        refine hb_lload (q := 60) hc dd_X9_becomes_58 rfl rfl ?_
        refine hb_lconst (q := 61) (v := 1) hc dd_X9_becomes_60 rfl lc_1 ?_
        refine hb_bipush (q := 63) (v := 8) hc dd_X9_becomes_61 rfl bp_8 ?_
        refine hb_iload (q := 65) hc dd_X9_becomes_63 rfl rfl ?_
        refine hb_imul (q := 66) hc dd_X9_becomes_65 rfl ?_
        refine hb_iload (q := 68) hc dd_X9_becomes_66 rfl rfl ?_
        refine hb_iconst (q := 69) (v := 1) hc dd_X9_becomes_68 rfl ic_1 ?_
        refine hb_iadd (q := 70) hc dd_X9_becomes_69 rfl ?_
        refine hb_aload_n (q := 71) hc dd_X9_becomes_70 rfl rfl ?_
        refine hb_getI (q := 74) (v := M1.1 42 1) hc fl_X9_86 sh42 sl42 rfl rfl dd_X9_becomes_71 rfl ?_
        obtain ⟨hn, h⟩ := h
        refine hb_irem (q := 75) hc dd_X9_becomes_74 rfl hn ?_
        refine hb_iadd (q := 76) hc dd_X9_becomes_75 rfl ?_
        refine hb_lshl (q := 77) hc dd_X9_becomes_76 rfl ?_
        refine hb_lor (q := 78) hc dd_X9_becomes_77 rfl ?_
        refine hb_lstore (q := 80) (lv' := [some (.ref 42), some (.long v1), none, some (.int v3), some (.long (v4 ||| ((1 : Int64) <<< (((8 * (v6 / 8)) + (((v6 - v6 / 8 * 8) + 1) - ((v6 - v6 / 8 * 8) + 1) / (M1.1 42 1) * (M1.1 42 1))).toInt64 &&& 63)))), none, some (.int v6), some (.int (v6 / 8)), some (.int (v6 - v6 / 8 * 8))]) hc dd_X9_becomes_78 rfl (Nat.le_of_ble_eq_true rfl) rfl ?_
        refine hb_iinc (q := 83) (v := v6 + 1) (lv' := [some (.ref 42), some (.long v1), none, some (.int v3), some (.long (v4 ||| ((1 : Int64) <<< (((8 * (v6 / 8)) + (((v6 - v6 / 8 * 8) + 1) - ((v6 - v6 / 8 * 8) + 1) / (M1.1 42 1) * (M1.1 42 1))).toInt64 &&& 63)))), none, some (.int (v6 + 1)), some (.int (v6 / 8)), some (.int (v6 - v6 / 8 * 8))]) hc dd_X9_becomes_80 rfl rfl rfl (Nat.le_of_ble_eq_true rfl) rfl ?_
        refine hb_goto (tg := 6) hc dd_X9_becomes_83 (by decide) ?_
        exact hb_weak (lvs (lvs (lvn (lvs (lvs (lvn (lvs (lvn (lvn lvz))))))))) (h p l e s m args below meth c G hc)
theorem w_X9_becomes {d : Nat} {M : Mm} {v1 : Int64} {v3 : Int32} {K : Int64 → Mm → Prop}  (h : lp_X9_becomes_6 d M v1 v3 0 0 K) : ACl (d + 1) X9_becomes [.ref 42, .long v1, .int v3] M K := by
  refine AC.ofW (lv := [some (.ref 42), some (.long v1), none, some (.int v3), none, none, none, none, none]) pn_X9 (Nat.le_of_ble_eq_true rfl) (show lvLe _ [some (.ref 42), some (.long v1), none, some (.int v3)] from (lvs (lvs (lvn (lvs (lve (lve (lve (lve (lve lvz)))))))))) ?_
  intro p l e s m args below meth c G hc
  refine hb_lconst (q := 1) (v := 0) hc dd_X9_becomes_0 rfl lc_0 ?_
  refine hb_lstore (q := 3) (lv' := [some (.ref 42), some (.long v1), none, some (.int v3), some (.long 0), none, none, none, none]) hc dd_X9_becomes_1 rfl (Nat.le_of_ble_eq_true rfl) rfl ?_
  refine hb_iconst (q := 4) (v := 0) hc dd_X9_becomes_3 rfl ic_0 ?_
  refine hb_istore (q := 6) (lv' := [some (.ref 42), some (.long v1), none, some (.int v3), some (.long 0), none, some (.int 0), none, none]) hc dd_X9_becomes_4 rfl (Nat.le_of_ble_eq_true rfl) rfl ?_
  exact hb_weak (lvs (lvs (lvn (lvs (lvs (lvn (lvs (lvn (lvn lvz))))))))) (h p l e s m args below meth c G hc)
def lp_X9_statesOf_30 (d : Nat) (M : Mm) (v2 : Int32) (v3 : Int32) (K : Int32 → Mm → Prop) : Prop := AW (d + 1) X9_statesOf M 30 [some (.ref 42), none, some (.int v2), some (.int v3), none, none, none, none, none] [] (QI K)
def lp_X9_statesOf_38 (d : Nat) (M : Mm) (v2 : Int32) (v3 : Int32) (v4 : Int32) (K : Int32 → Mm → Prop) : Prop := AW (d + 1) X9_statesOf M 38 [some (.ref 42), none, some (.int v2), some (.int v3), some (.int v4), none, none, none, none] [] (QI K)
def lp_X9_statesOf_75 (d : Nat) (M : Mm) (v2 : Int32) (v3 : Int32) (v4 : Int32) (v5 : Int64) (v7 : Int32) (v8 : Int32) (K : Int32 → Mm → Prop) : Prop := AW (d + 1) X9_statesOf M 75 [some (.ref 42), none, some (.int v2), some (.int v3), some (.int v4), some (.long v5), none, some (.int v7), some (.int v8)] [] (QI K)
theorem z_X9_statesOf_30 {d : Nat} {M : Mm} {v2 : Int32} {v3 : Int32} {K : Int32 → Mm → Prop}  (h : (v2 ≤ v3 → (K v2 M)) ∧ (¬ v2 ≤ v3 → (lp_X9_statesOf_38 d M v2 v3 0 K))) : lp_X9_statesOf_30 d M v2 v3 K := by
  intro p l e s m args below meth c G hc
  refine hb_iload_n (q := 31) hc dd_X9_statesOf_30 rfl rfl ?_
  refine hb_iload_n (q := 32) hc dd_X9_statesOf_31 rfl rfl ?_
  refine hb_icmp_ge (q := 35) (tg := 140) hc dd_X9_statesOf_32 rfl (by decide) (fun z => ?_) (fun z => ?_)
  · replace h := h.1 z
    refine hb_iload_n (q := 141) hc dd_X9_statesOf_140 rfl rfl ?_
    exact hb_iret hc rfl dd_X9_statesOf_141 h
  · replace h := h.2 z
    refine hb_iconst (q := 36) (v := 0) hc dd_X9_statesOf_35 rfl ic_0 ?_
    refine hb_istore (q := 38) (lv' := [some (.ref 42), none, some (.int v2), some (.int v3), some (.int 0), none, none, none, none]) hc dd_X9_statesOf_36 rfl (Nat.le_of_ble_eq_true rfl) rfl ?_
    exact hb_weak (lvs (lvn (lvs (lvs (lvs (lvn (lvn (lvn (lvn lvz))))))))) (h p l e s m args below meth c G hc)
theorem z_X9_statesOf_38 {d : Nat} {M : Mm} {v2 : Int32} {v3 : Int32} {v4 : Int32} {K : Int32 → Mm → Prop}  (h : (2 ≤ v4 → (lp_X9_statesOf_30 d M v2 (v3 + 1) K)) ∧ (¬ 2 ≤ v4 → (vp_in v3 640 ∧ (ACl d X9_becomes [.ref 42, .long (M.2 62 v3.toNatClampNeg), .int v4] M (fun r1 M1 => ((lg_cmp r1 0) = 0 → (lp_X9_statesOf_75 d M1 v2 v3 v4 r1 0 0 K)) ∧ (¬ (lg_cmp r1 0) = 0 → (lp_X9_statesOf_75 d M1 v2 v3 v4 r1 1 0 K))))))) : lp_X9_statesOf_38 d M v2 v3 v4 K := by
  intro p l e s m args below meth c G hc
  refine hb_iload (q := 40) hc dd_X9_statesOf_38 rfl rfl ?_
  refine hb_iconst (q := 41) (v := 2) hc dd_X9_statesOf_40 rfl ic_2 ?_
  refine hb_icmp_ge (q := 44) (tg := 134) hc dd_X9_statesOf_41 rfl (by decide) (fun z => ?_) (fun z => ?_)
  · replace h := h.1 z
    refine hb_iinc (q := 137) (v := v3 + 1) (lv' := [some (.ref 42), none, some (.int v2), some (.int (v3 + 1)), some (.int v4), none, none, none, none]) hc dd_X9_statesOf_134 rfl rfl rfl (Nat.le_of_ble_eq_true rfl) rfl ?_
    refine hb_goto (tg := 30) hc dd_X9_statesOf_137 (by decide) ?_
    exact hb_weak (lvs (lvn (lvs (lvs (lvn (lvn (lvn (lvn (lvn lvz))))))))) (h p l e s m args below meth c G hc)
  · replace h := h.2 z
    refine hb_aload_n (q := 45) hc dd_X9_statesOf_44 rfl rfl ?_
    refine hb_aload_n (q := 46) hc dd_X9_statesOf_45 rfl rfl ?_
    refine hb_getR (q := 49) hc fl_X9_68 sh42 sl42 rfl dd_X9_statesOf_46 rfl ?_
    refine hb_iload_n (q := 50) hc dd_X9_statesOf_49 rfl rfl ?_
    obtain ⟨hi, h⟩ := h
    refine hb_lald (q := 51) (v := M.2 62 v3.toNatClampNeg) hc sh62 sl62 hi rfl rfl dd_X9_statesOf_50 rfl ?_
    refine hb_iload (q := 53) hc dd_X9_statesOf_51 rfl rfl ?_
    refine hb_callVl (q := 56) (vs := [.long (M.2 62 v3.toNatClampNeg), .int v4]) (st := []) hc mv_X9_257 h sh42 sl42 rfl rfl rfl (Nat.le_of_ble_eq_true rfl) ⟨Nat.le_refl _, Nat.le_refl _⟩ ⟨Nat.le_refl _, Nat.le_refl _⟩ dd_X9_statesOf_53 rfl (fun r1 M1 h => ?_)
    refine hb_lstore (q := 58) (lv' := [some (.ref 42), none, some (.int v2), some (.int v3), some (.int v4), some (.long r1), none, none, none]) hc dd_X9_statesOf_56 rfl (Nat.le_of_ble_eq_true rfl) rfl ?_
    refine hb_lload (q := 60) hc dd_X9_statesOf_58 rfl rfl ?_
    refine hb_lconst (q := 61) (v := 0) hc dd_X9_statesOf_60 rfl lc_0 ?_
    refine hb_lcmp (q := 62) hc dd_X9_statesOf_61 rfl ?_
    refine hb_if_eq (q := 65) (tg := 69) hc dd_X9_statesOf_62 rfl (by decide) (fun z => ?_) (fun z => ?_)
    · replace h := h.1 z
      refine hb_iconst (q := 70) (v := 0) hc dd_X9_statesOf_69 rfl ic_0 ?_
      refine hb_istore (q := 72) (lv' := [some (.ref 42), none, some (.int v2), some (.int v3), some (.int v4), some (.long r1), none, some (.int 0), none]) hc dd_X9_statesOf_70 rfl (Nat.le_of_ble_eq_true rfl) rfl ?_
      refine hb_iconst (q := 73) (v := 0) hc dd_X9_statesOf_72 rfl ic_0 ?_
      refine hb_istore (q := 75) (lv' := [some (.ref 42), none, some (.int v2), some (.int v3), some (.int v4), some (.long r1), none, some (.int 0), some (.int 0)]) hc dd_X9_statesOf_73 rfl (Nat.le_of_ble_eq_true rfl) rfl ?_
      exact hb_weak (lvs (lvn (lvs (lvs (lvs (lvs (lvn (lvs (lvs lvz))))))))) (h p l e s m args below meth c G hc)
    · replace h := h.2 z
      refine hb_iconst (q := 66) (v := 1) hc dd_X9_statesOf_65 rfl ic_1 ?_
      refine hb_goto (tg := 70) hc dd_X9_statesOf_66 (by decide) ?_
      refine hb_istore (q := 72) (lv' := [some (.ref 42), none, some (.int v2), some (.int v3), some (.int v4), some (.long r1), none, some (.int 1), none]) hc dd_X9_statesOf_70 rfl (Nat.le_of_ble_eq_true rfl) rfl ?_
      refine hb_iconst (q := 73) (v := 0) hc dd_X9_statesOf_72 rfl ic_0 ?_
      refine hb_istore (q := 75) (lv' := [some (.ref 42), none, some (.int v2), some (.int v3), some (.int v4), some (.long r1), none, some (.int 1), some (.int 0)]) hc dd_X9_statesOf_73 rfl (Nat.le_of_ble_eq_true rfl) rfl ?_
      exact hb_weak (lvs (lvn (lvs (lvs (lvs (lvs (lvn (lvs (lvs lvz))))))))) (h p l e s m args below meth c G hc)
theorem z_X9_statesOf_75 {d : Nat} {M : Mm} {v2 : Int32} {v3 : Int32} {v4 : Int32} {v5 : Int64} {v7 : Int32} {v8 : Int32} {K : Int32 → Mm → Prop}  (h : (v2 ≤ v8 → ((v7 = 0 → (lp_X9_statesOf_38 d M v2 v3 (v4 + 1) K)) ∧ (¬ v7 = 0 → (vp_in v2 640 ∧ (lp_X9_statesOf_38 d (wL M 62 v2.toNatClampNeg v5) (v2 + 1) v3 (v4 + 1) K))))) ∧ (¬ v2 ≤ v8 → ((v7 = 0 → ((v7 = 0 → (lp_X9_statesOf_38 d M v2 v3 (v4 + 1) K)) ∧ (¬ v7 = 0 → (vp_in v2 640 ∧ (lp_X9_statesOf_38 d (wL M 62 v2.toNatClampNeg v5) (v2 + 1) v3 (v4 + 1) K))))) ∧ (¬ v7 = 0 → (vp_in v8 640 ∧ (((lg_cmp (M.2 62 v8.toNatClampNeg) v5) = 0 → (lp_X9_statesOf_75 d M v2 v3 v4 v5 0 (v8 + 1) K)) ∧ (¬ (lg_cmp (M.2 62 v8.toNatClampNeg) v5) = 0 → (lp_X9_statesOf_75 d M v2 v3 v4 v5 1 (v8 + 1) K)))))))) : lp_X9_statesOf_75 d M v2 v3 v4 v5 v7 v8 K := by
  intro p l e s m args below meth c G hc
  refine hb_iload (q := 77) hc dd_X9_statesOf_75 rfl rfl ?_
  refine hb_iload_n (q := 78) hc dd_X9_statesOf_77 rfl rfl ?_
  refine hb_icmp_ge (q := 81) (tg := 112) hc dd_X9_statesOf_78 rfl (by decide) (fun z => ?_) (fun z => ?_)
  · replace h := h.1 z
    refine hb_iload (q := 114) hc dd_X9_statesOf_112 rfl rfl ?_
    refine hb_if_eq (q := 117) (tg := 128) hc dd_X9_statesOf_114 rfl (by decide) (fun z => ?_) (fun z => ?_)
    · replace h := h.1 z
      refine hb_iinc (q := 131) (v := v4 + 1) (lv' := [some (.ref 42), none, some (.int v2), some (.int v3), some (.int (v4 + 1)), some (.long v5), none, some (.int v7), some (.int v8)]) hc dd_X9_statesOf_128 rfl rfl rfl (Nat.le_of_ble_eq_true rfl) rfl ?_
      refine hb_goto (tg := 38) hc dd_X9_statesOf_131 (by decide) ?_
      exact hb_weak (lvs (lvn (lvs (lvs (lvs (lvn (lvn (lvn (lvn lvz))))))))) (h p l e s m args below meth c G hc)
    · replace h := h.2 z
      refine hb_aload_n (q := 118) hc dd_X9_statesOf_117 rfl rfl ?_
      refine hb_getR (q := 121) hc fl_X9_68 sh42 sl42 rfl dd_X9_statesOf_118 rfl ?_
      refine hb_iload_n (q := 122) hc dd_X9_statesOf_121 rfl rfl ?_
      refine hb_lload (q := 124) hc dd_X9_statesOf_122 rfl rfl ?_
      obtain ⟨hi, h⟩ := h
      refine hb_last (q := 125) hc sh62 sl62 hi rfl dd_X9_statesOf_124 rfl ?_
      refine hb_iinc (q := 128) (v := v2 + 1) (lv' := [some (.ref 42), none, some (.int (v2 + 1)), some (.int v3), some (.int v4), some (.long v5), none, some (.int v7), some (.int v8)]) hc dd_X9_statesOf_125 rfl rfl rfl (Nat.le_of_ble_eq_true rfl) rfl ?_
      refine hb_iinc (q := 131) (v := v4 + 1) (lv' := [some (.ref 42), none, some (.int (v2 + 1)), some (.int v3), some (.int (v4 + 1)), some (.long v5), none, some (.int v7), some (.int v8)]) hc dd_X9_statesOf_128 rfl rfl rfl (Nat.le_of_ble_eq_true rfl) rfl ?_
      refine hb_goto (tg := 38) hc dd_X9_statesOf_131 (by decide) ?_
      exact hb_weak (lvs (lvn (lvs (lvs (lvs (lvn (lvn (lvn (lvn lvz))))))))) (h p l e s m args below meth c G hc)
  · replace h := h.2 z
    refine hb_iload (q := 83) hc dd_X9_statesOf_81 rfl rfl ?_
    refine hb_if_eq (q := 86) (tg := 112) hc dd_X9_statesOf_83 rfl (by decide) (fun z => ?_) (fun z => ?_)
    · replace h := h.1 z
      refine hb_iload (q := 114) hc dd_X9_statesOf_112 rfl rfl ?_
      refine hb_if_eq (q := 117) (tg := 128) hc dd_X9_statesOf_114 rfl (by decide) (fun z => ?_) (fun z => ?_)
      · replace h := h.1 z
        refine hb_iinc (q := 131) (v := v4 + 1) (lv' := [some (.ref 42), none, some (.int v2), some (.int v3), some (.int (v4 + 1)), some (.long v5), none, some (.int v7), some (.int v8)]) hc dd_X9_statesOf_128 rfl rfl rfl (Nat.le_of_ble_eq_true rfl) rfl ?_
        refine hb_goto (tg := 38) hc dd_X9_statesOf_131 (by decide) ?_
        exact hb_weak (lvs (lvn (lvs (lvs (lvs (lvn (lvn (lvn (lvn lvz))))))))) (h p l e s m args below meth c G hc)
      · replace h := h.2 z
        refine hb_aload_n (q := 118) hc dd_X9_statesOf_117 rfl rfl ?_
        refine hb_getR (q := 121) hc fl_X9_68 sh42 sl42 rfl dd_X9_statesOf_118 rfl ?_
        refine hb_iload_n (q := 122) hc dd_X9_statesOf_121 rfl rfl ?_
        refine hb_lload (q := 124) hc dd_X9_statesOf_122 rfl rfl ?_
        obtain ⟨hi, h⟩ := h
        refine hb_last (q := 125) hc sh62 sl62 hi rfl dd_X9_statesOf_124 rfl ?_
        refine hb_iinc (q := 128) (v := v2 + 1) (lv' := [some (.ref 42), none, some (.int (v2 + 1)), some (.int v3), some (.int v4), some (.long v5), none, some (.int v7), some (.int v8)]) hc dd_X9_statesOf_125 rfl rfl rfl (Nat.le_of_ble_eq_true rfl) rfl ?_
        refine hb_iinc (q := 131) (v := v4 + 1) (lv' := [some (.ref 42), none, some (.int (v2 + 1)), some (.int v3), some (.int (v4 + 1)), some (.long v5), none, some (.int v7), some (.int v8)]) hc dd_X9_statesOf_128 rfl rfl rfl (Nat.le_of_ble_eq_true rfl) rfl ?_
        refine hb_goto (tg := 38) hc dd_X9_statesOf_131 (by decide) ?_
        exact hb_weak (lvs (lvn (lvs (lvs (lvs (lvn (lvn (lvn (lvn lvz))))))))) (h p l e s m args below meth c G hc)
    · replace h := h.2 z
      refine hb_aload_n (q := 87) hc dd_X9_statesOf_86 rfl rfl ?_
      refine hb_getR (q := 90) hc fl_X9_68 sh42 sl42 rfl dd_X9_statesOf_87 rfl ?_
      refine hb_iload (q := 92) hc dd_X9_statesOf_90 rfl rfl ?_
      obtain ⟨hi, h⟩ := h
      refine hb_lald (q := 93) (v := M.2 62 v8.toNatClampNeg) hc sh62 sl62 hi rfl rfl dd_X9_statesOf_92 rfl ?_
      refine hb_lload (q := 95) hc dd_X9_statesOf_93 rfl rfl ?_
      refine hb_lcmp (q := 96) hc dd_X9_statesOf_95 rfl ?_
      refine hb_if_eq (q := 99) (tg := 103) hc dd_X9_statesOf_96 rfl (by decide) (fun z => ?_) (fun z => ?_)
      · replace h := h.1 z
        refine hb_iconst (q := 104) (v := 0) hc dd_X9_statesOf_103 rfl ic_0 ?_
        refine hb_istore (q := 106) (lv' := [some (.ref 42), none, some (.int v2), some (.int v3), some (.int v4), some (.long v5), none, some (.int 0), some (.int v8)]) hc dd_X9_statesOf_104 rfl (Nat.le_of_ble_eq_true rfl) rfl ?_
        refine hb_iinc (q := 109) (v := v8 + 1) (lv' := [some (.ref 42), none, some (.int v2), some (.int v3), some (.int v4), some (.long v5), none, some (.int 0), some (.int (v8 + 1))]) hc dd_X9_statesOf_106 rfl rfl rfl (Nat.le_of_ble_eq_true rfl) rfl ?_
        refine hb_goto (tg := 75) hc dd_X9_statesOf_109 (by decide) ?_
        exact hb_weak (lvs (lvn (lvs (lvs (lvs (lvs (lvn (lvs (lvs lvz))))))))) (h p l e s m args below meth c G hc)
      · replace h := h.2 z
        refine hb_iconst (q := 100) (v := 1) hc dd_X9_statesOf_99 rfl ic_1 ?_
        refine hb_goto (tg := 104) hc dd_X9_statesOf_100 (by decide) ?_
        refine hb_istore (q := 106) (lv' := [some (.ref 42), none, some (.int v2), some (.int v3), some (.int v4), some (.long v5), none, some (.int 1), some (.int v8)]) hc dd_X9_statesOf_104 rfl (Nat.le_of_ble_eq_true rfl) rfl ?_
        refine hb_iinc (q := 109) (v := v8 + 1) (lv' := [some (.ref 42), none, some (.int v2), some (.int v3), some (.int v4), some (.long v5), none, some (.int 1), some (.int (v8 + 1))]) hc dd_X9_statesOf_106 rfl rfl rfl (Nat.le_of_ble_eq_true rfl) rfl ?_
        refine hb_goto (tg := 75) hc dd_X9_statesOf_109 (by decide) ?_
        exact hb_weak (lvs (lvn (lvs (lvs (lvs (lvs (lvn (lvs (lvs lvz))))))))) (h p l e s m args below meth c G hc)
theorem w_X9_statesOf {d : Nat} {M : Mm} {v1 : Int32} {K : Int32 → Mm → Prop}  (h : ACl d X9_firstSet [.ref 42, .int v1] M (fun r1 M1 => (¬ (lg_cmp r1 0) = 0 → (lp_X9_statesOf_30 d (wL M1 62 0 r1) 1 0 K)) ∧ ((lg_cmp r1 0) = 0 → (lp_X9_statesOf_30 d (wL M1 62 0 r1) 0 0 K)))) : ACi (d + 1) X9_statesOf [.ref 42, .int v1] M K := by
  refine AC.ofW (lv := [some (.ref 42), some (.int v1), none, none, none, none, none, none, none]) pn_X9 (Nat.le_of_ble_eq_true rfl) (show lvLe _ [some (.ref 42), some (.int v1)] from (lvs (lvs (lve (lve (lve (lve (lve (lve (lve lvz)))))))))) ?_
  intro p l e s m args below meth c G hc
  refine hb_aload_n (q := 1) hc dd_X9_statesOf_0 rfl rfl ?_
  refine hb_getR (q := 4) hc fl_X9_68 sh42 sl42 rfl dd_X9_statesOf_1 rfl ?_
  refine hb_iconst (q := 5) (v := 0) hc dd_X9_statesOf_4 rfl ic_0 ?_
  refine hb_aload_n (q := 6) hc dd_X9_statesOf_5 rfl rfl ?_
  refine hb_iload_n (q := 7) hc dd_X9_statesOf_6 rfl rfl ?_
  refine hb_callVl (q := 10) (vs := [.int v1]) (st := [.int 0, .ref 62]) hc mv_X9_253 h sh42 sl42 rfl rfl rfl (Nat.le_of_ble_eq_true rfl) ⟨Nat.le_refl _, Nat.le_refl _⟩ ⟨Nat.le_refl _, Nat.le_refl _⟩ dd_X9_statesOf_7 rfl (fun r1 M1 h => ?_)
  refine hb_last (q := 11) (k := 0) hc sh62 sl62 vl_0_640 cl_0 dd_X9_statesOf_10 rfl ?_
  refine hb_aload_n (q := 12) hc dd_X9_statesOf_11 rfl rfl ?_
  refine hb_getR (q := 15) hc fl_X9_68 sh42 sl42 rfl dd_X9_statesOf_12 rfl ?_
  refine hb_iconst (q := 16) (v := 0) hc dd_X9_statesOf_15 rfl ic_0 ?_
  refine hb_lald (q := 17) (k := 0) (v := r1) hc sh62 sl62 vl_0_640 cl_0 rfl dd_X9_statesOf_16 rfl ?_
  refine hb_lconst (q := 18) (v := 0) hc dd_X9_statesOf_17 rfl lc_0 ?_
  refine hb_lcmp (q := 19) hc dd_X9_statesOf_18 rfl ?_
  refine hb_if_ne (q := 22) (tg := 26) hc dd_X9_statesOf_19 rfl (by decide) (fun z => ?_) (fun z => ?_)
  · replace h := h.1 z
    refine hb_iconst (q := 27) (v := 1) hc dd_X9_statesOf_26 rfl ic_1 ?_
    refine hb_istore_n (q := 28) (lv' := [some (.ref 42), some (.int v1), some (.int 1), none, none, none, none, none, none]) hc dd_X9_statesOf_27 rfl (Nat.le_of_ble_eq_true rfl) rfl ?_
    refine hb_iconst (q := 29) (v := 0) hc dd_X9_statesOf_28 rfl ic_0 ?_
    refine hb_istore_n (q := 30) (lv' := [some (.ref 42), some (.int v1), some (.int 1), some (.int 0), none, none, none, none, none]) hc dd_X9_statesOf_29 rfl (Nat.le_of_ble_eq_true rfl) rfl ?_
    exact hb_weak (lvs (lvn (lvs (lvs (lvn (lvn (lvn (lvn (lvn lvz))))))))) (h p l e s m args below meth c G hc)
  · replace h := h.2 z
    refine hb_iconst (q := 23) (v := 0) hc dd_X9_statesOf_22 rfl ic_0 ?_
    refine hb_goto (tg := 27) hc dd_X9_statesOf_23 (by decide) ?_
    refine hb_istore_n (q := 28) (lv' := [some (.ref 42), some (.int v1), some (.int 0), none, none, none, none, none, none]) hc dd_X9_statesOf_27 rfl (Nat.le_of_ble_eq_true rfl) rfl ?_
    refine hb_iconst (q := 29) (v := 0) hc dd_X9_statesOf_28 rfl ic_0 ?_
    refine hb_istore_n (q := 30) (lv' := [some (.ref 42), some (.int v1), some (.int 0), some (.int 0), none, none, none, none, none]) hc dd_X9_statesOf_29 rfl (Nat.le_of_ble_eq_true rfl) rfl ?_
    exact hb_weak (lvs (lvn (lvs (lvs (lvn (lvn (lvn (lvn (lvn lvz))))))))) (h p l e s m args below meth c G hc)
def lp_X9_isOfOne_4 (d : Nat) (M : Mm) (v0 : Int64) (v2 : Int32) (v3 : Int32) (K : Int32 → Mm → Prop) : Prop := AW (d + 1) X9_isOfOne M 4 [some (.long v0), none, some (.int v2), some (.int v3)] [] (QI K)
theorem z_X9_isOfOne_4 {d : Nat} {M : Mm} {v0 : Int64} {v2 : Int32} {v3 : Int32} {K : Int32 → Mm → Prop}  (h : (6 ≤ v3 → ((¬ v2 = 1 → (K 0 M)) ∧ (v2 = 1 → (K 1 M)))) ∧ (¬ 6 ≤ v3 → ((¬ (lg_cmp ((v0 >>> ((8 * v3).toInt64 &&& 63)) &&& 255) 0) = 0 → (lp_X9_isOfOne_4 d M v0 (v2 + 1) (v3 + 1) K)) ∧ ((lg_cmp ((v0 >>> ((8 * v3).toInt64 &&& 63)) &&& 255) 0) = 0 → (lp_X9_isOfOne_4 d M v0 (v2 + 0) (v3 + 1) K))))) : lp_X9_isOfOne_4 d M v0 v2 v3 K := by
  intro p l e s m args below meth c G hc
  refine hb_iload_n (q := 5) hc dd_X9_isOfOne_4 rfl rfl ?_
  refine hb_bipush (q := 7) (v := 6) hc dd_X9_isOfOne_5 rfl bp_6 ?_
  refine hb_icmp_ge (q := 10) (tg := 39) hc dd_X9_isOfOne_7 rfl (by decide) (fun z => ?_) (fun z => ?_)
  · replace h := h.1 z
    refine hb_iload_n (q := 40) hc dd_X9_isOfOne_39 rfl rfl ?_
    refine hb_iconst (q := 41) (v := 1) hc dd_X9_isOfOne_40 rfl ic_1 ?_
    refine hb_icmp_ne (q := 44) (tg := 48) hc dd_X9_isOfOne_41 rfl (by decide) (fun z => ?_) (fun z => ?_)
    · replace h := h.1 z
      refine hb_iconst (q := 49) (v := 0) hc dd_X9_isOfOne_48 rfl ic_0 ?_
      exact hb_zret hc rfl (by decide) dd_X9_isOfOne_49 h
    · replace h := h.2 z
      refine hb_iconst (q := 45) (v := 1) hc dd_X9_isOfOne_44 rfl ic_1 ?_
      refine hb_goto (tg := 49) hc dd_X9_isOfOne_45 (by decide) ?_
      exact hb_zret hc rfl (by decide) dd_X9_isOfOne_49 h
  · replace h := h.2 z
    refine hb_iload_n (q := 11) hc dd_X9_isOfOne_10 rfl rfl ?_
    refine hb_lload_n (q := 12) hc dd_X9_isOfOne_11 rfl rfl ?_
    refine hb_bipush (q := 14) (v := 8) hc dd_X9_isOfOne_12 rfl bp_8 ?_
    refine hb_iload_n (q := 15) hc dd_X9_isOfOne_14 rfl rfl ?_
    refine hb_imul (q := 16) hc dd_X9_isOfOne_15 rfl ?_
    refine hb_lshr (q := 17) hc dd_X9_isOfOne_16 rfl ?_
    refine hb_ldc2 (q := 20) (v := 255) hc dd_X9_isOfOne_17 rfl iw_995 ?_
    refine hb_land (q := 21) hc dd_X9_isOfOne_20 rfl ?_
    refine hb_lconst (q := 22) (v := 0) hc dd_X9_isOfOne_21 rfl lc_0 ?_
    refine hb_lcmp (q := 23) hc dd_X9_isOfOne_22 rfl ?_
    refine hb_if_ne (q := 26) (tg := 30) hc dd_X9_isOfOne_23 rfl (by decide) (fun z => ?_) (fun z => ?_)
    · replace h := h.1 z
      refine hb_iconst (q := 31) (v := 1) hc dd_X9_isOfOne_30 rfl ic_1 ?_
      refine hb_iadd (q := 32) hc dd_X9_isOfOne_31 rfl ?_
      refine hb_istore_n (q := 33) (lv' := [some (.long v0), none, some (.int (v2 + 1)), some (.int v3)]) hc dd_X9_isOfOne_32 rfl (Nat.le_of_ble_eq_true rfl) rfl ?_
      refine hb_iinc (q := 36) (v := v3 + 1) (lv' := [some (.long v0), none, some (.int (v2 + 1)), some (.int (v3 + 1))]) hc dd_X9_isOfOne_33 rfl rfl rfl (Nat.le_of_ble_eq_true rfl) rfl ?_
      refine hb_goto (tg := 4) hc dd_X9_isOfOne_36 (by decide) ?_
      exact hb_weak (lvs (lvn (lvs (lvs lvz)))) (h p l e s m args below meth c G hc)
    · replace h := h.2 z
      refine hb_iconst (q := 27) (v := 0) hc dd_X9_isOfOne_26 rfl ic_0 ?_
      refine hb_goto (tg := 31) hc dd_X9_isOfOne_27 (by decide) ?_
      refine hb_iadd (q := 32) hc dd_X9_isOfOne_31 rfl ?_
      refine hb_istore_n (q := 33) (lv' := [some (.long v0), none, some (.int (v2 + 0)), some (.int v3)]) hc dd_X9_isOfOne_32 rfl (Nat.le_of_ble_eq_true rfl) rfl ?_
      refine hb_iinc (q := 36) (v := v3 + 1) (lv' := [some (.long v0), none, some (.int (v2 + 0)), some (.int (v3 + 1))]) hc dd_X9_isOfOne_33 rfl rfl rfl (Nat.le_of_ble_eq_true rfl) rfl ?_
      refine hb_goto (tg := 4) hc dd_X9_isOfOne_36 (by decide) ?_
      exact hb_weak (lvs (lvn (lvs (lvs lvz)))) (h p l e s m args below meth c G hc)
theorem w_X9_isOfOne {d : Nat} {M : Mm} {v0 : Int64} {K : Int32 → Mm → Prop}  (h : lp_X9_isOfOne_4 d M v0 0 0 K) : ACi (d + 1) X9_isOfOne [.long v0] M K := by
  refine AC.ofW (lv := [some (.long v0), none, none, none]) pn_X9 (Nat.le_of_ble_eq_true rfl) (show lvLe _ [some (.long v0), none] from (lvs (lvn (lve (lve lvz))))) ?_
  intro p l e s m args below meth c G hc
  refine hb_iconst (q := 1) (v := 0) hc dd_X9_isOfOne_0 rfl ic_0 ?_
  refine hb_istore_n (q := 2) (lv' := [some (.long v0), none, some (.int 0), none]) hc dd_X9_isOfOne_1 rfl (Nat.le_of_ble_eq_true rfl) rfl ?_
  refine hb_iconst (q := 3) (v := 0) hc dd_X9_isOfOne_2 rfl ic_0 ?_
  refine hb_istore_n (q := 4) (lv' := [some (.long v0), none, some (.int 0), some (.int 0)]) hc dd_X9_isOfOne_3 rfl (Nat.le_of_ble_eq_true rfl) rfl ?_
  exact hb_weak (lvs (lvn (lvs (lvs lvz)))) (h p l e s m args below meth c G hc)
def lp_X9_namedAt_30 (d : Nat) (M : Mm) (v2 : Int32) (v3 : Int32) (K : Int32 → Mm → Prop) : Prop := AW (d + 1) X9_namedAt M 30 [some (.ref 42), none, some (.int v2), some (.int v3), none, none, none, none, none] [] (QI K)
def lp_X9_namedAt_46 (d : Nat) (M : Mm) (v2 : Int32) (v3 : Int32) (v4 : Int32) (v5 : Int32) (K : Int32 → Mm → Prop) : Prop := AW (d + 1) X9_namedAt M 46 [some (.ref 42), none, some (.int v2), some (.int v3), some (.int v4), some (.int v5), none, none, none] [] (QI K)
def lp_X9_namedAt_96 (d : Nat) (M : Mm) (v2 : Int32) (v3 : Int32) (v5 : Int32) (v6 : Int32) (K : Int32 → Mm → Prop) : Prop := AW (d + 1) X9_namedAt M 96 [some (.ref 42), none, some (.int v2), some (.int v3), none, some (.int v5), some (.int v6), none, none] [] (QI K)
def lp_X9_namedAt_154 (d : Nat) (M : Mm) (v2 : Int32) (v3 : Int32) (v6 : Int32) (K : Int32 → Mm → Prop) : Prop := AW (d + 1) X9_namedAt M 154 [some (.ref 42), none, some (.int v2), some (.int v3), none, none, some (.int v6), none, none] [] (QI K)
theorem z_X9_namedAt_30 {d : Nat} {M : Mm} {v2 : Int32} {v3 : Int32} {K : Int32 → Mm → Prop}  (h : (41 ≤ v3 → (K (-1) M)) ∧ (¬ 41 ≤ v3 → ((v2 ≤ 0 → (K (-1) M)) ∧ (¬ v2 ≤ 0 → (lp_X9_namedAt_46 d M v2 v3 1 0 K))))) : lp_X9_namedAt_30 d M v2 v3 K := by
  intro p l e s m args below meth c G hc
  refine hb_iload_n (q := 31) hc dd_X9_namedAt_30 rfl rfl ?_
  refine hb_bipush (q := 33) (v := 41) hc dd_X9_namedAt_31 rfl bp_41 ?_
  refine hb_icmp_ge (q := 36) (tg := 186) hc dd_X9_namedAt_33 rfl (by decide) (fun z => ?_) (fun z => ?_)
  · replace h := h.1 z
    refine hb_iconst (q := 187) (v := (-1)) hc dd_X9_namedAt_186 rfl ic_m1 ?_
    exact hb_iret hc rfl dd_X9_namedAt_187 h
  · replace h := h.2 z
    refine hb_iload_n (q := 37) hc dd_X9_namedAt_36 rfl rfl ?_
    refine hb_if_le (q := 40) (tg := 186) hc dd_X9_namedAt_37 rfl (by decide) (fun z => ?_) (fun z => ?_)
    · replace h := h.1 z
      refine hb_iconst (q := 187) (v := (-1)) hc dd_X9_namedAt_186 rfl ic_m1 ?_
      exact hb_iret hc rfl dd_X9_namedAt_187 h
    · replace h := h.2 z
      refine hb_iconst (q := 41) (v := 1) hc dd_X9_namedAt_40 rfl ic_1 ?_
      refine hb_istore (q := 43) (lv' := [some (.ref 42), none, some (.int v2), some (.int v3), some (.int 1), none, none, none, none]) hc dd_X9_namedAt_41 rfl (Nat.le_of_ble_eq_true rfl) rfl ?_
      refine hb_iconst (q := 44) (v := 0) hc dd_X9_namedAt_43 rfl ic_0 ?_
      refine hb_istore (q := 46) (lv' := [some (.ref 42), none, some (.int v2), some (.int v3), some (.int 1), some (.int 0), none, none, none]) hc dd_X9_namedAt_44 rfl (Nat.le_of_ble_eq_true rfl) rfl ?_
      exact hb_weak (lvs (lvn (lvs (lvs (lvs (lvs (lvn (lvn (lvn lvz))))))))) (h p l e s m args below meth c G hc)
theorem z_X9_namedAt_46 {d : Nat} {M : Mm} {v2 : Int32} {v3 : Int32} {v4 : Int32} {v5 : Int32} {K : Int32 → Mm → Prop}  (h : (v2 ≤ v5 → ((v4 = 0 → (lp_X9_namedAt_96 d M v2 v3 0 0 K)) ∧ (¬ v4 = 0 → (K v3 M)))) ∧ (¬ v2 ≤ v5 → ((v4 = 0 → (lp_X9_namedAt_46 d M v2 v3 0 (v5 + 1) K)) ∧ (¬ v4 = 0 → (vp_in v5 128 ∧ (ACi d X9_isOfOne [.long (M.2 63 v5.toNatClampNeg)] M (fun r1 M1 => (r1 = 0 → (lp_X9_namedAt_46 d M1 v2 v3 0 (v5 + 1) K)) ∧ (¬ r1 = 0 → (lp_X9_namedAt_46 d M1 v2 v3 1 (v5 + 1) K))))))))) : lp_X9_namedAt_46 d M v2 v3 v4 v5 K := by
  intro p l e s m args below meth c G hc
  refine hb_iload (q := 48) hc dd_X9_namedAt_46 rfl rfl ?_
  refine hb_iload_n (q := 49) hc dd_X9_namedAt_48 rfl rfl ?_
  refine hb_icmp_ge (q := 52) (tg := 83) hc dd_X9_namedAt_49 rfl (by decide) (fun z => ?_) (fun z => ?_)
  · replace h := h.1 z
    refine hb_iload (q := 85) hc dd_X9_namedAt_83 rfl rfl ?_
    refine hb_if_eq (q := 88) (tg := 90) hc dd_X9_namedAt_85 rfl (by decide) (fun z => ?_) (fun z => ?_)
    · replace h := h.1 z
      refine hb_iconst (q := 91) (v := 0) hc dd_X9_namedAt_90 rfl ic_0 ?_
      refine hb_istore (q := 93) (lv' := [some (.ref 42), none, some (.int v2), some (.int v3), some (.int v4), some (.int 0), none, none, none]) hc dd_X9_namedAt_91 rfl (Nat.le_of_ble_eq_true rfl) rfl ?_
      refine hb_iconst (q := 94) (v := 0) hc dd_X9_namedAt_93 rfl ic_0 ?_
      refine hb_istore (q := 96) (lv' := [some (.ref 42), none, some (.int v2), some (.int v3), some (.int v4), some (.int 0), some (.int 0), none, none]) hc dd_X9_namedAt_94 rfl (Nat.le_of_ble_eq_true rfl) rfl ?_
      exact hb_weak (lvs (lvn (lvs (lvs (lvn (lvs (lvs (lvn (lvn lvz))))))))) (h p l e s m args below meth c G hc)
    · replace h := h.2 z
      refine hb_iload_n (q := 89) hc dd_X9_namedAt_88 rfl rfl ?_
      exact hb_iret hc rfl dd_X9_namedAt_89 h
  · replace h := h.2 z
    refine hb_iload (q := 54) hc dd_X9_namedAt_52 rfl rfl ?_
    refine hb_if_eq (q := 57) (tg := 74) hc dd_X9_namedAt_54 rfl (by decide) (fun z => ?_) (fun z => ?_)
    · replace h := h.1 z
      refine hb_iconst (q := 75) (v := 0) hc dd_X9_namedAt_74 rfl ic_0 ?_
      refine hb_istore (q := 77) (lv' := [some (.ref 42), none, some (.int v2), some (.int v3), some (.int 0), some (.int v5), none, none, none]) hc dd_X9_namedAt_75 rfl (Nat.le_of_ble_eq_true rfl) rfl ?_
      refine hb_iinc (q := 80) (v := v5 + 1) (lv' := [some (.ref 42), none, some (.int v2), some (.int v3), some (.int 0), some (.int (v5 + 1)), none, none, none]) hc dd_X9_namedAt_77 rfl rfl rfl (Nat.le_of_ble_eq_true rfl) rfl ?_
      refine hb_goto (tg := 46) hc dd_X9_namedAt_80 (by decide) ?_
      exact hb_weak (lvs (lvn (lvs (lvs (lvs (lvs (lvn (lvn (lvn lvz))))))))) (h p l e s m args below meth c G hc)
    · replace h := h.2 z
      refine hb_aload_n (q := 58) hc dd_X9_namedAt_57 rfl rfl ?_
      refine hb_getR (q := 61) hc fl_X9_72 sh42 sl42 rfl dd_X9_namedAt_58 rfl ?_
      refine hb_iload (q := 63) hc dd_X9_namedAt_61 rfl rfl ?_
      obtain ⟨hi, h⟩ := h
      refine hb_lald (q := 64) (v := M.2 63 v5.toNatClampNeg) hc sh63 sl63 hi rfl rfl dd_X9_namedAt_63 rfl ?_
      refine hb_callSi (q := 67) (vs := [.long (M.2 63 v5.toNatClampNeg)]) (st := []) hc mv_X9_261 h rfl rfl (Nat.le_of_ble_eq_true rfl) ⟨Nat.le_refl _, Nat.le_refl _⟩ ⟨Nat.le_refl _, Nat.le_refl _⟩ dd_X9_namedAt_64 rfl (fun r1 M1 h => ?_)
      refine hb_if_eq (q := 70) (tg := 74) hc dd_X9_namedAt_67 rfl (by decide) (fun z => ?_) (fun z => ?_)
      · replace h := h.1 z
        refine hb_iconst (q := 75) (v := 0) hc dd_X9_namedAt_74 rfl ic_0 ?_
        refine hb_istore (q := 77) (lv' := [some (.ref 42), none, some (.int v2), some (.int v3), some (.int 0), some (.int v5), none, none, none]) hc dd_X9_namedAt_75 rfl (Nat.le_of_ble_eq_true rfl) rfl ?_
        refine hb_iinc (q := 80) (v := v5 + 1) (lv' := [some (.ref 42), none, some (.int v2), some (.int v3), some (.int 0), some (.int (v5 + 1)), none, none, none]) hc dd_X9_namedAt_77 rfl rfl rfl (Nat.le_of_ble_eq_true rfl) rfl ?_
        refine hb_goto (tg := 46) hc dd_X9_namedAt_80 (by decide) ?_
        exact hb_weak (lvs (lvn (lvs (lvs (lvs (lvs (lvn (lvn (lvn lvz))))))))) (h p l e s m args below meth c G hc)
      · replace h := h.2 z
        refine hb_iconst (q := 71) (v := 1) hc dd_X9_namedAt_70 rfl ic_1 ?_
        refine hb_goto (tg := 75) hc dd_X9_namedAt_71 (by decide) ?_
        refine hb_istore (q := 77) (lv' := [some (.ref 42), none, some (.int v2), some (.int v3), some (.int 1), some (.int v5), none, none, none]) hc dd_X9_namedAt_75 rfl (Nat.le_of_ble_eq_true rfl) rfl ?_
        refine hb_iinc (q := 80) (v := v5 + 1) (lv' := [some (.ref 42), none, some (.int v2), some (.int v3), some (.int 1), some (.int (v5 + 1)), none, none, none]) hc dd_X9_namedAt_77 rfl rfl rfl (Nat.le_of_ble_eq_true rfl) rfl ?_
        refine hb_goto (tg := 46) hc dd_X9_namedAt_80 (by decide) ?_
        exact hb_weak (lvs (lvn (lvs (lvs (lvs (lvs (lvn (lvn (lvn lvz))))))))) (h p l e s m args below meth c G hc)
theorem z_X9_namedAt_96 {d : Nat} {M : Mm} {v2 : Int32} {v3 : Int32} {v5 : Int32} {v6 : Int32} {K : Int32 → Mm → Prop}  (h : ((2 * v2) ≤ v6 → (lp_X9_namedAt_154 d M v5 v3 0 K)) ∧ (¬ (2 * v2) ≤ v6 → (vp_in (v6 / 2) 128 ∧ (ACl d X9_becomes [.ref 42, .long (M.2 63 ((v6 / 2).toNatClampNeg)), .int (v6 - v6 / 2 * 2)] M (fun r1 M1 => ((lg_cmp r1 0) = 0 → (lp_X9_namedAt_96 d M1 v2 v3 v5 (v6 + 1) K)) ∧ (¬ (lg_cmp r1 0) = 0 → (vp_in v5 128 ∧ (lp_X9_namedAt_96 d (wL M1 64 v5.toNatClampNeg r1) v2 v3 (v5 + 1) (v6 + 1) K)))))))) : lp_X9_namedAt_96 d M v2 v3 v5 v6 K := by
  intro p l e s m args below meth c G hc
  refine hb_iload (q := 98) hc dd_X9_namedAt_96 rfl rfl ?_
  refine hb_iconst (q := 99) (v := 2) hc dd_X9_namedAt_98 rfl ic_2 ?_
  refine hb_iload_n (q := 100) hc dd_X9_namedAt_99 rfl rfl ?_
  refine hb_imul (q := 101) hc dd_X9_namedAt_100 rfl ?_
  refine hb_icmp_ge (q := 104) (tg := 148) hc dd_X9_namedAt_101 rfl (by decide) (fun z => ?_) (fun z => ?_)
  · replace h := h.1 z
    refine hb_iload (q := 150) hc dd_X9_namedAt_148 rfl rfl ?_
    refine hb_istore_n (q := 151) (lv' := [some (.ref 42), none, some (.int v5), some (.int v3), none, some (.int v5), some (.int v6), none, none]) hc dd_X9_namedAt_150 rfl (Nat.le_of_ble_eq_true rfl) rfl ?_
    refine hb_iconst (q := 152) (v := 0) hc dd_X9_namedAt_151 rfl ic_0 ?_
    refine hb_istore (q := 154) (lv' := [some (.ref 42), none, some (.int v5), some (.int v3), none, some (.int v5), some (.int 0), none, none]) hc dd_X9_namedAt_152 rfl (Nat.le_of_ble_eq_true rfl) rfl ?_
    exact hb_weak (lvs (lvn (lvs (lvs (lvn (lvn (lvs (lvn (lvn lvz))))))))) (h p l e s m args below meth c G hc)
  · replace h := h.2 z
    refine hb_aload_n (q := 105) hc dd_X9_namedAt_104 rfl rfl ?_
    refine hb_aload_n (q := 106) hc dd_X9_namedAt_105 rfl rfl ?_
    refine hb_getR (q := 109) hc fl_X9_72 sh42 sl42 rfl dd_X9_namedAt_106 rfl ?_
    refine hb_iload (q := 111) hc dd_X9_namedAt_109 rfl rfl ?_
    refine hb_iconst (q := 112) (v := 2) hc dd_X9_namedAt_111 rfl ic_2 ?_
    refine hb_idiv (q := 113) hc dd_X9_namedAt_112 rfl (by decide) ?_
    obtain ⟨hi, h⟩ := h
    refine hb_lald (q := 114) (v := M.2 63 ((v6 / 2).toNatClampNeg)) hc sh63 sl63 hi rfl rfl dd_X9_namedAt_113 rfl ?_
    refine hb_iload (q := 116) hc dd_X9_namedAt_114 rfl rfl ?_
    refine hb_iconst (q := 117) (v := 2) hc dd_X9_namedAt_116 rfl ic_2 ?_
    refine hb_irem (q := 118) hc dd_X9_namedAt_117 rfl (by decide) ?_
    refine hb_callVl (q := 121) (vs := [.long (M.2 63 ((v6 / 2).toNatClampNeg)), .int (v6 - v6 / 2 * 2)]) (st := []) hc mv_X9_257 h sh42 sl42 rfl rfl rfl (Nat.le_of_ble_eq_true rfl) ⟨Nat.le_refl _, Nat.le_refl _⟩ ⟨Nat.le_refl _, Nat.le_refl _⟩ dd_X9_namedAt_118 rfl (fun r1 M1 h => ?_)
    refine hb_lstore (q := 123) (lv' := [some (.ref 42), none, some (.int v2), some (.int v3), none, some (.int v5), some (.int v6), some (.long r1), none]) hc dd_X9_namedAt_121 rfl (Nat.le_of_ble_eq_true rfl) rfl ?_
    refine hb_lload (q := 125) hc dd_X9_namedAt_123 rfl rfl ?_
    refine hb_lconst (q := 126) (v := 0) hc dd_X9_namedAt_125 rfl lc_0 ?_
    refine hb_lcmp (q := 127) hc dd_X9_namedAt_126 rfl ?_
    refine hb_if_eq (q := 130) (tg := 142) hc dd_X9_namedAt_127 rfl (by decide) (fun z => ?_) (fun z => ?_)
    · replace h := h.1 z
      refine hb_iinc (q := 145) (v := v6 + 1) (lv' := [some (.ref 42), none, some (.int v2), some (.int v3), none, some (.int v5), some (.int (v6 + 1)), some (.long r1), none]) hc dd_X9_namedAt_142 rfl rfl rfl (Nat.le_of_ble_eq_true rfl) rfl ?_
      refine hb_goto (tg := 96) hc dd_X9_namedAt_145 (by decide) ?_
      exact hb_weak (lvs (lvn (lvs (lvs (lvn (lvs (lvs (lvn (lvn lvz))))))))) (h p l e s m args below meth c G hc)
    · replace h := h.2 z
      refine hb_aload_n (q := 131) hc dd_X9_namedAt_130 rfl rfl ?_
      refine hb_getR (q := 134) hc fl_X9_75 sh42 sl42 rfl dd_X9_namedAt_131 rfl ?_
      refine hb_iload (q := 136) hc dd_X9_namedAt_134 rfl rfl ?_
      refine hb_lload (q := 138) hc dd_X9_namedAt_136 rfl rfl ?_
      obtain ⟨hi, h⟩ := h
      refine hb_last (q := 139) hc sh64 sl64 hi rfl dd_X9_namedAt_138 rfl ?_
      refine hb_iinc (q := 142) (v := v5 + 1) (lv' := [some (.ref 42), none, some (.int v2), some (.int v3), none, some (.int (v5 + 1)), some (.int v6), some (.long r1), none]) hc dd_X9_namedAt_139 rfl rfl rfl (Nat.le_of_ble_eq_true rfl) rfl ?_
      refine hb_iinc (q := 145) (v := v6 + 1) (lv' := [some (.ref 42), none, some (.int v2), some (.int v3), none, some (.int (v5 + 1)), some (.int (v6 + 1)), some (.long r1), none]) hc dd_X9_namedAt_142 rfl rfl rfl (Nat.le_of_ble_eq_true rfl) rfl ?_
      refine hb_goto (tg := 96) hc dd_X9_namedAt_145 (by decide) ?_
      exact hb_weak (lvs (lvn (lvs (lvs (lvn (lvs (lvs (lvn (lvn lvz))))))))) (h p l e s m args below meth c G hc)
theorem z_X9_namedAt_154 {d : Nat} {M : Mm} {v2 : Int32} {v3 : Int32} {v6 : Int32} {K : Int32 → Mm → Prop}  (h : (v2 ≤ v6 → (lp_X9_namedAt_30 d M v2 (v3 + 1) K)) ∧ (¬ v2 ≤ v6 → (vp_in v6 128 ∧ (vp_in v6 128 ∧ (lp_X9_namedAt_154 d (wL M 63 v6.toNatClampNeg (M.2 64 v6.toNatClampNeg)) v2 v3 (v6 + 1) K))))) : lp_X9_namedAt_154 d M v2 v3 v6 K := by
  intro p l e s m args below meth c G hc
  refine hb_iload (q := 156) hc dd_X9_namedAt_154 rfl rfl ?_
  refine hb_iload_n (q := 157) hc dd_X9_namedAt_156 rfl rfl ?_
  refine hb_icmp_ge (q := 160) (tg := 180) hc dd_X9_namedAt_157 rfl (by decide) (fun z => ?_) (fun z => ?_)
  · replace h := h.1 z
    refine hb_iinc (q := 183) (v := v3 + 1) (lv' := [some (.ref 42), none, some (.int v2), some (.int (v3 + 1)), none, none, some (.int v6), none, none]) hc dd_X9_namedAt_180 rfl rfl rfl (Nat.le_of_ble_eq_true rfl) rfl ?_
    refine hb_goto (tg := 30) hc dd_X9_namedAt_183 (by decide) ?_
    exact hb_weak (lvs (lvn (lvs (lvs (lvn (lvn (lvn (lvn (lvn lvz))))))))) (h p l e s m args below meth c G hc)
  · replace h := h.2 z
    refine hb_aload_n (q := 161) hc dd_X9_namedAt_160 rfl rfl ?_
    refine hb_getR (q := 164) hc fl_X9_72 sh42 sl42 rfl dd_X9_namedAt_161 rfl ?_
    refine hb_iload (q := 166) hc dd_X9_namedAt_164 rfl rfl ?_
    refine hb_aload_n (q := 167) hc dd_X9_namedAt_166 rfl rfl ?_
    refine hb_getR (q := 170) hc fl_X9_75 sh42 sl42 rfl dd_X9_namedAt_167 rfl ?_
    refine hb_iload (q := 172) hc dd_X9_namedAt_170 rfl rfl ?_
    obtain ⟨hi, h⟩ := h
    refine hb_lald (q := 173) (v := M.2 64 v6.toNatClampNeg) hc sh64 sl64 hi rfl rfl dd_X9_namedAt_172 rfl ?_
    obtain ⟨hi, h⟩ := h
    refine hb_last (q := 174) hc sh63 sl63 hi rfl dd_X9_namedAt_173 rfl ?_
    refine hb_iinc (q := 177) (v := v6 + 1) (lv' := [some (.ref 42), none, some (.int v2), some (.int v3), none, none, some (.int (v6 + 1)), none, none]) hc dd_X9_namedAt_174 rfl rfl rfl (Nat.le_of_ble_eq_true rfl) rfl ?_
    refine hb_goto (tg := 154) hc dd_X9_namedAt_177 (by decide) ?_
    exact hb_weak (lvs (lvn (lvs (lvs (lvn (lvn (lvs (lvn (lvn lvz))))))))) (h p l e s m args below meth c G hc)
theorem w_X9_namedAt {d : Nat} {M : Mm} {v1 : Int32} {K : Int32 → Mm → Prop}  (h : ACl d X9_firstSet [.ref 42, .int v1] M (fun r1 M1 => (¬ (lg_cmp r1 0) = 0 → (lp_X9_namedAt_30 d (wL M1 63 0 r1) 1 0 K)) ∧ ((lg_cmp r1 0) = 0 → (lp_X9_namedAt_30 d (wL M1 63 0 r1) 0 0 K)))) : ACi (d + 1) X9_namedAt [.ref 42, .int v1] M K := by
  refine AC.ofW (lv := [some (.ref 42), some (.int v1), none, none, none, none, none, none, none]) pn_X9 (Nat.le_of_ble_eq_true rfl) (show lvLe _ [some (.ref 42), some (.int v1)] from (lvs (lvs (lve (lve (lve (lve (lve (lve (lve lvz)))))))))) ?_
  intro p l e s m args below meth c G hc
  refine hb_aload_n (q := 1) hc dd_X9_namedAt_0 rfl rfl ?_
  refine hb_getR (q := 4) hc fl_X9_72 sh42 sl42 rfl dd_X9_namedAt_1 rfl ?_
  refine hb_iconst (q := 5) (v := 0) hc dd_X9_namedAt_4 rfl ic_0 ?_
  refine hb_aload_n (q := 6) hc dd_X9_namedAt_5 rfl rfl ?_
  refine hb_iload_n (q := 7) hc dd_X9_namedAt_6 rfl rfl ?_
  refine hb_callVl (q := 10) (vs := [.int v1]) (st := [.int 0, .ref 63]) hc mv_X9_253 h sh42 sl42 rfl rfl rfl (Nat.le_of_ble_eq_true rfl) ⟨Nat.le_refl _, Nat.le_refl _⟩ ⟨Nat.le_refl _, Nat.le_refl _⟩ dd_X9_namedAt_7 rfl (fun r1 M1 h => ?_)
  refine hb_last (q := 11) (k := 0) hc sh63 sl63 vl_0_128 cl_0 dd_X9_namedAt_10 rfl ?_
  refine hb_aload_n (q := 12) hc dd_X9_namedAt_11 rfl rfl ?_
  refine hb_getR (q := 15) hc fl_X9_72 sh42 sl42 rfl dd_X9_namedAt_12 rfl ?_
  refine hb_iconst (q := 16) (v := 0) hc dd_X9_namedAt_15 rfl ic_0 ?_
  refine hb_lald (q := 17) (k := 0) (v := r1) hc sh63 sl63 vl_0_128 cl_0 rfl dd_X9_namedAt_16 rfl ?_
  refine hb_lconst (q := 18) (v := 0) hc dd_X9_namedAt_17 rfl lc_0 ?_
  refine hb_lcmp (q := 19) hc dd_X9_namedAt_18 rfl ?_
  refine hb_if_ne (q := 22) (tg := 26) hc dd_X9_namedAt_19 rfl (by decide) (fun z => ?_) (fun z => ?_)
  · replace h := h.1 z
    refine hb_iconst (q := 27) (v := 1) hc dd_X9_namedAt_26 rfl ic_1 ?_
    refine hb_istore_n (q := 28) (lv' := [some (.ref 42), some (.int v1), some (.int 1), none, none, none, none, none, none]) hc dd_X9_namedAt_27 rfl (Nat.le_of_ble_eq_true rfl) rfl ?_
    refine hb_iconst (q := 29) (v := 0) hc dd_X9_namedAt_28 rfl ic_0 ?_
    refine hb_istore_n (q := 30) (lv' := [some (.ref 42), some (.int v1), some (.int 1), some (.int 0), none, none, none, none, none]) hc dd_X9_namedAt_29 rfl (Nat.le_of_ble_eq_true rfl) rfl ?_
    exact hb_weak (lvs (lvn (lvs (lvs (lvn (lvn (lvn (lvn (lvn lvz))))))))) (h p l e s m args below meth c G hc)
  · replace h := h.2 z
    refine hb_iconst (q := 23) (v := 0) hc dd_X9_namedAt_22 rfl ic_0 ?_
    refine hb_goto (tg := 27) hc dd_X9_namedAt_23 (by decide) ?_
    refine hb_istore_n (q := 28) (lv' := [some (.ref 42), some (.int v1), some (.int 0), none, none, none, none, none, none]) hc dd_X9_namedAt_27 rfl (Nat.le_of_ble_eq_true rfl) rfl ?_
    refine hb_iconst (q := 29) (v := 0) hc dd_X9_namedAt_28 rfl ic_0 ?_
    refine hb_istore_n (q := 30) (lv' := [some (.ref 42), some (.int v1), some (.int 0), some (.int 0), none, none, none, none, none]) hc dd_X9_namedAt_29 rfl (Nat.le_of_ble_eq_true rfl) rfl ?_
    exact hb_weak (lvs (lvn (lvs (lvs (lvn (lvn (lvn (lvn (lvn lvz))))))))) (h p l e s m args below meth c G hc)
theorem w_X9_machine {d : Nat} {M : Mm} {v1 : Int32} {v2 : Int32} {K : Int32 → Mm → Prop}  (h : ACi d X9_in [.long v1.toInt64, .long 0, .long 99] M (fun r1 M1 => (r1 = 0 → (K (-3) M1)) ∧ (¬ r1 = 0 → (ACi d X9_in [.long v2.toInt64, .long 0, .long 1] M1 (fun r2 M2 => (¬ r2 = 0 → ((¬ v2 = 0 → (ACi d X9_namedAt [.ref 42, .int v1] M2 (fun r3 M3 => K r3 M3))) ∧ (v2 = 0 → (ACi d X9_statesOf [.ref 42, .int v1] M2 (fun r4 M4 => K r4 M4))))) ∧ (r2 = 0 → (K (-3) M2))))))) : ACi (d + 1) X9_machine [.ref 42, .int v1, .int v2] M K := by
  refine AC.ofW (lv := [some (.ref 42), some (.int v1), some (.int v2)]) pn_X9 (Nat.le_of_ble_eq_true rfl) (show lvLe _ [some (.ref 42), some (.int v1), some (.int v2)] from (lvs (lvs (lvs lvz)))) ?_
  intro p l e s m args below meth c G hc
  refine hb_iload_n (q := 1) hc dd_X9_machine_0 rfl rfl ?_
  refine hb_i2l (q := 2) hc dd_X9_machine_1 rfl ?_
  refine hb_lconst (q := 3) (v := 0) hc dd_X9_machine_2 rfl lc_0 ?_
  refine hb_ldc2 (q := 6) (v := 99) hc dd_X9_machine_3 rfl iw_1135 ?_
  refine hb_callSi (q := 9) (vs := [.long v1.toInt64, .long 0, .long 99]) (st := []) hc mv_X9_104 h rfl rfl (Nat.le_of_ble_eq_true rfl) ⟨Nat.le_refl _, Nat.le_refl _⟩ ⟨Nat.le_refl _, Nat.le_refl _⟩ dd_X9_machine_6 rfl (fun r1 M1 h => ?_)
  refine hb_if_eq (q := 12) (tg := 22) hc dd_X9_machine_9 rfl (by decide) (fun z => ?_) (fun z => ?_)
  · replace h := h.1 z
    refine hb_bipush (q := 24) (v := (-3)) hc dd_X9_machine_22 rfl bp_m3 ?_
    refine hb_goto (tg := 44) hc dd_X9_machine_24 (by decide) ?_
    exact hb_iret hc rfl dd_X9_machine_44 h
  · replace h := h.2 z
    refine hb_iload_n (q := 13) hc dd_X9_machine_12 rfl rfl ?_
    refine hb_i2l (q := 14) hc dd_X9_machine_13 rfl ?_
    refine hb_lconst (q := 15) (v := 0) hc dd_X9_machine_14 rfl lc_0 ?_
    refine hb_lconst (q := 16) (v := 1) hc dd_X9_machine_15 rfl lc_1 ?_
    refine hb_callSi (q := 19) (vs := [.long v2.toInt64, .long 0, .long 1]) (st := []) hc mv_X9_104 h rfl rfl (Nat.le_of_ble_eq_true rfl) ⟨Nat.le_refl _, Nat.le_refl _⟩ ⟨Nat.le_refl _, Nat.le_refl _⟩ dd_X9_machine_16 rfl (fun r2 M2 h => ?_)
    refine hb_if_ne (q := 22) (tg := 27) hc dd_X9_machine_19 rfl (by decide) (fun z => ?_) (fun z => ?_)
    · replace h := h.1 z
      refine hb_iload_n (q := 28) hc dd_X9_machine_27 rfl rfl ?_
      refine hb_if_ne (q := 31) (tg := 39) hc dd_X9_machine_28 rfl (by decide) (fun z => ?_) (fun z => ?_)
      · replace h := h.1 z
        refine hb_aload_n (q := 40) hc dd_X9_machine_39 rfl rfl ?_
        refine hb_iload_n (q := 41) hc dd_X9_machine_40 rfl rfl ?_
        refine hb_callVi (q := 44) (vs := [.int v1]) (st := []) hc mv_X9_268 h sh42 sl42 rfl rfl rfl (Nat.le_of_ble_eq_true rfl) ⟨Nat.le_refl _, Nat.le_refl _⟩ ⟨Nat.le_refl _, Nat.le_refl _⟩ dd_X9_machine_41 rfl (fun r3 M3 h => ?_)
        exact hb_iret hc rfl dd_X9_machine_44 h
      · replace h := h.2 z
        refine hb_aload_n (q := 32) hc dd_X9_machine_31 rfl rfl ?_
        refine hb_iload_n (q := 33) hc dd_X9_machine_32 rfl rfl ?_
        refine hb_callVi (q := 36) (vs := [.int v1]) (st := []) hc mv_X9_265 h sh42 sl42 rfl rfl rfl (Nat.le_of_ble_eq_true rfl) ⟨Nat.le_refl _, Nat.le_refl _⟩ ⟨Nat.le_refl _, Nat.le_refl _⟩ dd_X9_machine_33 rfl (fun r4 M4 h => ?_)
        refine hb_goto (tg := 44) hc dd_X9_machine_36 (by decide) ?_
        exact hb_iret hc rfl dd_X9_machine_44 h
    · replace h := h.2 z
      refine hb_bipush (q := 24) (v := (-3)) hc dd_X9_machine_22 rfl bp_m3 ?_
      refine hb_goto (tg := 44) hc dd_X9_machine_24 (by decide) ?_
      exact hb_iret hc rfl dd_X9_machine_44 h
def lp_X9_pairsLeft_4 (d : Nat) (M : Mm) (v1 : Int32) (v2 : Int32) (K : Int32 → Mm → Prop) : Prop := AW (d + 1) X9_pairsLeft M 4 [some (.ref 42), some (.int v1), some (.int v2)] [] (QI K)
theorem z_X9_pairsLeft_4 {d : Nat} {M : Mm} {v1 : Int32} {v2 : Int32} {K : Int32 → Mm → Prop}  (h : (48 ≤ v2 → (K v1 M)) ∧ (¬ 48 ≤ v2 → (((M.1 42 11) = 0 → (lp_X9_pairsLeft_4 d M (v1 + 0) (v2 + 1) K)) ∧ (¬ (M.1 42 11) = 0 → (vp_in v2 48 ∧ (((M.1 47 v2.toNatClampNeg) = 0 → (lp_X9_pairsLeft_4 d M (v1 + 0) (v2 + 1) K)) ∧ (¬ (M.1 47 v2.toNatClampNeg) = 0 → (lp_X9_pairsLeft_4 d M (v1 + 1) (v2 + 1) K)))))))) : lp_X9_pairsLeft_4 d M v1 v2 K := by
  intro p l e s m args below meth c G hc
  refine hb_iload_n (q := 5) hc dd_X9_pairsLeft_4 rfl rfl ?_
  refine hb_bipush (q := 7) (v := 48) hc dd_X9_pairsLeft_5 rfl bp_48 ?_
  refine hb_icmp_ge (q := 10) (tg := 40) hc dd_X9_pairsLeft_7 rfl (by decide) (fun z => ?_) (fun z => ?_)
  · replace h := h.1 z
    refine hb_iload_n (q := 41) hc dd_X9_pairsLeft_40 rfl rfl ?_
    exact hb_iret hc rfl dd_X9_pairsLeft_41 h
  · replace h := h.2 z
    refine hb_iload_n (q := 11) hc dd_X9_pairsLeft_10 rfl rfl ?_
    refine hb_aload_n (q := 12) hc dd_X9_pairsLeft_11 rfl rfl ?_
    refine hb_getI (q := 15) (v := M.1 42 11) hc fl_X9_183 sh42 sl42 rfl rfl dd_X9_pairsLeft_12 rfl ?_
    refine hb_if_eq (q := 18) (tg := 31) hc dd_X9_pairsLeft_15 rfl (by decide) (fun z => ?_) (fun z => ?_)
    · replace h := h.1 z
      refine hb_iconst (q := 32) (v := 0) hc dd_X9_pairsLeft_31 rfl ic_0 ?_
      refine hb_iadd (q := 33) hc dd_X9_pairsLeft_32 rfl ?_
      refine hb_istore_n (q := 34) (lv' := [some (.ref 42), some (.int (v1 + 0)), some (.int v2)]) hc dd_X9_pairsLeft_33 rfl (Nat.le_of_ble_eq_true rfl) rfl ?_
      refine hb_iinc (q := 37) (v := v2 + 1) (lv' := [some (.ref 42), some (.int (v1 + 0)), some (.int (v2 + 1))]) hc dd_X9_pairsLeft_34 rfl rfl rfl (Nat.le_of_ble_eq_true rfl) rfl ?_
      refine hb_goto (tg := 4) hc dd_X9_pairsLeft_37 (by decide) ?_
      exact hb_weak (lvs (lvs (lvs lvz))) (h p l e s m args below meth c G hc)
    · replace h := h.2 z
      refine hb_aload_n (q := 19) hc dd_X9_pairsLeft_18 rfl rfl ?_
      refine hb_getR (q := 22) hc fl_X9_23 sh42 sl42 rfl dd_X9_pairsLeft_19 rfl ?_
      refine hb_iload_n (q := 23) hc dd_X9_pairsLeft_22 rfl rfl ?_
      obtain ⟨hi, h⟩ := h
      refine hb_zald (q := 24) (v := M.1 47 v2.toNatClampNeg) hc sh47 sl47 hi rfl rfl dd_X9_pairsLeft_23 rfl ?_
      refine hb_if_eq (q := 27) (tg := 31) hc dd_X9_pairsLeft_24 rfl (by decide) (fun z => ?_) (fun z => ?_)
      · replace h := h.1 z
        refine hb_iconst (q := 32) (v := 0) hc dd_X9_pairsLeft_31 rfl ic_0 ?_
        refine hb_iadd (q := 33) hc dd_X9_pairsLeft_32 rfl ?_
        refine hb_istore_n (q := 34) (lv' := [some (.ref 42), some (.int (v1 + 0)), some (.int v2)]) hc dd_X9_pairsLeft_33 rfl (Nat.le_of_ble_eq_true rfl) rfl ?_
        refine hb_iinc (q := 37) (v := v2 + 1) (lv' := [some (.ref 42), some (.int (v1 + 0)), some (.int (v2 + 1))]) hc dd_X9_pairsLeft_34 rfl rfl rfl (Nat.le_of_ble_eq_true rfl) rfl ?_
        refine hb_goto (tg := 4) hc dd_X9_pairsLeft_37 (by decide) ?_
        exact hb_weak (lvs (lvs (lvs lvz))) (h p l e s m args below meth c G hc)
      · replace h := h.2 z
        refine hb_iconst (q := 28) (v := 1) hc dd_X9_pairsLeft_27 rfl ic_1 ?_
        refine hb_goto (tg := 32) hc dd_X9_pairsLeft_28 (by decide) ?_
        refine hb_iadd (q := 33) hc dd_X9_pairsLeft_32 rfl ?_
        refine hb_istore_n (q := 34) (lv' := [some (.ref 42), some (.int (v1 + 1)), some (.int v2)]) hc dd_X9_pairsLeft_33 rfl (Nat.le_of_ble_eq_true rfl) rfl ?_
        refine hb_iinc (q := 37) (v := v2 + 1) (lv' := [some (.ref 42), some (.int (v1 + 1)), some (.int (v2 + 1))]) hc dd_X9_pairsLeft_34 rfl rfl rfl (Nat.le_of_ble_eq_true rfl) rfl ?_
        refine hb_goto (tg := 4) hc dd_X9_pairsLeft_37 (by decide) ?_
        exact hb_weak (lvs (lvs (lvs lvz))) (h p l e s m args below meth c G hc)
theorem w_X9_pairsLeft {d : Nat} {M : Mm}  {K : Int32 → Mm → Prop}  (h : lp_X9_pairsLeft_4 d M 0 0 K) : ACi (d + 1) X9_pairsLeft [.ref 42] M K := by
  refine AC.ofW (lv := [some (.ref 42), none, none]) pn_X9 (Nat.le_of_ble_eq_true rfl) (show lvLe _ [some (.ref 42)] from (lvs (lve (lve lvz)))) ?_
  intro p l e s m args below meth c G hc
  refine hb_iconst (q := 1) (v := 0) hc dd_X9_pairsLeft_0 rfl ic_0 ?_
  refine hb_istore_n (q := 2) (lv' := [some (.ref 42), some (.int 0), none]) hc dd_X9_pairsLeft_1 rfl (Nat.le_of_ble_eq_true rfl) rfl ?_
  refine hb_iconst (q := 3) (v := 0) hc dd_X9_pairsLeft_2 rfl ic_0 ?_
  refine hb_istore_n (q := 4) (lv' := [some (.ref 42), some (.int 0), some (.int 0)]) hc dd_X9_pairsLeft_3 rfl (Nat.le_of_ble_eq_true rfl) rfl ?_
  exact hb_weak (lvs (lvs (lvs lvz))) (h p l e s m args below meth c G hc)
def lp_X9_watch_34 (d : Nat) (M : Mm) (v2 : Int32) (v3 : Int64) (v5 : Int32) (K : Int32 → Mm → Prop) : Prop := AW (d + 1) X9_watch M 34 [some (.ref 42), none, some (.int v2), some (.long v3), none, some (.int v5)] [] (QI K)
theorem z_X9_watch_34 {d : Nat} {M : Mm} {v2 : Int32} {v3 : Int64} {v5 : Int32} {K : Int32 → Mm → Prop}  (h : (48 ≤ v5 → ((¬ v2 = 1 → (ACi d X9_pairsLeft [.ref 42] (wI (wI M 42 11 1) 42 12 0) (fun r1 M1 => K r1 M1))) ∧ (v2 = 1 → (ACi d X9_pairsLeft [.ref 42] (wI (wI M 42 11 1) 42 12 1) (fun r2 M2 => K r2 M2))))) ∧ (¬ 48 ≤ v5 → ((¬ (lg_cmp ((v3 >>> (v5.toInt64 &&& 63)) &&& 1) 1) = 0 → (vp_in v5 48 ∧ (vp_in v5 48 ∧ (vp_in v5 48 ∧ (lp_X9_watch_34 d (wI (wI (wI M 47 v5.toNatClampNeg 0) 48 v5.toNatClampNeg (v5 - v5 / 8 * 8)) 49 v5.toNatClampNeg 0) v2 v3 (v5 + 1) K))))) ∧ ((lg_cmp ((v3 >>> (v5.toInt64 &&& 63)) &&& 1) 1) = 0 → (vp_in v5 48 ∧ (vp_in v5 48 ∧ (vp_in v5 48 ∧ (lp_X9_watch_34 d (wI (wI (wI M 47 v5.toNatClampNeg 1) 48 v5.toNatClampNeg (v5 - v5 / 8 * 8)) 49 v5.toNatClampNeg 0) v2 v3 (v5 + 1) K)))))))) : lp_X9_watch_34 d M v2 v3 v5 K := by
  intro p l e s m args below meth c G hc
  refine hb_iload (q := 36) hc dd_X9_watch_34 rfl rfl ?_
  refine hb_bipush (q := 38) (v := 48) hc dd_X9_watch_36 rfl bp_48 ?_
  refine hb_icmp_ge (q := 41) (tg := 90) hc dd_X9_watch_38 rfl (by decide) (fun z => ?_) (fun z => ?_)
  · replace h := h.1 z
    refine hb_aload_n (q := 91) hc dd_X9_watch_90 rfl rfl ?_
    refine hb_iconst (q := 92) (v := 1) hc dd_X9_watch_91 rfl ic_1 ?_
    refine hb_putZ (q := 95) hc fl_X9_183 sh42 sl42 rfl (by decide) dd_X9_watch_92 rfl ?_
    refine hb_aload_n (q := 96) hc dd_X9_watch_95 rfl rfl ?_
    refine hb_iload_n (q := 97) hc dd_X9_watch_96 rfl rfl ?_
    refine hb_iconst (q := 98) (v := 1) hc dd_X9_watch_97 rfl ic_1 ?_
    refine hb_icmp_ne (q := 101) (tg := 105) hc dd_X9_watch_98 rfl (by decide) (fun z => ?_) (fun z => ?_)
    · replace h := h.1 z
      refine hb_iconst (q := 106) (v := 0) hc dd_X9_watch_105 rfl ic_0 ?_
      refine hb_putZ (q := 109) hc fl_X9_271 sh42 sl42 rfl (by decide) dd_X9_watch_106 rfl ?_
      refine hb_aload_n (q := 110) hc dd_X9_watch_109 rfl rfl ?_
      refine hb_callVi (q := 113) (vs := []) (st := []) hc mv_X9_274 h sh42 sl42 rfl rfl rfl (Nat.le_of_ble_eq_true rfl) ⟨Nat.le_refl _, Nat.le_refl _⟩ ⟨Nat.le_refl _, Nat.le_refl _⟩ dd_X9_watch_110 rfl (fun r1 M1 h => ?_)
      exact hb_iret hc rfl dd_X9_watch_113 h
    · replace h := h.2 z
      refine hb_iconst (q := 102) (v := 1) hc dd_X9_watch_101 rfl ic_1 ?_
      refine hb_goto (tg := 106) hc dd_X9_watch_102 (by decide) ?_
      refine hb_putZ (q := 109) hc fl_X9_271 sh42 sl42 rfl (by decide) dd_X9_watch_106 rfl ?_
      refine hb_aload_n (q := 110) hc dd_X9_watch_109 rfl rfl ?_
      refine hb_callVi (q := 113) (vs := []) (st := []) hc mv_X9_274 h sh42 sl42 rfl rfl rfl (Nat.le_of_ble_eq_true rfl) ⟨Nat.le_refl _, Nat.le_refl _⟩ ⟨Nat.le_refl _, Nat.le_refl _⟩ dd_X9_watch_110 rfl (fun r2 M2 h => ?_)
      exact hb_iret hc rfl dd_X9_watch_113 h
  · replace h := h.2 z
    refine hb_aload_n (q := 42) hc dd_X9_watch_41 rfl rfl ?_
    refine hb_getR (q := 45) hc fl_X9_23 sh42 sl42 rfl dd_X9_watch_42 rfl ?_
    refine hb_iload (q := 47) hc dd_X9_watch_45 rfl rfl ?_
    refine hb_lload_n (q := 48) hc dd_X9_watch_47 rfl rfl ?_
    refine hb_iload (q := 50) hc dd_X9_watch_48 rfl rfl ?_
    refine hb_lshr (q := 51) hc dd_X9_watch_50 rfl ?_
    refine hb_lconst (q := 52) (v := 1) hc dd_X9_watch_51 rfl lc_1 ?_
    refine hb_land (q := 53) hc dd_X9_watch_52 rfl ?_
    refine hb_lconst (q := 54) (v := 1) hc dd_X9_watch_53 rfl lc_1 ?_
    refine hb_lcmp (q := 55) hc dd_X9_watch_54 rfl ?_
    refine hb_if_ne (q := 58) (tg := 62) hc dd_X9_watch_55 rfl (by decide) (fun z => ?_) (fun z => ?_)
    · replace h := h.1 z
      refine hb_iconst (q := 63) (v := 0) hc dd_X9_watch_62 rfl ic_0 ?_
      obtain ⟨hi, h⟩ := h
      refine hb_zast (q := 64) hc sh47 sl47 hi (by decide) rfl dd_X9_watch_63 rfl ?_
      refine hb_aload_n (q := 65) hc dd_X9_watch_64 rfl rfl ?_
      refine hb_getR (q := 68) hc fl_X9_26 sh42 sl42 rfl dd_X9_watch_65 rfl ?_
      refine hb_iload (q := 70) hc dd_X9_watch_68 rfl rfl ?_
      refine hb_iload (q := 72) hc dd_X9_watch_70 rfl rfl ?_
      refine hb_bipush (q := 74) (v := 8) hc dd_X9_watch_72 rfl bp_8 ?_
      refine hb_irem (q := 75) hc dd_X9_watch_74 rfl (by decide) ?_
      obtain ⟨hi, h⟩ := h
      refine hb_iast (q := 76) hc sh48 sl48 hi rfl dd_X9_watch_75 rfl ?_
      refine hb_aload_n (q := 77) hc dd_X9_watch_76 rfl rfl ?_
      refine hb_getR (q := 80) hc fl_X9_29 sh42 sl42 rfl dd_X9_watch_77 rfl ?_
      refine hb_iload (q := 82) hc dd_X9_watch_80 rfl rfl ?_
      refine hb_iconst (q := 83) (v := 0) hc dd_X9_watch_82 rfl ic_0 ?_
      obtain ⟨hi, h⟩ := h
      refine hb_zast (q := 84) hc sh49 sl49 hi (by decide) rfl dd_X9_watch_83 rfl ?_
      refine hb_iinc (q := 87) (v := v5 + 1) (lv' := [some (.ref 42), none, some (.int v2), some (.long v3), none, some (.int (v5 + 1))]) hc dd_X9_watch_84 rfl rfl rfl (Nat.le_of_ble_eq_true rfl) rfl ?_
      refine hb_goto (tg := 34) hc dd_X9_watch_87 (by decide) ?_
      exact hb_weak (lvs (lvn (lvs (lvs (lvn (lvs lvz)))))) (h p l e s m args below meth c G hc)
    · replace h := h.2 z
      refine hb_iconst (q := 59) (v := 1) hc dd_X9_watch_58 rfl ic_1 ?_
      refine hb_goto (tg := 63) hc dd_X9_watch_59 (by decide) ?_
      obtain ⟨hi, h⟩ := h
      refine hb_zast (q := 64) hc sh47 sl47 hi (by decide) rfl dd_X9_watch_63 rfl ?_
      refine hb_aload_n (q := 65) hc dd_X9_watch_64 rfl rfl ?_
      refine hb_getR (q := 68) hc fl_X9_26 sh42 sl42 rfl dd_X9_watch_65 rfl ?_
      refine hb_iload (q := 70) hc dd_X9_watch_68 rfl rfl ?_
      refine hb_iload (q := 72) hc dd_X9_watch_70 rfl rfl ?_
      refine hb_bipush (q := 74) (v := 8) hc dd_X9_watch_72 rfl bp_8 ?_
      refine hb_irem (q := 75) hc dd_X9_watch_74 rfl (by decide) ?_
      obtain ⟨hi, h⟩ := h
      refine hb_iast (q := 76) hc sh48 sl48 hi rfl dd_X9_watch_75 rfl ?_
      refine hb_aload_n (q := 77) hc dd_X9_watch_76 rfl rfl ?_
      refine hb_getR (q := 80) hc fl_X9_29 sh42 sl42 rfl dd_X9_watch_77 rfl ?_
      refine hb_iload (q := 82) hc dd_X9_watch_80 rfl rfl ?_
      refine hb_iconst (q := 83) (v := 0) hc dd_X9_watch_82 rfl ic_0 ?_
      obtain ⟨hi, h⟩ := h
      refine hb_zast (q := 84) hc sh49 sl49 hi (by decide) rfl dd_X9_watch_83 rfl ?_
      refine hb_iinc (q := 87) (v := v5 + 1) (lv' := [some (.ref 42), none, some (.int v2), some (.long v3), none, some (.int (v5 + 1))]) hc dd_X9_watch_84 rfl rfl rfl (Nat.le_of_ble_eq_true rfl) rfl ?_
      refine hb_goto (tg := 34) hc dd_X9_watch_87 (by decide) ?_
      exact hb_weak (lvs (lvn (lvs (lvs (lvn (lvs lvz)))))) (h p l e s m args below meth c G hc)
theorem w_X9_watch {d : Nat} {M : Mm} {v1 : Int32} {v2 : Int32} {K : Int32 → Mm → Prop}  (h : ACi d X9_in [.long v1.toInt64, .long 0, .long 99] M (fun r1 M1 => (r1 = 0 → (K (-3) M1)) ∧ (¬ r1 = 0 → (ACi d X9_in [.long v2.toInt64, .long 0, .long 1] M1 (fun r2 M2 => (¬ r2 = 0 → (ACl d X9_firstSet [.ref 42, .int v1] M2 (fun r3 M3 => lp_X9_watch_34 d M3 v2 r3 0 K))) ∧ (r2 = 0 → (K (-3) M2))))))) : ACi (d + 1) X9_watch [.ref 42, .int v1, .int v2] M K := by
  refine AC.ofW (lv := [some (.ref 42), some (.int v1), some (.int v2), none, none, none]) pn_X9 (Nat.le_of_ble_eq_true rfl) (show lvLe _ [some (.ref 42), some (.int v1), some (.int v2)] from (lvs (lvs (lvs (lve (lve (lve lvz))))))) ?_
  intro p l e s m args below meth c G hc
  refine hb_iload_n (q := 1) hc dd_X9_watch_0 rfl rfl ?_
  refine hb_i2l (q := 2) hc dd_X9_watch_1 rfl ?_
  refine hb_lconst (q := 3) (v := 0) hc dd_X9_watch_2 rfl lc_0 ?_
  refine hb_ldc2 (q := 6) (v := 99) hc dd_X9_watch_3 rfl iw_1135 ?_
  refine hb_callSi (q := 9) (vs := [.long v1.toInt64, .long 0, .long 99]) (st := []) hc mv_X9_104 h rfl rfl (Nat.le_of_ble_eq_true rfl) ⟨Nat.le_refl _, Nat.le_refl _⟩ ⟨Nat.le_refl _, Nat.le_refl _⟩ dd_X9_watch_6 rfl (fun r1 M1 h => ?_)
  refine hb_if_eq (q := 12) (tg := 22) hc dd_X9_watch_9 rfl (by decide) (fun z => ?_) (fun z => ?_)
  · replace h := h.1 z
    refine hb_bipush (q := 24) (v := (-3)) hc dd_X9_watch_22 rfl bp_m3 ?_
    exact hb_iret hc rfl dd_X9_watch_24 h
  · replace h := h.2 z
    refine hb_iload_n (q := 13) hc dd_X9_watch_12 rfl rfl ?_
    refine hb_i2l (q := 14) hc dd_X9_watch_13 rfl ?_
    refine hb_lconst (q := 15) (v := 0) hc dd_X9_watch_14 rfl lc_0 ?_
    refine hb_lconst (q := 16) (v := 1) hc dd_X9_watch_15 rfl lc_1 ?_
    refine hb_callSi (q := 19) (vs := [.long v2.toInt64, .long 0, .long 1]) (st := []) hc mv_X9_104 h rfl rfl (Nat.le_of_ble_eq_true rfl) ⟨Nat.le_refl _, Nat.le_refl _⟩ ⟨Nat.le_refl _, Nat.le_refl _⟩ dd_X9_watch_16 rfl (fun r2 M2 h => ?_)
    refine hb_if_ne (q := 22) (tg := 25) hc dd_X9_watch_19 rfl (by decide) (fun z => ?_) (fun z => ?_)
    · replace h := h.1 z
      refine hb_aload_n (q := 26) hc dd_X9_watch_25 rfl rfl ?_
      refine hb_iload_n (q := 27) hc dd_X9_watch_26 rfl rfl ?_
      refine hb_callVl (q := 30) (vs := [.int v1]) (st := []) hc mv_X9_253 h sh42 sl42 rfl rfl rfl (Nat.le_of_ble_eq_true rfl) ⟨Nat.le_refl _, Nat.le_refl _⟩ ⟨Nat.le_refl _, Nat.le_refl _⟩ dd_X9_watch_27 rfl (fun r3 M3 h => ?_)
      refine hb_lstore_n (q := 31) (lv' := [some (.ref 42), some (.int v1), some (.int v2), some (.long r3), none, none]) hc dd_X9_watch_30 rfl (Nat.le_of_ble_eq_true rfl) rfl ?_
      refine hb_iconst (q := 32) (v := 0) hc dd_X9_watch_31 rfl ic_0 ?_
      refine hb_istore (q := 34) (lv' := [some (.ref 42), some (.int v1), some (.int v2), some (.long r3), none, some (.int 0)]) hc dd_X9_watch_32 rfl (Nat.le_of_ble_eq_true rfl) rfl ?_
      exact hb_weak (lvs (lvn (lvs (lvs (lvn (lvs lvz)))))) (h p l e s m args below meth c G hc)
    · replace h := h.2 z
      refine hb_bipush (q := 24) (v := (-3)) hc dd_X9_watch_22 rfl bp_m3 ?_
      exact hb_iret hc rfl dd_X9_watch_24 h
