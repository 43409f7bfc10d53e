/-! WALKS, by program (wip/whole/gen6.py). -/
theorem w_X6_append {d : Nat} {M : Mm} {v1 : Int32} {K : Mm → Prop}  (h : (200 ≤ (M.1 1 0) → (K M)) ∧ (¬ 200 ≤ (M.1 1 0) → (vp_in (M.1 1 0) 200 ∧ (K (wI (wI M 2 ((M.1 1 0).toNatClampNeg) v1) 1 0 ((M.1 1 0) + 1)))))) : ACv (d + 1) X6_append [.ref 1, .int v1] M K := by
  refine AC.ofW (lv := [some (.ref 1), some (.int v1)]) pn_X6 (Nat.le_of_ble_eq_true rfl) (show lvLe _ [some (.ref 1), some (.int v1)] from (lvs (lvs lvz))) ?_
  intro p l e s m args below meth c G hc
  refine hb_aload_n (q := 1) hc dd_X6_append_0 rfl rfl ?_
  refine hb_getI (q := 4) (v := M.1 1 0) hc fl_X6_15 sh1 sl1 rfl rfl dd_X6_append_1 rfl ?_
  refine hb_sipush (q := 7) (v := 200) hc dd_X6_append_4 rfl sp_200 ?_
  refine hb_icmp_ge (q := 10) (tg := 30) hc dd_X6_append_7 rfl (by decide) (fun z => ?_) (fun z => ?_)
  · replace h := h.1 z
    exact hb_vret hc rfl dd_X6_append_30 h
  · replace h := h.2 z
    refine hb_aload_n (q := 11) hc dd_X6_append_10 rfl rfl ?_
    refine hb_getR (q := 14) hc fl_X6_9 sh1 sl1 rfl dd_X6_append_11 rfl ?_
    refine hb_aload_n (q := 15) hc dd_X6_append_14 rfl rfl ?_
    refine hb_getI (q := 18) (v := M.1 1 0) hc fl_X6_15 sh1 sl1 rfl rfl dd_X6_append_15 rfl ?_
    refine hb_iload_n (q := 19) hc dd_X6_append_18 rfl rfl ?_
    obtain ⟨hi, h⟩ := h
    refine hb_iast (q := 20) hc sh2 sl2 hi rfl dd_X6_append_19 rfl ?_
    refine hb_aload_n (q := 21) hc dd_X6_append_20 rfl rfl ?_
    refine hb_dup (q := 22) hc dd_X6_append_21 rfl rfl ?_
    refine hb_getI (q := 25) (v := M.1 1 0) hc fl_X6_15 sh1 sl1 rfl (by simp [wI, wL, cpI, cpL]) dd_X6_append_22 rfl ?_
    refine hb_iconst (q := 26) (v := 1) hc dd_X6_append_25 rfl ic_1 ?_
    refine hb_iadd (q := 27) hc dd_X6_append_26 rfl ?_
    refine hb_putI (q := 30) hc fl_X6_15 sh1 sl1 rfl dd_X6_append_27 rfl ?_
    exact hb_vret hc rfl dd_X6_append_30 h
def lp_X6_readInto_7 (d : Nat) (M : Mm) (v2 : Int32) (K : Int32 → Mm → Prop) : Prop := AW (d + 1) X6_readInto M 7 [some (.ref 1), some (.ref 8), some (.int v2)] [] (QI K)
theorem z_X6_readInto_7 {d : Nat} {M : Mm} {v2 : Int32} {K : Int32 → Mm → Prop}  (h : (24 < v2 → (K (M.1 1 3) M)) ∧ (¬ 24 < v2 → (ACv d X6_advance [.ref 1] M (fun M1 => ACi d X6_readClause [.ref 1, .ref 8] M1 (fun r2 M2 => (¬ r2 = 0 → (ACv d X6_advance [.ref 1] (wI M2 1 1 v2) (fun M3 => ((M3.1 1 3) < (M3.1 1 0) → (vp_in (M3.1 1 3) 200 ∧ (((M3.1 2 ((M3.1 1 3).toNatClampNeg)) = 59 → (lp_X6_readInto_7 d M3 (v2 + 1) K)) ∧ (¬ (M3.1 2 ((M3.1 1 3).toNatClampNeg)) = 59 → (K (M3.1 1 3) M3))))) ∧ (¬ (M3.1 1 3) < (M3.1 1 0) → (K (-1) M3))))) ∧ (r2 = 0 → (K (M2.1 1 3) M2))))))) : lp_X6_readInto_7 d M v2 K := by
  intro p l e s m args below meth c G hc
  refine hb_iload_n (q := 8) hc dd_X6_readInto_7 rfl rfl ?_
  refine hb_bipush (q := 10) (v := 24) hc dd_X6_readInto_8 rfl bp_24 ?_
  refine hb_icmp_gt (q := 13) (tg := 77) hc dd_X6_readInto_10 rfl (by decide) (fun z => ?_) (fun z => ?_)
  · replace h := h.1 z
    refine hb_aload_n (q := 78) hc dd_X6_readInto_77 rfl rfl ?_
    refine hb_getI (q := 81) (v := M.1 1 3) hc fl_X6_29 sh1 sl1 rfl rfl dd_X6_readInto_78 rfl ?_
    exact hb_iret hc rfl dd_X6_readInto_81 h
  · replace h := h.2 z
    refine hb_aload_n (q := 14) hc dd_X6_readInto_13 rfl rfl ?_
    refine hb_callVv (q := 17) (vs := []) (st := []) hc mv_X6_22 h sh1 sl1 rfl rfl rfl (Nat.le_of_ble_eq_true rfl) ⟨Nat.le_refl _, Nat.le_refl _⟩ ⟨Nat.le_refl _, Nat.le_refl _⟩ dd_X6_readInto_14 rfl (fun M1 h => ?_)
    refine hb_aload_n (q := 18) hc dd_X6_readInto_17 rfl rfl ?_
    refine hb_aload_n (q := 19) hc dd_X6_readInto_18 rfl rfl ?_
    refine hb_callVi (q := 22) (vs := [.ref 8]) (st := []) hc mv_X6_25 h sh1 sl1 rfl rfl rfl (Nat.le_of_ble_eq_true rfl) ⟨Nat.le_refl _, Nat.le_refl _⟩ ⟨Nat.le_refl _, Nat.le_refl _⟩ dd_X6_readInto_19 rfl (fun r2 M2 h => ?_)
    refine hb_if_ne (q := 25) (tg := 30) hc dd_X6_readInto_22 rfl (by decide) (fun z => ?_) (fun z => ?_)
    · replace h := h.1 z
      refine hb_aload_n (q := 31) hc dd_X6_readInto_30 rfl rfl ?_
      refine hb_iload_n (q := 32) hc dd_X6_readInto_31 rfl rfl ?_
      refine hb_putI (q := 35) hc fl_X6_32 sh1 sl1 rfl dd_X6_readInto_32 rfl ?_
      refine hb_aload_n (q := 36) hc dd_X6_readInto_35 rfl rfl ?_
      refine hb_callVv (q := 39) (vs := []) (st := []) hc mv_X6_22 h sh1 sl1 rfl rfl rfl (Nat.le_of_ble_eq_true rfl) ⟨Nat.le_refl _, Nat.le_refl _⟩ ⟨Nat.le_refl _, Nat.le_refl _⟩ dd_X6_readInto_36 rfl (fun M3 h => ?_)
      refine hb_aload_n (q := 40) hc dd_X6_readInto_39 rfl rfl ?_
      refine hb_getI (q := 43) (v := M3.1 1 3) hc fl_X6_29 sh1 sl1 rfl rfl dd_X6_readInto_40 rfl ?_
      refine hb_aload_n (q := 44) hc dd_X6_readInto_43 rfl rfl ?_
      refine hb_getI (q := 47) (v := M3.1 1 0) hc fl_X6_15 sh1 sl1 rfl rfl dd_X6_readInto_44 rfl ?_
      refine hb_icmp_lt (q := 50) (tg := 52) hc dd_X6_readInto_47 rfl (by decide) (fun z => ?_) (fun z => ?_)
      · replace h := h.1 z
        refine hb_aload_n (q := 53) hc dd_X6_readInto_52 rfl rfl ?_
        refine hb_getR (q := 56) hc fl_X6_9 sh1 sl1 rfl dd_X6_readInto_53 rfl ?_
        refine hb_aload_n (q := 57) hc dd_X6_readInto_56 rfl rfl ?_
        refine hb_getI (q := 60) (v := M3.1 1 3) hc fl_X6_29 sh1 sl1 rfl rfl dd_X6_readInto_57 rfl ?_
        obtain ⟨hi, h⟩ := h
        refine hb_iald (q := 61) (v := M3.1 2 ((M3.1 1 3).toNatClampNeg)) hc sh2 sl2 hi rfl rfl dd_X6_readInto_60 rfl ?_
        refine hb_bipush (q := 63) (v := 59) hc dd_X6_readInto_61 rfl bp_59 ?_
        refine hb_icmp_eq (q := 66) (tg := 71) hc dd_X6_readInto_63 rfl (by decide) (fun z => ?_) (fun z => ?_)
        · replace h := h.1 z
          refine hb_iinc (q := 74) (v := v2 + 1) (lv' := [some (.ref 1), some (.ref 8), some (.int (v2 + 1))]) hc dd_X6_readInto_71 rfl rfl rfl (Nat.le_of_ble_eq_true rfl) rfl ?_
          refine hb_goto (tg := 7) hc dd_X6_readInto_74 (by decide) ?_
          exact hb_weak (lvs (lvs (lvs lvz))) (h p l e s m args below meth c G hc)
        · replace h := h.2 z
          refine hb_aload_n (q := 67) hc dd_X6_readInto_66 rfl rfl ?_
          refine hb_getI (q := 70) (v := M3.1 1 3) hc fl_X6_29 sh1 sl1 rfl rfl dd_X6_readInto_67 rfl ?_
          exact hb_iret hc rfl dd_X6_readInto_70 h
      · replace h := h.2 z
        refine hb_iconst (q := 51) (v := (-1)) hc dd_X6_readInto_50 rfl ic_m1 ?_
        exact hb_iret hc rfl dd_X6_readInto_51 h
    · replace h := h.2 z
      refine hb_aload_n (q := 26) hc dd_X6_readInto_25 rfl rfl ?_
      refine hb_getI (q := 29) (v := M2.1 1 3) hc fl_X6_29 sh1 sl1 rfl rfl dd_X6_readInto_26 rfl ?_
      exact hb_iret hc rfl dd_X6_readInto_29 h
theorem w_X6_readInto {d : Nat} {M : Mm}  {K : Int32 → Mm → Prop}  (h : lp_X6_readInto_7 d (wI M 1 4 0) 1 K) : ACi (d + 1) X6_readInto [.ref 1, .ref 8] M K := by
  refine AC.ofW (lv := [some (.ref 1), some (.ref 8), none]) pn_X6 (Nat.le_of_ble_eq_true rfl) (show lvLe _ [some (.ref 1), some (.ref 8)] from (lvs (lvs (lve lvz)))) ?_
  intro p l e s m args below meth c G hc
  refine hb_aload_n (q := 1) hc dd_X6_readInto_0 rfl rfl ?_
  refine hb_iconst (q := 2) (v := 0) hc dd_X6_readInto_1 rfl ic_0 ?_
  refine hb_putI (q := 5) hc fl_X6_19 sh1 sl1 rfl dd_X6_readInto_2 rfl ?_
  refine hb_iconst (q := 6) (v := 1) hc dd_X6_readInto_5 rfl ic_1 ?_
  refine hb_istore_n (q := 7) (lv' := [some (.ref 1), some (.ref 8), some (.int 1)]) hc dd_X6_readInto_6 rfl (Nat.le_of_ble_eq_true rfl) rfl ?_
  exact hb_weak (lvs (lvs (lvs lvz))) (h p l e s m args below meth c G hc)
theorem w_X6_readClause {d : Nat} {M : Mm}  {K : Int32 → Mm → Prop}  (h : ACi d X6_isWord [.ref 1, .ref (1000 + 0)] M (fun r1 M1 => (r1 = 0 → (ACi d X6_isWord [.ref 1, .ref (1000 + 1)] M1 (fun r2 M2 => (r2 = 0 → (ACi d X6_isWord [.ref 1, .ref (1000 + 2)] M2 (fun r3 M3 => (r3 = 0 → (ACi d X6_isWord [.ref 1, .ref (1000 + 3)] M3 (fun r4 M4 => (r4 = 0 → (ACi d X6_isWord [.ref 1, .ref (1000 + 4)] M4 (fun r5 M5 => (r5 = 0 → (ACi d X6_isWord [.ref 1, .ref (1000 + 5)] M5 (fun r6 M6 => (r6 = 0 → (K 0 M6)) ∧ (¬ r6 = 0 → (ACi d X6_readLit [.ref 1, .ref 8] M6 (fun r7 M7 => (r7 = 0 → (K 0 M7)) ∧ (¬ r7 = 0 → (K 1 M7)))))))) ∧ (¬ r5 = 0 → ((6 ≤ (M5.1 10 0) → (K 0 M5)) ∧ (¬ 6 ≤ (M5.1 10 0) → (ACi d X6_readLight [.ref 1, .ref 8] M5 (fun r8 M8 => (r8 = 0 → (K 0 M8)) ∧ (¬ r8 = 0 → (K 1 M8)))))))))) ∧ (¬ r4 = 0 → ((8 ≤ (M4.1 8 3) → (K 0 M4)) ∧ (¬ 8 ≤ (M4.1 8 3) → (ACi d X6_readRhythm [.ref 1, .ref 8] M4 (fun r9 M9 => (r9 = 0 → (K 0 M9)) ∧ (¬ r9 = 0 → (K 1 M9)))))))))) ∧ (¬ r3 = 0 → (ACi d X6_readSight [.ref 1, .ref 8] M3 (fun r10 M10 => (r10 = 0 ∨ r10 = 1) ∧ K r10 M10)))))) ∧ (¬ r2 = 0 → (ACi d X6_readWindow [.ref 1, .ref 8] M2 (fun r11 M11 => (r11 = 0 ∨ r11 = 1) ∧ K r11 M11)))))) ∧ (¬ r1 = 0 → (ACi d X6_readBeats [.ref 1, .ref 8] M1 (fun r12 M12 => (r12 = 0 ∨ r12 = 1) ∧ K r12 M12))))) : ACi (d + 1) X6_readClause [.ref 1, .ref 8] M K := by
  refine AC.ofW (lv := [some (.ref 1), some (.ref 8)]) pn_X6 (Nat.le_of_ble_eq_true rfl) (show lvLe _ [some (.ref 1), some (.ref 8)] from (lvs (lvs lvz))) ?_
  intro p l e s m args below meth c G hc
  refine hb_aload_n (q := 1) hc dd_X6_readClause_0 rfl rfl ?_
  refine hb_ldcS (q := 3) hc 0 rfl dd_X6_readClause_1 rfl ?_
  refine hb_callVi (q := 6) (vs := [.ref (1000 + 0)]) (st := []) hc mv_X6_37 h sh1 sl1 rfl rfl rfl (Nat.le_of_ble_eq_true rfl) ⟨Nat.le_refl _, Nat.le_refl _⟩ ⟨Nat.le_refl _, Nat.le_refl _⟩ dd_X6_readClause_3 rfl (fun r1 M1 h => ?_)
  refine hb_if_eq (q := 9) (tg := 15) hc dd_X6_readClause_6 rfl (by decide) (fun z => ?_) (fun z => ?_)
  · replace h := h.1 z
    refine hb_aload_n (q := 16) hc dd_X6_readClause_15 rfl rfl ?_
    refine hb_ldcS (q := 18) hc 1 rfl dd_X6_readClause_16 rfl ?_
    refine hb_callVi (q := 21) (vs := [.ref (1000 + 1)]) (st := []) hc mv_X6_37 h sh1 sl1 rfl rfl rfl (Nat.le_of_ble_eq_true rfl) ⟨Nat.le_refl _, Nat.le_refl _⟩ ⟨Nat.le_refl _, Nat.le_refl _⟩ dd_X6_readClause_18 rfl (fun r2 M2 h => ?_)
    refine hb_if_eq (q := 24) (tg := 30) hc dd_X6_readClause_21 rfl (by decide) (fun z => ?_) (fun z => ?_)
    · replace h := h.1 z
      refine hb_aload_n (q := 31) hc dd_X6_readClause_30 rfl rfl ?_
      refine hb_ldcS (q := 33) hc 2 rfl dd_X6_readClause_31 rfl ?_
      refine hb_callVi (q := 36) (vs := [.ref (1000 + 2)]) (st := []) hc mv_X6_37 h sh1 sl1 rfl rfl rfl (Nat.le_of_ble_eq_true rfl) ⟨Nat.le_refl _, Nat.le_refl _⟩ ⟨Nat.le_refl _, Nat.le_refl _⟩ dd_X6_readClause_33 rfl (fun r3 M3 h => ?_)
      refine hb_if_eq (q := 39) (tg := 45) hc dd_X6_readClause_36 rfl (by decide) (fun z => ?_) (fun z => ?_)
      · replace h := h.1 z
        refine hb_aload_n (q := 46) hc dd_X6_readClause_45 rfl rfl ?_
        refine hb_ldcS (q := 48) hc 3 rfl dd_X6_readClause_46 rfl ?_
        refine hb_callVi (q := 51) (vs := [.ref (1000 + 3)]) (st := []) hc mv_X6_37 h sh1 sl1 rfl rfl rfl (Nat.le_of_ble_eq_true rfl) ⟨Nat.le_refl _, Nat.le_refl _⟩ ⟨Nat.le_refl _, Nat.le_refl _⟩ dd_X6_readClause_48 rfl (fun r4 M4 h => ?_)
        refine hb_if_eq (q := 54) (tg := 77) hc dd_X6_readClause_51 rfl (by decide) (fun z => ?_) (fun z => ?_)
        · replace h := h.1 z
          refine hb_aload_n (q := 78) hc dd_X6_readClause_77 rfl rfl ?_
          refine hb_ldcS (q := 80) hc 4 rfl dd_X6_readClause_78 rfl ?_
          refine hb_callVi (q := 83) (vs := [.ref (1000 + 4)]) (st := []) hc mv_X6_37 h sh1 sl1 rfl rfl rfl (Nat.le_of_ble_eq_true rfl) ⟨Nat.le_refl _, Nat.le_refl _⟩ ⟨Nat.le_refl _, Nat.le_refl _⟩ dd_X6_readClause_80 rfl (fun r5 M5 h => ?_)
          refine hb_if_eq (q := 86) (tg := 112) hc dd_X6_readClause_83 rfl (by decide) (fun z => ?_) (fun z => ?_)
          · replace h := h.1 z
            refine hb_aload_n (q := 113) hc dd_X6_readClause_112 rfl rfl ?_
            refine hb_ldcS (q := 115) hc 5 rfl dd_X6_readClause_113 rfl ?_
            refine hb_callVi (q := 118) (vs := [.ref (1000 + 5)]) (st := []) hc mv_X6_37 h sh1 sl1 rfl rfl rfl (Nat.le_of_ble_eq_true rfl) ⟨Nat.le_refl _, Nat.le_refl _⟩ ⟨Nat.le_refl _, Nat.le_refl _⟩ dd_X6_readClause_115 rfl (fun r6 M6 h => ?_)
            refine hb_if_eq (q := 121) (tg := 133) hc dd_X6_readClause_118 rfl (by decide) (fun z => ?_) (fun z => ?_)
            · replace h := h.1 z
              refine hb_iconst (q := 134) (v := 0) hc dd_X6_readClause_133 rfl ic_0 ?_
              exact hb_zret hc rfl (by decide) dd_X6_readClause_134 h
            · replace h := h.2 z
              refine hb_aload_n (q := 122) hc dd_X6_readClause_121 rfl rfl ?_
              refine hb_aload_n (q := 123) hc dd_X6_readClause_122 rfl rfl ?_
              refine hb_callVi (q := 126) (vs := [.ref 8]) (st := []) hc mv_X6_78 h sh1 sl1 rfl rfl rfl (Nat.le_of_ble_eq_true rfl) ⟨Nat.le_refl _, Nat.le_refl _⟩ ⟨Nat.le_refl _, Nat.le_refl _⟩ dd_X6_readClause_123 rfl (fun r7 M7 h => ?_)
              refine hb_if_eq (q := 129) (tg := 133) hc dd_X6_readClause_126 rfl (by decide) (fun z => ?_) (fun z => ?_)
              · replace h := h.1 z
                refine hb_iconst (q := 134) (v := 0) hc dd_X6_readClause_133 rfl ic_0 ?_
                exact hb_zret hc rfl (by decide) dd_X6_readClause_134 h
              · replace h := h.2 z
                refine hb_iconst (q := 130) (v := 1) hc dd_X6_readClause_129 rfl ic_1 ?_
                refine hb_goto (tg := 134) hc dd_X6_readClause_130 (by decide) ?_
                exact hb_zret hc rfl (by decide) dd_X6_readClause_134 h
          · replace h := h.2 z
            refine hb_aload_n (q := 87) hc dd_X6_readClause_86 rfl rfl ?_
            refine hb_getR (q := 90) hc fl_X6_66 sh8 sl8 rfl dd_X6_readClause_87 rfl ?_
            refine hb_getI (q := 93) (v := M5.1 10 0) hc fl_X6_70 sh10 sl10 rfl rfl dd_X6_readClause_90 rfl ?_
            refine hb_bipush (q := 95) (v := 6) hc dd_X6_readClause_93 rfl bp_6 ?_
            refine hb_icmp_ge (q := 98) (tg := 110) hc dd_X6_readClause_95 rfl (by decide) (fun z => ?_) (fun z => ?_)
            · replace h := h.1 z
              refine hb_iconst (q := 111) (v := 0) hc dd_X6_readClause_110 rfl ic_0 ?_
              exact hb_zret hc rfl (by decide) dd_X6_readClause_111 h
            · replace h := h.2 z
              refine hb_aload_n (q := 99) hc dd_X6_readClause_98 rfl rfl ?_
              refine hb_aload_n (q := 100) hc dd_X6_readClause_99 rfl rfl ?_
              refine hb_callVi (q := 103) (vs := [.ref 8]) (st := []) hc mv_X6_73 h sh1 sl1 rfl rfl rfl (Nat.le_of_ble_eq_true rfl) ⟨Nat.le_refl _, Nat.le_refl _⟩ ⟨Nat.le_refl _, Nat.le_refl _⟩ dd_X6_readClause_100 rfl (fun r8 M8 h => ?_)
              refine hb_if_eq (q := 106) (tg := 110) hc dd_X6_readClause_103 rfl (by decide) (fun z => ?_) (fun z => ?_)
              · replace h := h.1 z
                refine hb_iconst (q := 111) (v := 0) hc dd_X6_readClause_110 rfl ic_0 ?_
                exact hb_zret hc rfl (by decide) dd_X6_readClause_111 h
              · replace h := h.2 z
                refine hb_iconst (q := 107) (v := 1) hc dd_X6_readClause_106 rfl ic_1 ?_
                refine hb_goto (tg := 111) hc dd_X6_readClause_107 (by decide) ?_
                exact hb_zret hc rfl (by decide) dd_X6_readClause_111 h
        · replace h := h.2 z
          refine hb_aload_n (q := 55) hc dd_X6_readClause_54 rfl rfl ?_
          refine hb_getI (q := 58) (v := M4.1 8 3) hc fl_X6_56 sh8 sl8 rfl rfl dd_X6_readClause_55 rfl ?_
          refine hb_bipush (q := 60) (v := 8) hc dd_X6_readClause_58 rfl bp_8 ?_
          refine hb_icmp_ge (q := 63) (tg := 75) hc dd_X6_readClause_60 rfl (by decide) (fun z => ?_) (fun z => ?_)
          · replace h := h.1 z
            refine hb_iconst (q := 76) (v := 0) hc dd_X6_readClause_75 rfl ic_0 ?_
            exact hb_zret hc rfl (by decide) dd_X6_readClause_76 h
          · replace h := h.2 z
            refine hb_aload_n (q := 64) hc dd_X6_readClause_63 rfl rfl ?_
            refine hb_aload_n (q := 65) hc dd_X6_readClause_64 rfl rfl ?_
            refine hb_callVi (q := 68) (vs := [.ref 8]) (st := []) hc mv_X6_61 h sh1 sl1 rfl rfl rfl (Nat.le_of_ble_eq_true rfl) ⟨Nat.le_refl _, Nat.le_refl _⟩ ⟨Nat.le_refl _, Nat.le_refl _⟩ dd_X6_readClause_65 rfl (fun r9 M9 h => ?_)
            refine hb_if_eq (q := 71) (tg := 75) hc dd_X6_readClause_68 rfl (by decide) (fun z => ?_) (fun z => ?_)
            · replace h := h.1 z
              refine hb_iconst (q := 76) (v := 0) hc dd_X6_readClause_75 rfl ic_0 ?_
              exact hb_zret hc rfl (by decide) dd_X6_readClause_76 h
            · replace h := h.2 z
              refine hb_iconst (q := 72) (v := 1) hc dd_X6_readClause_71 rfl ic_1 ?_
              refine hb_goto (tg := 76) hc dd_X6_readClause_72 (by decide) ?_
              exact hb_zret hc rfl (by decide) dd_X6_readClause_76 h
      · replace h := h.2 z
        refine hb_aload_n (q := 40) hc dd_X6_readClause_39 rfl rfl ?_
        refine hb_aload_n (q := 41) hc dd_X6_readClause_40 rfl rfl ?_
        refine hb_callVi (q := 44) (vs := [.ref 8]) (st := []) hc mv_X6_51 h sh1 sl1 rfl rfl rfl (Nat.le_of_ble_eq_true rfl) ⟨Nat.le_refl _, Nat.le_refl _⟩ ⟨Nat.le_refl _, Nat.le_refl _⟩ dd_X6_readClause_41 rfl (fun r10 M10 h => ?_)
        exact hb_zret hc rfl h.1 dd_X6_readClause_44 h.2
    · replace h := h.2 z
      refine hb_aload_n (q := 25) hc dd_X6_readClause_24 rfl rfl ?_
      refine hb_aload_n (q := 26) hc dd_X6_readClause_25 rfl rfl ?_
      refine hb_callVi (q := 29) (vs := [.ref 8]) (st := []) hc mv_X6_46 h sh1 sl1 rfl rfl rfl (Nat.le_of_ble_eq_true rfl) ⟨Nat.le_refl _, Nat.le_refl _⟩ ⟨Nat.le_refl _, Nat.le_refl _⟩ dd_X6_readClause_26 rfl (fun r11 M11 h => ?_)
      exact hb_zret hc rfl h.1 dd_X6_readClause_29 h.2
  · replace h := h.2 z
    refine hb_aload_n (q := 10) hc dd_X6_readClause_9 rfl rfl ?_
    refine hb_aload_n (q := 11) hc dd_X6_readClause_10 rfl rfl ?_
    refine hb_callVi (q := 14) (vs := [.ref 8]) (st := []) hc mv_X6_41 h sh1 sl1 rfl rfl rfl (Nat.le_of_ble_eq_true rfl) ⟨Nat.le_refl _, Nat.le_refl _⟩ ⟨Nat.le_refl _, Nat.le_refl _⟩ dd_X6_readClause_11 rfl (fun r12 M12 h => ?_)
    exact hb_zret hc rfl h.1 dd_X6_readClause_14 h.2
theorem w_X6_readBeats {d : Nat} {M : Mm}  {K : Int32 → Mm → Prop}  (h : ACi d X6_readNumber [.ref 1, .int 3, .int 8] M (fun r1 M1 => (r1 = (-1) → ((r1 = (-1) → (K 0 M1)) ∧ (¬ r1 = (-1) → (K 1 M1)))) ∧ (¬ r1 = (-1) → (ACv d X0_beginAnew [.ref 8, .int r1] M1 (fun M2 => (r1 = (-1) → (K 0 M2)) ∧ (¬ r1 = (-1) → (K 1 M2))))))) : ACi (d + 1) X6_readBeats [.ref 1, .ref 8] M K := by
  refine AC.ofW (lv := [some (.ref 1), some (.ref 8), none]) pn_X6 (Nat.le_of_ble_eq_true rfl) (show lvLe _ [some (.ref 1), some (.ref 8)] from (lvs (lvs (lve lvz)))) ?_
  intro p l e s m args below meth c G hc
  refine hb_aload_n (q := 1) hc dd_X6_readBeats_0 rfl rfl ?_
  refine hb_iconst (q := 2) (v := 3) hc dd_X6_readBeats_1 rfl ic_3 ?_
  refine hb_bipush (q := 4) (v := 8) hc dd_X6_readBeats_2 rfl bp_8 ?_
  refine hb_callVi (q := 7) (vs := [.int 3, .int 8]) (st := []) hc mv_X6_81 h sh1 sl1 rfl rfl rfl (Nat.le_of_ble_eq_true rfl) ⟨Nat.le_refl _, Nat.le_refl _⟩ ⟨Nat.le_refl _, Nat.le_refl _⟩ dd_X6_readBeats_4 rfl (fun r1 M1 h => ?_)
  refine hb_istore_n (q := 8) (lv' := [some (.ref 1), some (.ref 8), some (.int r1)]) hc dd_X6_readBeats_7 rfl (Nat.le_of_ble_eq_true rfl) rfl ?_
  refine hb_iload_n (q := 9) hc dd_X6_readBeats_8 rfl rfl ?_
  refine hb_iconst (q := 10) (v := (-1)) hc dd_X6_readBeats_9 rfl ic_m1 ?_
  refine hb_icmp_eq (q := 13) (tg := 18) hc dd_X6_readBeats_10 rfl (by decide) (fun z => ?_) (fun z => ?_)
  · replace h := h.1 z
    refine hb_iload_n (q := 19) hc dd_X6_readBeats_18 rfl rfl ?_
    refine hb_iconst (q := 20) (v := (-1)) hc dd_X6_readBeats_19 rfl ic_m1 ?_
    refine hb_icmp_eq (q := 23) (tg := 27) hc dd_X6_readBeats_20 rfl (by decide) (fun z => ?_) (fun z => ?_)
    · replace h := h.1 z
      refine hb_iconst (q := 28) (v := 0) hc dd_X6_readBeats_27 rfl ic_0 ?_
      exact hb_zret hc rfl (by decide) dd_X6_readBeats_28 h
    · replace h := h.2 z
      refine hb_iconst (q := 24) (v := 1) hc dd_X6_readBeats_23 rfl ic_1 ?_
      refine hb_goto (tg := 28) hc dd_X6_readBeats_24 (by decide) ?_
      exact hb_zret hc rfl (by decide) dd_X6_readBeats_28 h
  · replace h := h.2 z
    refine hb_aload_n (q := 14) hc dd_X6_readBeats_13 rfl rfl ?_
    refine hb_iload_n (q := 15) hc dd_X6_readBeats_14 rfl rfl ?_
    refine hb_callVv (q := 18) (vs := [.int r1]) (st := []) hc mv_X6_85 h sh8 sl8 rfl rfl rfl (Nat.le_of_ble_eq_true rfl) ⟨Nat.le_refl _, Nat.le_refl _⟩ ⟨Nat.le_refl _, Nat.le_refl _⟩ dd_X6_readBeats_15 rfl (fun M2 h => ?_)
    refine hb_iload_n (q := 19) hc dd_X6_readBeats_18 rfl rfl ?_
    refine hb_iconst (q := 20) (v := (-1)) hc dd_X6_readBeats_19 rfl ic_m1 ?_
    refine hb_icmp_eq (q := 23) (tg := 27) hc dd_X6_readBeats_20 rfl (by decide) (fun z => ?_) (fun z => ?_)
    · replace h := h.1 z
      refine hb_iconst (q := 28) (v := 0) hc dd_X6_readBeats_27 rfl ic_0 ?_
      exact hb_zret hc rfl (by decide) dd_X6_readBeats_28 h
    · replace h := h.2 z
      refine hb_iconst (q := 24) (v := 1) hc dd_X6_readBeats_23 rfl ic_1 ?_
      refine hb_goto (tg := 28) hc dd_X6_readBeats_24 (by decide) ?_
      exact hb_zret hc rfl (by decide) dd_X6_readBeats_28 h
theorem w_X6_readWindow {d : Nat} {M : Mm}  {K : Int32 → Mm → Prop}  (h : ACi d X6_readNumber [.ref 1, .int 2, .int (M.1 8 0)] M (fun r1 M1 => (r1 = (-1) → ((r1 = (-1) → (K 0 M1)) ∧ (¬ r1 = (-1) → (K 1 M1)))) ∧ (¬ r1 = (-1) → ((r1 = (-1) → (K 0 (wI M1 8 1 r1))) ∧ (¬ r1 = (-1) → (K 1 (wI M1 8 1 r1))))))) : ACi (d + 1) X6_readWindow [.ref 1, .ref 8] M K := by
  refine AC.ofW (lv := [some (.ref 1), some (.ref 8), none]) pn_X6 (Nat.le_of_ble_eq_true rfl) (show lvLe _ [some (.ref 1), some (.ref 8)] from (lvs (lvs (lve lvz)))) ?_
  intro p l e s m args below meth c G hc
  refine hb_aload_n (q := 1) hc dd_X6_readWindow_0 rfl rfl ?_
  refine hb_iconst (q := 2) (v := 2) hc dd_X6_readWindow_1 rfl ic_2 ?_
  refine hb_aload_n (q := 3) hc dd_X6_readWindow_2 rfl rfl ?_
  refine hb_getI (q := 6) (v := M.1 8 0) hc fl_X6_89 sh8 sl8 rfl rfl dd_X6_readWindow_3 rfl ?_
  refine hb_callVi (q := 9) (vs := [.int 2, .int (M.1 8 0)]) (st := []) hc mv_X6_81 h sh1 sl1 rfl rfl rfl (Nat.le_of_ble_eq_true rfl) ⟨Nat.le_refl _, Nat.le_refl _⟩ ⟨Nat.le_refl _, Nat.le_refl _⟩ dd_X6_readWindow_6 rfl (fun r1 M1 h => ?_)
  refine hb_istore_n (q := 10) (lv' := [some (.ref 1), some (.ref 8), some (.int r1)]) hc dd_X6_readWindow_9 rfl (Nat.le_of_ble_eq_true rfl) rfl ?_
  refine hb_iload_n (q := 11) hc dd_X6_readWindow_10 rfl rfl ?_
  refine hb_iconst (q := 12) (v := (-1)) hc dd_X6_readWindow_11 rfl ic_m1 ?_
  refine hb_icmp_eq (q := 15) (tg := 20) hc dd_X6_readWindow_12 rfl (by decide) (fun z => ?_) (fun z => ?_)
  · replace h := h.1 z
    refine hb_iload_n (q := 21) hc dd_X6_readWindow_20 rfl rfl ?_
    refine hb_iconst (q := 22) (v := (-1)) hc dd_X6_readWindow_21 rfl ic_m1 ?_
    refine hb_icmp_eq (q := 25) (tg := 29) hc dd_X6_readWindow_22 rfl (by decide) (fun z => ?_) (fun z => ?_)
    · replace h := h.1 z
      refine hb_iconst (q := 30) (v := 0) hc dd_X6_readWindow_29 rfl ic_0 ?_
      exact hb_zret hc rfl (by decide) dd_X6_readWindow_30 h
    · replace h := h.2 z
      refine hb_iconst (q := 26) (v := 1) hc dd_X6_readWindow_25 rfl ic_1 ?_
      refine hb_goto (tg := 30) hc dd_X6_readWindow_26 (by decide) ?_
      exact hb_zret hc rfl (by decide) dd_X6_readWindow_30 h
  · replace h := h.2 z
    refine hb_aload_n (q := 16) hc dd_X6_readWindow_15 rfl rfl ?_
    refine hb_iload_n (q := 17) hc dd_X6_readWindow_16 rfl rfl ?_
    refine hb_putI (q := 20) hc fl_X6_91 sh8 sl8 rfl dd_X6_readWindow_17 rfl ?_
    refine hb_iload_n (q := 21) hc dd_X6_readWindow_20 rfl rfl ?_
    refine hb_iconst (q := 22) (v := (-1)) hc dd_X6_readWindow_21 rfl ic_m1 ?_
    refine hb_icmp_eq (q := 25) (tg := 29) hc dd_X6_readWindow_22 rfl (by decide) (fun z => ?_) (fun z => ?_)
    · replace h := h.1 z
      refine hb_iconst (q := 30) (v := 0) hc dd_X6_readWindow_29 rfl ic_0 ?_
      exact hb_zret hc rfl (by decide) dd_X6_readWindow_30 h
    · replace h := h.2 z
      refine hb_iconst (q := 26) (v := 1) hc dd_X6_readWindow_25 rfl ic_1 ?_
      refine hb_goto (tg := 30) hc dd_X6_readWindow_26 (by decide) ?_
      exact hb_zret hc rfl (by decide) dd_X6_readWindow_30 h
theorem w_X6_readSight {d : Nat} {M : Mm}  {K : Int32 → Mm → Prop}  (h : ACi d X6_readNumber [.ref 1, .int 1, .int 99] M (fun r1 M1 => (r1 = (-1) → ((r1 = (-1) → (K 0 M1)) ∧ (¬ r1 = (-1) → (K 1 M1)))) ∧ (¬ r1 = (-1) → ((r1 = (-1) → (K 0 (wI M1 8 2 r1))) ∧ (¬ r1 = (-1) → (K 1 (wI M1 8 2 r1))))))) : ACi (d + 1) X6_readSight [.ref 1, .ref 8] M K := by
  refine AC.ofW (lv := [some (.ref 1), some (.ref 8), none]) pn_X6 (Nat.le_of_ble_eq_true rfl) (show lvLe _ [some (.ref 1), some (.ref 8)] from (lvs (lvs (lve lvz)))) ?_
  intro p l e s m args below meth c G hc
  refine hb_aload_n (q := 1) hc dd_X6_readSight_0 rfl rfl ?_
  refine hb_iconst (q := 2) (v := 1) hc dd_X6_readSight_1 rfl ic_1 ?_
  refine hb_bipush (q := 4) (v := 99) hc dd_X6_readSight_2 rfl bp_99 ?_
  refine hb_callVi (q := 7) (vs := [.int 1, .int 99]) (st := []) hc mv_X6_81 h sh1 sl1 rfl rfl rfl (Nat.le_of_ble_eq_true rfl) ⟨Nat.le_refl _, Nat.le_refl _⟩ ⟨Nat.le_refl _, Nat.le_refl _⟩ dd_X6_readSight_4 rfl (fun r1 M1 h => ?_)
  refine hb_istore_n (q := 8) (lv' := [some (.ref 1), some (.ref 8), some (.int r1)]) hc dd_X6_readSight_7 rfl (Nat.le_of_ble_eq_true rfl) rfl ?_
  refine hb_iload_n (q := 9) hc dd_X6_readSight_8 rfl rfl ?_
  refine hb_iconst (q := 10) (v := (-1)) hc dd_X6_readSight_9 rfl ic_m1 ?_
  refine hb_icmp_eq (q := 13) (tg := 18) hc dd_X6_readSight_10 rfl (by decide) (fun z => ?_) (fun z => ?_)
  · replace h := h.1 z
    refine hb_iload_n (q := 19) hc dd_X6_readSight_18 rfl rfl ?_
    refine hb_iconst (q := 20) (v := (-1)) hc dd_X6_readSight_19 rfl ic_m1 ?_
    refine hb_icmp_eq (q := 23) (tg := 27) hc dd_X6_readSight_20 rfl (by decide) (fun z => ?_) (fun z => ?_)
    · replace h := h.1 z
      refine hb_iconst (q := 28) (v := 0) hc dd_X6_readSight_27 rfl ic_0 ?_
      exact hb_zret hc rfl (by decide) dd_X6_readSight_28 h
    · replace h := h.2 z
      refine hb_iconst (q := 24) (v := 1) hc dd_X6_readSight_23 rfl ic_1 ?_
      refine hb_goto (tg := 28) hc dd_X6_readSight_24 (by decide) ?_
      exact hb_zret hc rfl (by decide) dd_X6_readSight_28 h
  · replace h := h.2 z
    refine hb_aload_n (q := 14) hc dd_X6_readSight_13 rfl rfl ?_
    refine hb_iload_n (q := 15) hc dd_X6_readSight_14 rfl rfl ?_
    refine hb_putI (q := 18) hc fl_X6_93 sh8 sl8 rfl dd_X6_readSight_15 rfl ?_
    refine hb_iload_n (q := 19) hc dd_X6_readSight_18 rfl rfl ?_
    refine hb_iconst (q := 20) (v := (-1)) hc dd_X6_readSight_19 rfl ic_m1 ?_
    refine hb_icmp_eq (q := 23) (tg := 27) hc dd_X6_readSight_20 rfl (by decide) (fun z => ?_) (fun z => ?_)
    · replace h := h.1 z
      refine hb_iconst (q := 28) (v := 0) hc dd_X6_readSight_27 rfl ic_0 ?_
      exact hb_zret hc rfl (by decide) dd_X6_readSight_28 h
    · replace h := h.2 z
      refine hb_iconst (q := 24) (v := 1) hc dd_X6_readSight_23 rfl ic_1 ?_
      refine hb_goto (tg := 28) hc dd_X6_readSight_24 (by decide) ?_
      exact hb_zret hc rfl (by decide) dd_X6_readSight_28 h
def lp_X6_readRhythm_29 (d : Nat) (M : Mm) (v2 : Int32) (v3 : Int32) (K : Int32 → Mm → Prop) : Prop := AW (d + 1) X6_readRhythm M 29 [some (.ref 1), some (.ref 8), some (.int v2), some (.int v3)] [] (QI K)
theorem z_X6_readRhythm_29 {d : Nat} {M : Mm} {v2 : Int32} {v3 : Int32} {K : Int32 → Mm → Prop}  (h : ((M.1 1 4) ≤ v3 → (ACv d X0_addRhythm [.ref 8, .int v2] M (fun M1 => K 1 M1))) ∧ (¬ (M.1 1 4) ≤ v3 → (vp_in v3 200 ∧ (((M.1 2 v3.toNatClampNeg) = 100 → (vp_in v3 200 ∧ ((¬ (M.1 2 v3.toNatClampNeg) = 102 → (lp_X6_readRhythm_29 d M ((v2 <<< ((1 : Int32) &&& 31)) ||| 0) (v3 + 1) K)) ∧ ((M.1 2 v3.toNatClampNeg) = 102 → (lp_X6_readRhythm_29 d M ((v2 <<< ((1 : Int32) &&& 31)) ||| 1) (v3 + 1) K))))) ∧ (¬ (M.1 2 v3.toNatClampNeg) = 100 → (vp_in v3 200 ∧ (((M.1 2 v3.toNatClampNeg) = 102 → (vp_in v3 200 ∧ ((¬ (M.1 2 v3.toNatClampNeg) = 102 → (lp_X6_readRhythm_29 d M ((v2 <<< ((1 : Int32) &&& 31)) ||| 0) (v3 + 1) K)) ∧ ((M.1 2 v3.toNatClampNeg) = 102 → (lp_X6_readRhythm_29 d M ((v2 <<< ((1 : Int32) &&& 31)) ||| 1) (v3 + 1) K))))) ∧ (¬ (M.1 2 v3.toNatClampNeg) = 102 → (K 0 M))))))))) : lp_X6_readRhythm_29 d M v2 v3 K := by
  intro p l e s m args below meth c G hc
  refine hb_iload_n (q := 30) hc dd_X6_readRhythm_29 rfl rfl ?_
  refine hb_aload_n (q := 31) hc dd_X6_readRhythm_30 rfl rfl ?_
  refine hb_getI (q := 34) (v := M.1 1 4) hc fl_X6_19 sh1 sl1 rfl rfl dd_X6_readRhythm_31 rfl ?_
  refine hb_icmp_ge (q := 37) (tg := 88) hc dd_X6_readRhythm_34 rfl (by decide) (fun z => ?_) (fun z => ?_)
  · replace h := h.1 z
    refine hb_aload_n (q := 89) hc dd_X6_readRhythm_88 rfl rfl ?_
    refine hb_iload_n (q := 90) hc dd_X6_readRhythm_89 rfl rfl ?_
    refine hb_callVv (q := 93) (vs := [.int v2]) (st := []) hc mv_X6_95 h sh8 sl8 rfl rfl rfl (Nat.le_of_ble_eq_true rfl) ⟨Nat.le_refl _, Nat.le_refl _⟩ ⟨Nat.le_refl _, Nat.le_refl _⟩ dd_X6_readRhythm_90 rfl (fun M1 h => ?_)
    refine hb_iconst (q := 94) (v := 1) hc dd_X6_readRhythm_93 rfl ic_1 ?_
    exact hb_zret hc rfl (by decide) dd_X6_readRhythm_94 h
  · replace h := h.2 z
    refine hb_aload_n (q := 38) hc dd_X6_readRhythm_37 rfl rfl ?_
    refine hb_getR (q := 41) hc fl_X6_9 sh1 sl1 rfl dd_X6_readRhythm_38 rfl ?_
    refine hb_iload_n (q := 42) hc dd_X6_readRhythm_41 rfl rfl ?_
    obtain ⟨hi, h⟩ := h
    refine hb_iald (q := 43) (v := M.1 2 v3.toNatClampNeg) hc sh2 sl2 hi rfl rfl dd_X6_readRhythm_42 rfl ?_
    refine hb_bipush (q := 45) (v := 100) hc dd_X6_readRhythm_43 rfl bp_100 ?_
    refine hb_icmp_eq (q := 48) (tg := 61) hc dd_X6_readRhythm_45 rfl (by decide) (fun z => ?_) (fun z => ?_)
    · replace h := h.1 z
      refine hb_iload_n (q := 62) hc dd_X6_readRhythm_61 rfl rfl ?_
      refine hb_iconst (q := 63) (v := 1) hc dd_X6_readRhythm_62 rfl ic_1 ?_
      refine hb_ishl (q := 64) hc dd_X6_readRhythm_63 rfl ?_
      refine hb_aload_n (q := 65) hc dd_X6_readRhythm_64 rfl rfl ?_
      refine hb_getR (q := 68) hc fl_X6_9 sh1 sl1 rfl dd_X6_readRhythm_65 rfl ?_
      refine hb_iload_n (q := 69) hc dd_X6_readRhythm_68 rfl rfl ?_
      obtain ⟨hi, h⟩ := h
      refine hb_iald (q := 70) (v := M.1 2 v3.toNatClampNeg) hc sh2 sl2 hi rfl rfl dd_X6_readRhythm_69 rfl ?_
      refine hb_bipush (q := 72) (v := 102) hc dd_X6_readRhythm_70 rfl bp_102 ?_
      refine hb_icmp_ne (q := 75) (tg := 79) hc dd_X6_readRhythm_72 rfl (by decide) (fun z => ?_) (fun z => ?_)
      · replace h := h.1 z
        refine hb_iconst (q := 80) (v := 0) hc dd_X6_readRhythm_79 rfl ic_0 ?_
        refine hb_ior (q := 81) hc dd_X6_readRhythm_80 rfl ?_
        refine hb_istore_n (q := 82) (lv' := [some (.ref 1), some (.ref 8), some (.int ((v2 <<< ((1 : Int32) &&& 31)) ||| 0)), some (.int v3)]) hc dd_X6_readRhythm_81 rfl (Nat.le_of_ble_eq_true rfl) rfl ?_
        refine hb_iinc (q := 85) (v := v3 + 1) (lv' := [some (.ref 1), some (.ref 8), some (.int ((v2 <<< ((1 : Int32) &&& 31)) ||| 0)), some (.int (v3 + 1))]) hc dd_X6_readRhythm_82 rfl rfl rfl (Nat.le_of_ble_eq_true rfl) rfl ?_
        refine hb_goto (tg := 29) hc dd_X6_readRhythm_85 (by decide) ?_
        exact hb_weak (lvs (lvs (lvs (lvs lvz)))) (h p l e s m args below meth c G hc)
      · replace h := h.2 z
        refine hb_iconst (q := 76) (v := 1) hc dd_X6_readRhythm_75 rfl ic_1 ?_
        refine hb_goto (tg := 80) hc dd_X6_readRhythm_76 (by decide) ?_
        refine hb_ior (q := 81) hc dd_X6_readRhythm_80 rfl ?_
        refine hb_istore_n (q := 82) (lv' := [some (.ref 1), some (.ref 8), some (.int ((v2 <<< ((1 : Int32) &&& 31)) ||| 1)), some (.int v3)]) hc dd_X6_readRhythm_81 rfl (Nat.le_of_ble_eq_true rfl) rfl ?_
        refine hb_iinc (q := 85) (v := v3 + 1) (lv' := [some (.ref 1), some (.ref 8), some (.int ((v2 <<< ((1 : Int32) &&& 31)) ||| 1)), some (.int (v3 + 1))]) hc dd_X6_readRhythm_82 rfl rfl rfl (Nat.le_of_ble_eq_true rfl) rfl ?_
        refine hb_goto (tg := 29) hc dd_X6_readRhythm_85 (by decide) ?_
        exact hb_weak (lvs (lvs (lvs (lvs lvz)))) (h p l e s m args below meth c G hc)
    · replace h := h.2 z
      refine hb_aload_n (q := 49) hc dd_X6_readRhythm_48 rfl rfl ?_
      refine hb_getR (q := 52) hc fl_X6_9 sh1 sl1 rfl dd_X6_readRhythm_49 rfl ?_
      refine hb_iload_n (q := 53) hc dd_X6_readRhythm_52 rfl rfl ?_
      obtain ⟨hi, h⟩ := h
      refine hb_iald (q := 54) (v := M.1 2 v3.toNatClampNeg) hc sh2 sl2 hi rfl rfl dd_X6_readRhythm_53 rfl ?_
      refine hb_bipush (q := 56) (v := 102) hc dd_X6_readRhythm_54 rfl bp_102 ?_
      refine hb_icmp_eq (q := 59) (tg := 61) hc dd_X6_readRhythm_56 rfl (by decide) (fun z => ?_) (fun z => ?_)
      · replace h := h.1 z
        refine hb_iload_n (q := 62) hc dd_X6_readRhythm_61 rfl rfl ?_
        refine hb_iconst (q := 63) (v := 1) hc dd_X6_readRhythm_62 rfl ic_1 ?_
        refine hb_ishl (q := 64) hc dd_X6_readRhythm_63 rfl ?_
        refine hb_aload_n (q := 65) hc dd_X6_readRhythm_64 rfl rfl ?_
        refine hb_getR (q := 68) hc fl_X6_9 sh1 sl1 rfl dd_X6_readRhythm_65 rfl ?_
        refine hb_iload_n (q := 69) hc dd_X6_readRhythm_68 rfl rfl ?_
        obtain ⟨hi, h⟩ := h
        refine hb_iald (q := 70) (v := M.1 2 v3.toNatClampNeg) hc sh2 sl2 hi rfl rfl dd_X6_readRhythm_69 rfl ?_
        refine hb_bipush (q := 72) (v := 102) hc dd_X6_readRhythm_70 rfl bp_102 ?_
        refine hb_icmp_ne (q := 75) (tg := 79) hc dd_X6_readRhythm_72 rfl (by decide) (fun z => ?_) (fun z => ?_)
        · replace h := h.1 z
          refine hb_iconst (q := 80) (v := 0) hc dd_X6_readRhythm_79 rfl ic_0 ?_
          refine hb_ior (q := 81) hc dd_X6_readRhythm_80 rfl ?_
          refine hb_istore_n (q := 82) (lv' := [some (.ref 1), some (.ref 8), some (.int ((v2 <<< ((1 : Int32) &&& 31)) ||| 0)), some (.int v3)]) hc dd_X6_readRhythm_81 rfl (Nat.le_of_ble_eq_true rfl) rfl ?_
          refine hb_iinc (q := 85) (v := v3 + 1) (lv' := [some (.ref 1), some (.ref 8), some (.int ((v2 <<< ((1 : Int32) &&& 31)) ||| 0)), some (.int (v3 + 1))]) hc dd_X6_readRhythm_82 rfl rfl rfl (Nat.le_of_ble_eq_true rfl) rfl ?_
          refine hb_goto (tg := 29) hc dd_X6_readRhythm_85 (by decide) ?_
          exact hb_weak (lvs (lvs (lvs (lvs lvz)))) (h p l e s m args below meth c G hc)
        · replace h := h.2 z
          refine hb_iconst (q := 76) (v := 1) hc dd_X6_readRhythm_75 rfl ic_1 ?_
          refine hb_goto (tg := 80) hc dd_X6_readRhythm_76 (by decide) ?_
          refine hb_ior (q := 81) hc dd_X6_readRhythm_80 rfl ?_
          refine hb_istore_n (q := 82) (lv' := [some (.ref 1), some (.ref 8), some (.int ((v2 <<< ((1 : Int32) &&& 31)) ||| 1)), some (.int v3)]) hc dd_X6_readRhythm_81 rfl (Nat.le_of_ble_eq_true rfl) rfl ?_
          refine hb_iinc (q := 85) (v := v3 + 1) (lv' := [some (.ref 1), some (.ref 8), some (.int ((v2 <<< ((1 : Int32) &&& 31)) ||| 1)), some (.int (v3 + 1))]) hc dd_X6_readRhythm_82 rfl rfl rfl (Nat.le_of_ble_eq_true rfl) rfl ?_
          refine hb_goto (tg := 29) hc dd_X6_readRhythm_85 (by decide) ?_
          exact hb_weak (lvs (lvs (lvs (lvs lvz)))) (h p l e s m args below meth c G hc)
      · replace h := h.2 z
        refine hb_iconst (q := 60) (v := 0) hc dd_X6_readRhythm_59 rfl ic_0 ?_
        exact hb_zret hc rfl (by decide) dd_X6_readRhythm_60 h
theorem w_X6_readRhythm {d : Nat} {M : Mm}  {K : Int32 → Mm → Prop}  (h : ACv d X6_advance [.ref 1] M (fun M1 => (((M1.1 1 4) - (M1.1 1 3)) = (M1.1 8 0) → (lp_X6_readRhythm_29 d M1 0 (M1.1 1 3) K)) ∧ (¬ ((M1.1 1 4) - (M1.1 1 3)) = (M1.1 8 0) → (K 0 M1)))) : ACi (d + 1) X6_readRhythm [.ref 1, .ref 8] M K := by
  refine AC.ofW (lv := [some (.ref 1), some (.ref 8), none, none]) pn_X6 (Nat.le_of_ble_eq_true rfl) (show lvLe _ [some (.ref 1), some (.ref 8)] from (lvs (lvs (lve (lve lvz))))) ?_
  intro p l e s m args below meth c G hc
  refine hb_aload_n (q := 1) hc dd_X6_readRhythm_0 rfl rfl ?_
  refine hb_callVv (q := 4) (vs := []) (st := []) hc mv_X6_22 h sh1 sl1 rfl rfl rfl (Nat.le_of_ble_eq_true rfl) ⟨Nat.le_refl _, Nat.le_refl _⟩ ⟨Nat.le_refl _, Nat.le_refl _⟩ dd_X6_readRhythm_1 rfl (fun M1 h => ?_)
  refine hb_aload_n (q := 5) hc dd_X6_readRhythm_4 rfl rfl ?_
  refine hb_getI (q := 8) (v := M1.1 1 4) hc fl_X6_19 sh1 sl1 rfl rfl dd_X6_readRhythm_5 rfl ?_
  refine hb_aload_n (q := 9) hc dd_X6_readRhythm_8 rfl rfl ?_
  refine hb_getI (q := 12) (v := M1.1 1 3) hc fl_X6_29 sh1 sl1 rfl rfl dd_X6_readRhythm_9 rfl ?_
  refine hb_isub (q := 13) hc dd_X6_readRhythm_12 rfl ?_
  refine hb_aload_n (q := 14) hc dd_X6_readRhythm_13 rfl rfl ?_
  refine hb_getI (q := 17) (v := M1.1 8 0) hc fl_X6_89 sh8 sl8 rfl rfl dd_X6_readRhythm_14 rfl ?_
  refine hb_icmp_eq (q := 20) (tg := 22) hc dd_X6_readRhythm_17 rfl (by decide) (fun z => ?_) (fun z => ?_)
  · replace h := h.1 z
    refine hb_iconst (q := 23) (v := 0) hc dd_X6_readRhythm_22 rfl ic_0 ?_
    refine hb_istore_n (q := 24) (lv' := [some (.ref 1), some (.ref 8), some (.int 0), none]) hc dd_X6_readRhythm_23 rfl (Nat.le_of_ble_eq_true rfl) rfl ?_
    refine hb_aload_n (q := 25) hc dd_X6_readRhythm_24 rfl rfl ?_
    refine hb_getI (q := 28) (v := M1.1 1 3) hc fl_X6_29 sh1 sl1 rfl rfl dd_X6_readRhythm_25 rfl ?_
    refine hb_istore_n (q := 29) (lv' := [some (.ref 1), some (.ref 8), some (.int 0), some (.int (M1.1 1 3))]) hc dd_X6_readRhythm_28 rfl (Nat.le_of_ble_eq_true rfl) rfl ?_
    exact hb_weak (lvs (lvs (lvs (lvs lvz)))) (h p l e s m args below meth c G hc)
  · replace h := h.2 z
    refine hb_iconst (q := 21) (v := 0) hc dd_X6_readRhythm_20 rfl ic_0 ?_
    exact hb_zret hc rfl (by decide) dd_X6_readRhythm_21 h
theorem w_X6_readLight {d : Nat} {M : Mm}  {K : Int32 → Mm → Prop}  (h : ACi d X6_readNumber [.ref 1, .int 0, .int 99] M (fun r1 M1 => (r1 = (-1) → ((r1 = (-1) → (K 0 M1)) ∧ (¬ r1 = (-1) → (K 1 M1)))) ∧ (¬ r1 = (-1) → (ACv d X2_addAt [.ref 10, .int r1] M1 (fun M2 => (r1 = (-1) → (K 0 M2)) ∧ (¬ r1 = (-1) → (K 1 M2))))))) : ACi (d + 1) X6_readLight [.ref 1, .ref 8] M K := by
  refine AC.ofW (lv := [some (.ref 1), some (.ref 8), none]) pn_X6 (Nat.le_of_ble_eq_true rfl) (show lvLe _ [some (.ref 1), some (.ref 8)] from (lvs (lvs (lve lvz)))) ?_
  intro p l e s m args below meth c G hc
  refine hb_aload_n (q := 1) hc dd_X6_readLight_0 rfl rfl ?_
  refine hb_iconst (q := 2) (v := 0) hc dd_X6_readLight_1 rfl ic_0 ?_
  refine hb_bipush (q := 4) (v := 99) hc dd_X6_readLight_2 rfl bp_99 ?_
  refine hb_callVi (q := 7) (vs := [.int 0, .int 99]) (st := []) hc mv_X6_81 h sh1 sl1 rfl rfl rfl (Nat.le_of_ble_eq_true rfl) ⟨Nat.le_refl _, Nat.le_refl _⟩ ⟨Nat.le_refl _, Nat.le_refl _⟩ dd_X6_readLight_4 rfl (fun r1 M1 h => ?_)
  refine hb_istore_n (q := 8) (lv' := [some (.ref 1), some (.ref 8), some (.int r1)]) hc dd_X6_readLight_7 rfl (Nat.le_of_ble_eq_true rfl) rfl ?_
  refine hb_iload_n (q := 9) hc dd_X6_readLight_8 rfl rfl ?_
  refine hb_iconst (q := 10) (v := (-1)) hc dd_X6_readLight_9 rfl ic_m1 ?_
  refine hb_icmp_eq (q := 13) (tg := 21) hc dd_X6_readLight_10 rfl (by decide) (fun z => ?_) (fun z => ?_)
  · replace h := h.1 z
    refine hb_iload_n (q := 22) hc dd_X6_readLight_21 rfl rfl ?_
    refine hb_iconst (q := 23) (v := (-1)) hc dd_X6_readLight_22 rfl ic_m1 ?_
    refine hb_icmp_eq (q := 26) (tg := 30) hc dd_X6_readLight_23 rfl (by decide) (fun z => ?_) (fun z => ?_)
    · replace h := h.1 z
      refine hb_iconst (q := 31) (v := 0) hc dd_X6_readLight_30 rfl ic_0 ?_
      exact hb_zret hc rfl (by decide) dd_X6_readLight_31 h
    · replace h := h.2 z
      refine hb_iconst (q := 27) (v := 1) hc dd_X6_readLight_26 rfl ic_1 ?_
      refine hb_goto (tg := 31) hc dd_X6_readLight_27 (by decide) ?_
      exact hb_zret hc rfl (by decide) dd_X6_readLight_31 h
  · replace h := h.2 z
    refine hb_aload_n (q := 14) hc dd_X6_readLight_13 rfl rfl ?_
    refine hb_getR (q := 17) hc fl_X6_66 sh8 sl8 rfl dd_X6_readLight_14 rfl ?_
    refine hb_iload_n (q := 18) hc dd_X6_readLight_17 rfl rfl ?_
    refine hb_callVv (q := 21) (vs := [.int r1]) (st := []) hc mv_X6_98 h sh10 sl10 rfl rfl rfl (Nat.le_of_ble_eq_true rfl) ⟨Nat.le_refl _, Nat.le_refl _⟩ ⟨Nat.le_refl _, Nat.le_refl _⟩ dd_X6_readLight_18 rfl (fun M2 h => ?_)
    refine hb_iload_n (q := 22) hc dd_X6_readLight_21 rfl rfl ?_
    refine hb_iconst (q := 23) (v := (-1)) hc dd_X6_readLight_22 rfl ic_m1 ?_
    refine hb_icmp_eq (q := 26) (tg := 30) hc dd_X6_readLight_23 rfl (by decide) (fun z => ?_) (fun z => ?_)
    · replace h := h.1 z
      refine hb_iconst (q := 31) (v := 0) hc dd_X6_readLight_30 rfl ic_0 ?_
      exact hb_zret hc rfl (by decide) dd_X6_readLight_31 h
    · replace h := h.2 z
      refine hb_iconst (q := 27) (v := 1) hc dd_X6_readLight_26 rfl ic_1 ?_
      refine hb_goto (tg := 31) hc dd_X6_readLight_27 (by decide) ?_
      exact hb_zret hc rfl (by decide) dd_X6_readLight_31 h
theorem w_X6_readLit {d : Nat} {M : Mm}  {K : Int32 → Mm → Prop}  (h : ACi d X6_readNumber [.ref 1, .int 0, .int ((M.1 10 0) - 1)] M (fun r1 M1 => (¬ r1 = (-1) → (ACi d X6_readNumber [.ref 1, .int 0, .int ((M1.1 8 3) - 1)] M1 (fun r2 M2 => (r2 = (-1) → ((r2 = (-1) → (K 0 M2)) ∧ (¬ r2 = (-1) → (K 1 M2)))) ∧ (¬ r2 = (-1) → (vp_in r1 6 ∧ ((r2 = (-1) → (K 0 (wI M2 12 r1.toNatClampNeg r2))) ∧ (¬ r2 = (-1) → (K 1 (wI M2 12 r1.toNatClampNeg r2))))))))) ∧ (r1 = (-1) → (K 0 M1)))) : ACi (d + 1) X6_readLit [.ref 1, .ref 8] M K := by
  refine AC.ofW (lv := [some (.ref 1), some (.ref 8), none, none]) pn_X6 (Nat.le_of_ble_eq_true rfl) (show lvLe _ [some (.ref 1), some (.ref 8)] from (lvs (lvs (lve (lve lvz))))) ?_
  intro p l e s m args below meth c G hc
  refine hb_aload_n (q := 1) hc dd_X6_readLit_0 rfl rfl ?_
  refine hb_iconst (q := 2) (v := 0) hc dd_X6_readLit_1 rfl ic_0 ?_
  refine hb_aload_n (q := 3) hc dd_X6_readLit_2 rfl rfl ?_
  refine hb_getR (q := 6) hc fl_X6_66 sh8 sl8 rfl dd_X6_readLit_3 rfl ?_
  refine hb_getI (q := 9) (v := M.1 10 0) hc fl_X6_70 sh10 sl10 rfl rfl dd_X6_readLit_6 rfl ?_
  refine hb_iconst (q := 10) (v := 1) hc dd_X6_readLit_9 rfl ic_1 ?_
  refine hb_isub (q := 11) hc dd_X6_readLit_10 rfl ?_
  refine hb_callVi (q := 14) (vs := [.int 0, .int ((M.1 10 0) - 1)]) (st := []) hc mv_X6_81 h sh1 sl1 rfl rfl rfl (Nat.le_of_ble_eq_true rfl) ⟨Nat.le_refl _, Nat.le_refl _⟩ ⟨Nat.le_refl _, Nat.le_refl _⟩ dd_X6_readLit_11 rfl (fun r1 M1 h => ?_)
  refine hb_istore_n (q := 15) (lv' := [some (.ref 1), some (.ref 8), some (.int r1), none]) hc dd_X6_readLit_14 rfl (Nat.le_of_ble_eq_true rfl) rfl ?_
  refine hb_iload_n (q := 16) hc dd_X6_readLit_15 rfl rfl ?_
  refine hb_iconst (q := 17) (v := (-1)) hc dd_X6_readLit_16 rfl ic_m1 ?_
  refine hb_icmp_ne (q := 20) (tg := 22) hc dd_X6_readLit_17 rfl (by decide) (fun z => ?_) (fun z => ?_)
  · replace h := h.1 z
    refine hb_aload_n (q := 23) hc dd_X6_readLit_22 rfl rfl ?_
    refine hb_iconst (q := 24) (v := 0) hc dd_X6_readLit_23 rfl ic_0 ?_
    refine hb_aload_n (q := 25) hc dd_X6_readLit_24 rfl rfl ?_
    refine hb_getI (q := 28) (v := M1.1 8 3) hc fl_X6_56 sh8 sl8 rfl rfl dd_X6_readLit_25 rfl ?_
    refine hb_iconst (q := 29) (v := 1) hc dd_X6_readLit_28 rfl ic_1 ?_
    refine hb_isub (q := 30) hc dd_X6_readLit_29 rfl ?_
    refine hb_callVi (q := 33) (vs := [.int 0, .int ((M1.1 8 3) - 1)]) (st := []) hc mv_X6_81 h sh1 sl1 rfl rfl rfl (Nat.le_of_ble_eq_true rfl) ⟨Nat.le_refl _, Nat.le_refl _⟩ ⟨Nat.le_refl _, Nat.le_refl _⟩ dd_X6_readLit_30 rfl (fun r2 M2 h => ?_)
    refine hb_istore_n (q := 34) (lv' := [some (.ref 1), some (.ref 8), some (.int r1), some (.int r2)]) hc dd_X6_readLit_33 rfl (Nat.le_of_ble_eq_true rfl) rfl ?_
    refine hb_iload_n (q := 35) hc dd_X6_readLit_34 rfl rfl ?_
    refine hb_iconst (q := 36) (v := (-1)) hc dd_X6_readLit_35 rfl ic_m1 ?_
    refine hb_icmp_eq (q := 39) (tg := 49) hc dd_X6_readLit_36 rfl (by decide) (fun z => ?_) (fun z => ?_)
    · replace h := h.1 z
      refine hb_iload_n (q := 50) hc dd_X6_readLit_49 rfl rfl ?_
      refine hb_iconst (q := 51) (v := (-1)) hc dd_X6_readLit_50 rfl ic_m1 ?_
      refine hb_icmp_eq (q := 54) (tg := 58) hc dd_X6_readLit_51 rfl (by decide) (fun z => ?_) (fun z => ?_)
      · replace h := h.1 z
        refine hb_iconst (q := 59) (v := 0) hc dd_X6_readLit_58 rfl ic_0 ?_
        exact hb_zret hc rfl (by decide) dd_X6_readLit_59 h
      · replace h := h.2 z
        refine hb_iconst (q := 55) (v := 1) hc dd_X6_readLit_54 rfl ic_1 ?_
        refine hb_goto (tg := 59) hc dd_X6_readLit_55 (by decide) ?_
        exact hb_zret hc rfl (by decide) dd_X6_readLit_59 h
    · replace h := h.2 z
      refine hb_aload_n (q := 40) hc dd_X6_readLit_39 rfl rfl ?_
      refine hb_getR (q := 43) hc fl_X6_66 sh8 sl8 rfl dd_X6_readLit_40 rfl ?_
      refine hb_getR (q := 46) hc fl_X6_101 sh10 sl10 rfl dd_X6_readLit_43 rfl ?_
      refine hb_iload_n (q := 47) hc dd_X6_readLit_46 rfl rfl ?_
      refine hb_iload_n (q := 48) hc dd_X6_readLit_47 rfl rfl ?_
      obtain ⟨hi, h⟩ := h
      refine hb_iast (q := 49) hc sh12 sl12 hi rfl dd_X6_readLit_48 rfl ?_
      refine hb_iload_n (q := 50) hc dd_X6_readLit_49 rfl rfl ?_
      refine hb_iconst (q := 51) (v := (-1)) hc dd_X6_readLit_50 rfl ic_m1 ?_
      refine hb_icmp_eq (q := 54) (tg := 58) hc dd_X6_readLit_51 rfl (by decide) (fun z => ?_) (fun z => ?_)
      · replace h := h.1 z
        refine hb_iconst (q := 59) (v := 0) hc dd_X6_readLit_58 rfl ic_0 ?_
        exact hb_zret hc rfl (by decide) dd_X6_readLit_59 h
      · replace h := h.2 z
        refine hb_iconst (q := 55) (v := 1) hc dd_X6_readLit_54 rfl ic_1 ?_
        refine hb_goto (tg := 59) hc dd_X6_readLit_55 (by decide) ?_
        exact hb_zret hc rfl (by decide) dd_X6_readLit_59 h
  · replace h := h.2 z
    refine hb_iconst (q := 21) (v := 0) hc dd_X6_readLit_20 rfl ic_0 ?_
    exact hb_zret hc rfl (by decide) dd_X6_readLit_21 h
def lp_X6_readNumber_35 (d : Nat) (M : Mm) (v1 : Int32) (v2 : Int32) (v4 : Int32) (v5 : Int32) (K : Int32 → Mm → Prop) : Prop := AW (d + 1) X6_readNumber M 35 [some (.ref 1), some (.int v1), some (.int v2), none, some (.int v4), some (.int v5)] [] (QI K)
theorem z_X6_readNumber_35 {d : Nat} {M : Mm} {v1 : Int32} {v2 : Int32} {v4 : Int32} {v5 : Int32} {K : Int32 → Mm → Prop}  (h : ((M.1 1 4) ≤ v5 → ((v4 < v1 → (K (-1) M)) ∧ (¬ v4 < v1 → ((v4 ≤ v2 → (K v4 M)) ∧ (¬ v4 ≤ v2 → (K (-1) M)))))) ∧ (¬ (M.1 1 4) ≤ v5 → (vp_in v5 200 ∧ (ACi d X6_isDigit [.int (M.1 2 v5.toNatClampNeg)] M (fun r1 M1 => (¬ r1 = 0 → (vp_in v5 200 ∧ (lp_X6_readNumber_35 d M1 v1 v2 (((v4 * 10) + (M1.1 2 v5.toNatClampNeg)) - 48) (v5 + 1) K))) ∧ (r1 = 0 → (K (-1) M1))))))) : lp_X6_readNumber_35 d M v1 v2 v4 v5 K := by
  intro p l e s m args below meth c G hc
  refine hb_iload (q := 37) hc dd_X6_readNumber_35 rfl rfl ?_
  refine hb_aload_n (q := 38) hc dd_X6_readNumber_37 rfl rfl ?_
  refine hb_getI (q := 41) (v := M.1 1 4) hc fl_X6_19 sh1 sl1 rfl rfl dd_X6_readNumber_38 rfl ?_
  refine hb_icmp_ge (q := 44) (tg := 83) hc dd_X6_readNumber_41 rfl (by decide) (fun z => ?_) (fun z => ?_)
  · replace h := h.1 z
    refine hb_iload (q := 85) hc dd_X6_readNumber_83 rfl rfl ?_
    refine hb_iload_n (q := 86) hc dd_X6_readNumber_85 rfl rfl ?_
    refine hb_icmp_lt (q := 89) (tg := 95) hc dd_X6_readNumber_86 rfl (by decide) (fun z => ?_) (fun z => ?_)
    · replace h := h.1 z
      refine hb_iconst (q := 96) (v := (-1)) hc dd_X6_readNumber_95 rfl ic_m1 ?_
      refine hb_goto (tg := 101) hc dd_X6_readNumber_96 (by decide) ?_
      exact hb_iret hc rfl dd_X6_readNumber_101 h
    · replace h := h.2 z
      refine hb_iload (q := 91) hc dd_X6_readNumber_89 rfl rfl ?_
      refine hb_iload_n (q := 92) hc dd_X6_readNumber_91 rfl rfl ?_
      refine hb_icmp_le (q := 95) (tg := 99) hc dd_X6_readNumber_92 rfl (by decide) (fun z => ?_) (fun z => ?_)
      · replace h := h.1 z
        refine hb_iload (q := 101) hc dd_X6_readNumber_99 rfl rfl ?_
        exact hb_iret hc rfl dd_X6_readNumber_101 h
      · replace h := h.2 z
        refine hb_iconst (q := 96) (v := (-1)) hc dd_X6_readNumber_95 rfl ic_m1 ?_
        refine hb_goto (tg := 101) hc dd_X6_readNumber_96 (by decide) ?_
        exact hb_iret hc rfl dd_X6_readNumber_101 h
  · replace h := h.2 z
    refine hb_aload_n (q := 45) hc dd_X6_readNumber_44 rfl rfl ?_
    refine hb_getR (q := 48) hc fl_X6_9 sh1 sl1 rfl dd_X6_readNumber_45 rfl ?_
    refine hb_iload (q := 50) hc dd_X6_readNumber_48 rfl rfl ?_
    obtain ⟨hi, h⟩ := h
    refine hb_iald (q := 51) (v := M.1 2 v5.toNatClampNeg) hc sh2 sl2 hi rfl rfl dd_X6_readNumber_50 rfl ?_
    refine hb_callSi (q := 54) (vs := [.int (M.1 2 v5.toNatClampNeg)]) (st := []) hc mv_X6_104 h rfl rfl (Nat.le_of_ble_eq_true rfl) ⟨Nat.le_refl _, Nat.le_refl _⟩ ⟨Nat.le_refl _, Nat.le_refl _⟩ dd_X6_readNumber_51 rfl (fun r1 M1 h => ?_)
    refine hb_if_ne (q := 57) (tg := 59) hc dd_X6_readNumber_54 rfl (by decide) (fun z => ?_) (fun z => ?_)
    · replace h := h.1 z
      refine hb_iload (q := 61) hc dd_X6_readNumber_59 rfl rfl ?_
      refine hb_bipush (q := 63) (v := 10) hc dd_X6_readNumber_61 rfl bp_10 ?_
      refine hb_imul (q := 64) hc dd_X6_readNumber_63 rfl ?_
      refine hb_aload_n (q := 65) hc dd_X6_readNumber_64 rfl rfl ?_
      refine hb_getR (q := 68) hc fl_X6_9 sh1 sl1 rfl dd_X6_readNumber_65 rfl ?_
      refine hb_iload (q := 70) hc dd_X6_readNumber_68 rfl rfl ?_
      obtain ⟨hi, h⟩ := h
      refine hb_iald (q := 71) (v := M1.1 2 v5.toNatClampNeg) hc sh2 sl2 hi rfl rfl dd_X6_readNumber_70 rfl ?_
      refine hb_iadd (q := 72) hc dd_X6_readNumber_71 rfl ?_
      refine hb_bipush (q := 74) (v := 48) hc dd_X6_readNumber_72 rfl bp_48 ?_
      refine hb_isub (q := 75) hc dd_X6_readNumber_74 rfl ?_
      refine hb_istore (q := 77) (lv' := [some (.ref 1), some (.int v1), some (.int v2), none, some (.int (((v4 * 10) + (M1.1 2 v5.toNatClampNeg)) - 48)), some (.int v5)]) hc dd_X6_readNumber_75 rfl (Nat.le_of_ble_eq_true rfl) rfl ?_
      refine hb_iinc (q := 80) (v := v5 + 1) (lv' := [some (.ref 1), some (.int v1), some (.int v2), none, some (.int (((v4 * 10) + (M1.1 2 v5.toNatClampNeg)) - 48)), some (.int (v5 + 1))]) hc dd_X6_readNumber_77 rfl rfl rfl (Nat.le_of_ble_eq_true rfl) rfl ?_
      refine hb_goto (tg := 35) hc dd_X6_readNumber_80 (by decide) ?_
      exact hb_weak (lvs (lvs (lvs (lvn (lvs (lvs lvz)))))) (h p l e s m args below meth c G hc)
    · replace h := h.2 z
      refine hb_iconst (q := 58) (v := (-1)) hc dd_X6_readNumber_57 rfl ic_m1 ?_
      exact hb_iret hc rfl dd_X6_readNumber_58 h
theorem w_X6_readNumber {d : Nat} {M : Mm} {v1 : Int32} {v2 : Int32} {K : Int32 → Mm → Prop}  (h : ACv d X6_advance [.ref 1] M (fun M1 => (((M1.1 1 4) - (M1.1 1 3)) < 1 → (K (-1) M1)) ∧ (¬ ((M1.1 1 4) - (M1.1 1 3)) < 1 → ((((M1.1 1 4) - (M1.1 1 3)) ≤ 2 → (lp_X6_readNumber_35 d M1 v1 v2 0 (M1.1 1 3) K)) ∧ (¬ ((M1.1 1 4) - (M1.1 1 3)) ≤ 2 → (K (-1) M1)))))) : ACi (d + 1) X6_readNumber [.ref 1, .int v1, .int v2] M K := by
  refine AC.ofW (lv := [some (.ref 1), some (.int v1), some (.int v2), none, none, none]) pn_X6 (Nat.le_of_ble_eq_true rfl) (show lvLe _ [some (.ref 1), some (.int v1), some (.int v2)] from (lvs (lvs (lvs (lve (lve (lve lvz))))))) ?_
  intro p l e s m args below meth c G hc
  refine hb_aload_n (q := 1) hc dd_X6_readNumber_0 rfl rfl ?_
  refine hb_callVv (q := 4) (vs := []) (st := []) hc mv_X6_22 h sh1 sl1 rfl rfl rfl (Nat.le_of_ble_eq_true rfl) ⟨Nat.le_refl _, Nat.le_refl _⟩ ⟨Nat.le_refl _, Nat.le_refl _⟩ dd_X6_readNumber_1 rfl (fun M1 h => ?_)
  refine hb_aload_n (q := 5) hc dd_X6_readNumber_4 rfl rfl ?_
  refine hb_getI (q := 8) (v := M1.1 1 4) hc fl_X6_19 sh1 sl1 rfl rfl dd_X6_readNumber_5 rfl ?_
  refine hb_aload_n (q := 9) hc dd_X6_readNumber_8 rfl rfl ?_
  refine hb_getI (q := 12) (v := M1.1 1 3) hc fl_X6_29 sh1 sl1 rfl rfl dd_X6_readNumber_9 rfl ?_
  refine hb_isub (q := 13) hc dd_X6_readNumber_12 rfl ?_
  refine hb_istore_n (q := 14) (lv' := [some (.ref 1), some (.int v1), some (.int v2), some (.int ((M1.1 1 4) - (M1.1 1 3))), none, none]) hc dd_X6_readNumber_13 rfl (Nat.le_of_ble_eq_true rfl) rfl ?_
  refine hb_iload_n (q := 15) hc dd_X6_readNumber_14 rfl rfl ?_
  refine hb_iconst (q := 16) (v := 1) hc dd_X6_readNumber_15 rfl ic_1 ?_
  refine hb_icmp_lt (q := 19) (tg := 24) hc dd_X6_readNumber_16 rfl (by decide) (fun z => ?_) (fun z => ?_)
  · replace h := h.1 z
    refine hb_iconst (q := 25) (v := (-1)) hc dd_X6_readNumber_24 rfl ic_m1 ?_
    exact hb_iret hc rfl dd_X6_readNumber_25 h
  · replace h := h.2 z
    refine hb_iload_n (q := 20) hc dd_X6_readNumber_19 rfl rfl ?_
    refine hb_iconst (q := 21) (v := 2) hc dd_X6_readNumber_20 rfl ic_2 ?_
    refine hb_icmp_le (q := 24) (tg := 26) hc dd_X6_readNumber_21 rfl (by decide) (fun z => ?_) (fun z => ?_)
    · replace h := h.1 z
      refine hb_iconst (q := 27) (v := 0) hc dd_X6_readNumber_26 rfl ic_0 ?_
      refine hb_istore (q := 29) (lv' := [some (.ref 1), some (.int v1), some (.int v2), some (.int ((M1.1 1 4) - (M1.1 1 3))), some (.int 0), none]) hc dd_X6_readNumber_27 rfl (Nat.le_of_ble_eq_true rfl) rfl ?_
      refine hb_aload_n (q := 30) hc dd_X6_readNumber_29 rfl rfl ?_
      refine hb_getI (q := 33) (v := M1.1 1 3) hc fl_X6_29 sh1 sl1 rfl rfl dd_X6_readNumber_30 rfl ?_
      refine hb_istore (q := 35) (lv' := [some (.ref 1), some (.int v1), some (.int v2), some (.int ((M1.1 1 4) - (M1.1 1 3))), some (.int 0), some (.int (M1.1 1 3))]) hc dd_X6_readNumber_33 rfl (Nat.le_of_ble_eq_true rfl) rfl ?_
      exact hb_weak (lvs (lvs (lvs (lvn (lvs (lvs lvz)))))) (h p l e s m args below meth c G hc)
    · replace h := h.2 z
      refine hb_iconst (q := 25) (v := (-1)) hc dd_X6_readNumber_24 rfl ic_m1 ?_
      exact hb_iret hc rfl dd_X6_readNumber_25 h
def lp_X6_advance_8 (d : Nat) (M : Mm)  (K : Mm → Prop) : Prop := AW (d + 1) X6_advance M 8 [some (.ref 1), none, none] [] (QV K)
def lp_X6_advance_102 (d : Nat) (M : Mm) (v1 : Int32) (v2 : Int32) (K : Mm → Prop) : Prop := AW (d + 1) X6_advance M 102 [some (.ref 1), some (.int v1), some (.int v2)] [] (QV K)
theorem z_X6_advance_8 {d : Nat} {M : Mm}  {K : Mm → Prop}  (h : ((M.1 1 0) ≤ (M.1 1 3) → (((M.1 1 3) < (M.1 1 0) → (vp_in (M.1 1 3) 200 ∧ (ACi d X6_isSmall [.int (M.1 2 ((M.1 1 3).toNatClampNeg))] (wI (wI M 1 4 (M.1 1 3)) 1 4 ((M.1 1 3) + 1)) (fun r1 M1 => vp_in (M1.1 1 3) 200 ∧ (ACi d X6_isDigit [.int (M1.1 2 ((M1.1 1 3).toNatClampNeg))] M1 (fun r2 M2 => lp_X6_advance_102 d M2 r1 r2 K)))))) ∧ (¬ (M.1 1 3) < (M.1 1 0) → (K (wI M 1 4 (M.1 1 3)))))) ∧ (¬ (M.1 1 0) ≤ (M.1 1 3) → (vp_in (M.1 1 3) 200 ∧ ((¬ (M.1 2 ((M.1 1 3).toNatClampNeg)) = 32 → (((M.1 1 3) < (M.1 1 0) → (vp_in (M.1 1 3) 200 ∧ (ACi d X6_isSmall [.int (M.1 2 ((M.1 1 3).toNatClampNeg))] (wI (wI M 1 4 (M.1 1 3)) 1 4 ((M.1 1 3) + 1)) (fun r3 M3 => vp_in (M3.1 1 3) 200 ∧ (ACi d X6_isDigit [.int (M3.1 2 ((M3.1 1 3).toNatClampNeg))] M3 (fun r4 M4 => lp_X6_advance_102 d M4 r3 r4 K)))))) ∧ (¬ (M.1 1 3) < (M.1 1 0) → (K (wI M 1 4 (M.1 1 3)))))) ∧ ((M.1 2 ((M.1 1 3).toNatClampNeg)) = 32 → (lp_X6_advance_8 d (wI M 1 3 ((M.1 1 3) + 1)) K)))))) : lp_X6_advance_8 d M  K := by
  intro p l e s m args below meth c G hc
  refine hb_aload_n (q := 9) hc dd_X6_advance_8 rfl rfl ?_
  refine hb_getI (q := 12) (v := M.1 1 3) hc fl_X6_29 sh1 sl1 rfl rfl dd_X6_advance_9 rfl ?_
  refine hb_aload_n (q := 13) hc dd_X6_advance_12 rfl rfl ?_
  refine hb_getI (q := 16) (v := M.1 1 0) hc fl_X6_15 sh1 sl1 rfl rfl dd_X6_advance_13 rfl ?_
  refine hb_icmp_ge (q := 19) (tg := 46) hc dd_X6_advance_16 rfl (by decide) (fun z => ?_) (fun z => ?_)
  · replace h := h.1 z
    refine hb_aload_n (q := 47) hc dd_X6_advance_46 rfl rfl ?_
    refine hb_aload_n (q := 48) hc dd_X6_advance_47 rfl rfl ?_
    refine hb_getI (q := 51) (v := M.1 1 3) hc fl_X6_29 sh1 sl1 rfl rfl dd_X6_advance_48 rfl ?_
    refine hb_putI (q := 54) hc fl_X6_19 sh1 sl1 rfl dd_X6_advance_51 rfl ?_
    refine hb_aload_n (q := 55) hc dd_X6_advance_54 rfl rfl ?_
    refine hb_getI (q := 58) (v := M.1 1 3) hc fl_X6_29 sh1 sl1 rfl rfl dd_X6_advance_55 rfl ?_
    refine hb_aload_n (q := 59) hc dd_X6_advance_58 rfl rfl ?_
    refine hb_getI (q := 62) (v := M.1 1 0) hc fl_X6_15 sh1 sl1 rfl rfl dd_X6_advance_59 rfl ?_
    refine hb_icmp_lt (q := 65) (tg := 66) hc dd_X6_advance_62 rfl (by decide) (fun z => ?_) (fun z => ?_)
    · replace h := h.1 z
      refine hb_aload_n (q := 67) hc dd_X6_advance_66 rfl rfl ?_
      refine hb_dup (q := 68) hc dd_X6_advance_67 rfl rfl ?_
      refine hb_getI (q := 71) (v := M.1 1 3) hc fl_X6_19 sh1 sl1 rfl rfl dd_X6_advance_68 rfl ?_
      refine hb_iconst (q := 72) (v := 1) hc dd_X6_advance_71 rfl ic_1 ?_
      refine hb_iadd (q := 73) hc dd_X6_advance_72 rfl ?_
      refine hb_putI (q := 76) hc fl_X6_19 sh1 sl1 rfl dd_X6_advance_73 rfl ?_
      refine hb_aload_n (q := 77) hc dd_X6_advance_76 rfl rfl ?_
      refine hb_getR (q := 80) hc fl_X6_9 sh1 sl1 rfl dd_X6_advance_77 rfl ?_
      refine hb_aload_n (q := 81) hc dd_X6_advance_80 rfl rfl ?_
      refine hb_getI (q := 84) (v := M.1 1 3) hc fl_X6_29 sh1 sl1 rfl rfl dd_X6_advance_81 rfl ?_
      obtain ⟨hi, h⟩ := h
      refine hb_iald (q := 85) (v := M.1 2 ((M.1 1 3).toNatClampNeg)) hc sh2 sl2 hi rfl (by simp [wI, wL, cpI, cpL]) dd_X6_advance_84 rfl ?_
      refine hb_callSi (q := 88) (vs := [.int (M.1 2 ((M.1 1 3).toNatClampNeg))]) (st := []) hc mv_X6_108 h rfl rfl (Nat.le_of_ble_eq_true rfl) ⟨Nat.le_refl _, Nat.le_refl _⟩ ⟨Nat.le_refl _, Nat.le_refl _⟩ dd_X6_advance_85 rfl (fun r1 M1 h => ?_)
      refine hb_istore_n (q := 89) (lv' := [some (.ref 1), some (.int r1), none]) hc dd_X6_advance_88 rfl (Nat.le_of_ble_eq_true rfl) rfl ?_
      refine hb_aload_n (q := 90) hc dd_X6_advance_89 rfl rfl ?_
      refine hb_getR (q := 93) hc fl_X6_9 sh1 sl1 rfl dd_X6_advance_90 rfl ?_
      refine hb_aload_n (q := 94) hc dd_X6_advance_93 rfl rfl ?_
      refine hb_getI (q := 97) (v := M1.1 1 3) hc fl_X6_29 sh1 sl1 rfl rfl dd_X6_advance_94 rfl ?_
      obtain ⟨hi, h⟩ := h
      refine hb_iald (q := 98) (v := M1.1 2 ((M1.1 1 3).toNatClampNeg)) hc sh2 sl2 hi rfl rfl dd_X6_advance_97 rfl ?_
      refine hb_callSi (q := 101) (vs := [.int (M1.1 2 ((M1.1 1 3).toNatClampNeg))]) (st := []) hc mv_X6_104 h rfl rfl (Nat.le_of_ble_eq_true rfl) ⟨Nat.le_refl _, Nat.le_refl _⟩ ⟨Nat.le_refl _, Nat.le_refl _⟩ dd_X6_advance_98 rfl (fun r2 M2 h => ?_)
      refine hb_istore_n (q := 102) (lv' := [some (.ref 1), some (.int r1), some (.int r2)]) hc dd_X6_advance_101 rfl (Nat.le_of_ble_eq_true rfl) rfl ?_
      exact hb_weak (lvs (lvs (lvs lvz))) (h p l e s m args below meth c G hc)
    · replace h := h.2 z
      exact hb_vret hc rfl dd_X6_advance_65 h
  · replace h := h.2 z
    refine hb_aload_n (q := 20) hc dd_X6_advance_19 rfl rfl ?_
    refine hb_getR (q := 23) hc fl_X6_9 sh1 sl1 rfl dd_X6_advance_20 rfl ?_
    refine hb_aload_n (q := 24) hc dd_X6_advance_23 rfl rfl ?_
    refine hb_getI (q := 27) (v := M.1 1 3) hc fl_X6_29 sh1 sl1 rfl rfl dd_X6_advance_24 rfl ?_
    obtain ⟨hi, h⟩ := h
    refine hb_iald (q := 28) (v := M.1 2 ((M.1 1 3).toNatClampNeg)) hc sh2 sl2 hi rfl rfl dd_X6_advance_27 rfl ?_
    refine hb_bipush (q := 30) (v := 32) hc dd_X6_advance_28 rfl bp_32 ?_
    refine hb_icmp_ne (q := 33) (tg := 46) hc dd_X6_advance_30 rfl (by decide) (fun z => ?_) (fun z => ?_)
    · replace h := h.1 z
      refine hb_aload_n (q := 47) hc dd_X6_advance_46 rfl rfl ?_
      refine hb_aload_n (q := 48) hc dd_X6_advance_47 rfl rfl ?_
      refine hb_getI (q := 51) (v := M.1 1 3) hc fl_X6_29 sh1 sl1 rfl rfl dd_X6_advance_48 rfl ?_
      refine hb_putI (q := 54) hc fl_X6_19 sh1 sl1 rfl dd_X6_advance_51 rfl ?_
      refine hb_aload_n (q := 55) hc dd_X6_advance_54 rfl rfl ?_
      refine hb_getI (q := 58) (v := M.1 1 3) hc fl_X6_29 sh1 sl1 rfl rfl dd_X6_advance_55 rfl ?_
      refine hb_aload_n (q := 59) hc dd_X6_advance_58 rfl rfl ?_
      refine hb_getI (q := 62) (v := M.1 1 0) hc fl_X6_15 sh1 sl1 rfl rfl dd_X6_advance_59 rfl ?_
      refine hb_icmp_lt (q := 65) (tg := 66) hc dd_X6_advance_62 rfl (by decide) (fun z => ?_) (fun z => ?_)
      · replace h := h.1 z
        refine hb_aload_n (q := 67) hc dd_X6_advance_66 rfl rfl ?_
        refine hb_dup (q := 68) hc dd_X6_advance_67 rfl rfl ?_
        refine hb_getI (q := 71) (v := M.1 1 3) hc fl_X6_19 sh1 sl1 rfl rfl dd_X6_advance_68 rfl ?_
        refine hb_iconst (q := 72) (v := 1) hc dd_X6_advance_71 rfl ic_1 ?_
        refine hb_iadd (q := 73) hc dd_X6_advance_72 rfl ?_
        refine hb_putI (q := 76) hc fl_X6_19 sh1 sl1 rfl dd_X6_advance_73 rfl ?_
        refine hb_aload_n (q := 77) hc dd_X6_advance_76 rfl rfl ?_
        refine hb_getR (q := 80) hc fl_X6_9 sh1 sl1 rfl dd_X6_advance_77 rfl ?_
        refine hb_aload_n (q := 81) hc dd_X6_advance_80 rfl rfl ?_
        refine hb_getI (q := 84) (v := M.1 1 3) hc fl_X6_29 sh1 sl1 rfl rfl dd_X6_advance_81 rfl ?_
        obtain ⟨hi, h⟩ := h
        refine hb_iald (q := 85) (v := M.1 2 ((M.1 1 3).toNatClampNeg)) hc sh2 sl2 hi rfl (by simp [wI, wL, cpI, cpL]) dd_X6_advance_84 rfl ?_
        refine hb_callSi (q := 88) (vs := [.int (M.1 2 ((M.1 1 3).toNatClampNeg))]) (st := []) hc mv_X6_108 h rfl rfl (Nat.le_of_ble_eq_true rfl) ⟨Nat.le_refl _, Nat.le_refl _⟩ ⟨Nat.le_refl _, Nat.le_refl _⟩ dd_X6_advance_85 rfl (fun r3 M3 h => ?_)
        refine hb_istore_n (q := 89) (lv' := [some (.ref 1), some (.int r3), none]) hc dd_X6_advance_88 rfl (Nat.le_of_ble_eq_true rfl) rfl ?_
        refine hb_aload_n (q := 90) hc dd_X6_advance_89 rfl rfl ?_
        refine hb_getR (q := 93) hc fl_X6_9 sh1 sl1 rfl dd_X6_advance_90 rfl ?_
        refine hb_aload_n (q := 94) hc dd_X6_advance_93 rfl rfl ?_
        refine hb_getI (q := 97) (v := M3.1 1 3) hc fl_X6_29 sh1 sl1 rfl rfl dd_X6_advance_94 rfl ?_
        obtain ⟨hi, h⟩ := h
        refine hb_iald (q := 98) (v := M3.1 2 ((M3.1 1 3).toNatClampNeg)) hc sh2 sl2 hi rfl rfl dd_X6_advance_97 rfl ?_
        refine hb_callSi (q := 101) (vs := [.int (M3.1 2 ((M3.1 1 3).toNatClampNeg))]) (st := []) hc mv_X6_104 h rfl rfl (Nat.le_of_ble_eq_true rfl) ⟨Nat.le_refl _, Nat.le_refl _⟩ ⟨Nat.le_refl _, Nat.le_refl _⟩ dd_X6_advance_98 rfl (fun r4 M4 h => ?_)
        refine hb_istore_n (q := 102) (lv' := [some (.ref 1), some (.int r3), some (.int r4)]) hc dd_X6_advance_101 rfl (Nat.le_of_ble_eq_true rfl) rfl ?_
        exact hb_weak (lvs (lvs (lvs lvz))) (h p l e s m args below meth c G hc)
      · replace h := h.2 z
        exact hb_vret hc rfl dd_X6_advance_65 h
    · replace h := h.2 z
      refine hb_aload_n (q := 34) hc dd_X6_advance_33 rfl rfl ?_
      refine hb_dup (q := 35) hc dd_X6_advance_34 rfl rfl ?_
      refine hb_getI (q := 38) (v := M.1 1 3) hc fl_X6_29 sh1 sl1 rfl rfl dd_X6_advance_35 rfl ?_
      refine hb_iconst (q := 39) (v := 1) hc dd_X6_advance_38 rfl ic_1 ?_
      refine hb_iadd (q := 40) hc dd_X6_advance_39 rfl ?_
      refine hb_putI (q := 43) hc fl_X6_29 sh1 sl1 rfl dd_X6_advance_40 rfl ?_
      refine hb_goto (tg := 8) hc dd_X6_advance_43 (by decide) ?_
      exact hb_weak (lvs (lvn (lvn lvz))) (h p l e s m args below meth c G hc)
theorem z_X6_advance_102 {d : Nat} {M : Mm} {v1 : Int32} {v2 : Int32} {K : Mm → Prop}  (h : ((M.1 1 0) ≤ (M.1 1 4) → (K M)) ∧ (¬ (M.1 1 0) ≤ (M.1 1 4) → ((v1 = 0 → ((v2 = 0 → (K M)) ∧ (¬ v2 = 0 → (vp_in (M.1 1 4) 200 ∧ (ACi d X6_isDigit [.int (M.1 2 ((M.1 1 4).toNatClampNeg))] M (fun r1 M1 => (r1 = 0 → (K M1)) ∧ (¬ r1 = 0 → (lp_X6_advance_102 d (wI M1 1 4 ((M1.1 1 4) + 1)) v1 v2 K)))))))) ∧ (¬ v1 = 0 → (vp_in (M.1 1 4) 200 ∧ (ACi d X6_isSmall [.int (M.1 2 ((M.1 1 4).toNatClampNeg))] M (fun r2 M2 => (¬ r2 = 0 → (lp_X6_advance_102 d (wI M2 1 4 ((M2.1 1 4) + 1)) v1 v2 K)) ∧ (r2 = 0 → ((v2 = 0 → (K M2)) ∧ (¬ v2 = 0 → (vp_in (M2.1 1 4) 200 ∧ (ACi d X6_isDigit [.int (M2.1 2 ((M2.1 1 4).toNatClampNeg))] M2 (fun r3 M3 => (r3 = 0 → (K M3)) ∧ (¬ r3 = 0 → (lp_X6_advance_102 d (wI M3 1 4 ((M3.1 1 4) + 1)) v1 v2 K))))))))))))))) : lp_X6_advance_102 d M v1 v2 K := by
  intro p l e s m args below meth c G hc
  refine hb_aload_n (q := 103) hc dd_X6_advance_102 rfl rfl ?_
  refine hb_getI (q := 106) (v := M.1 1 4) hc fl_X6_19 sh1 sl1 rfl rfl dd_X6_advance_103 rfl ?_
  refine hb_aload_n (q := 107) hc dd_X6_advance_106 rfl rfl ?_
  refine hb_getI (q := 110) (v := M.1 1 0) hc fl_X6_15 sh1 sl1 rfl rfl dd_X6_advance_107 rfl ?_
  refine hb_icmp_ge (q := 113) (tg := 164) hc dd_X6_advance_110 rfl (by decide) (fun z => ?_) (fun z => ?_)
  · replace h := h.1 z
    exact hb_vret hc rfl dd_X6_advance_164 h
  · replace h := h.2 z
    refine hb_iload_n (q := 114) hc dd_X6_advance_113 rfl rfl ?_
    refine hb_if_eq (q := 117) (tg := 132) hc dd_X6_advance_114 rfl (by decide) (fun z => ?_) (fun z => ?_)
    · replace h := h.1 z
      refine hb_iload_n (q := 133) hc dd_X6_advance_132 rfl rfl ?_
      refine hb_if_eq (q := 136) (tg := 164) hc dd_X6_advance_133 rfl (by decide) (fun z => ?_) (fun z => ?_)
      · replace h := h.1 z
        exact hb_vret hc rfl dd_X6_advance_164 h
      · replace h := h.2 z
        refine hb_aload_n (q := 137) hc dd_X6_advance_136 rfl rfl ?_
        refine hb_getR (q := 140) hc fl_X6_9 sh1 sl1 rfl dd_X6_advance_137 rfl ?_
        refine hb_aload_n (q := 141) hc dd_X6_advance_140 rfl rfl ?_
        refine hb_getI (q := 144) (v := M.1 1 4) hc fl_X6_19 sh1 sl1 rfl rfl dd_X6_advance_141 rfl ?_
        obtain ⟨hi, h⟩ := h
        refine hb_iald (q := 145) (v := M.1 2 ((M.1 1 4).toNatClampNeg)) hc sh2 sl2 hi rfl rfl dd_X6_advance_144 rfl ?_
        refine hb_callSi (q := 148) (vs := [.int (M.1 2 ((M.1 1 4).toNatClampNeg))]) (st := []) hc mv_X6_104 h rfl rfl (Nat.le_of_ble_eq_true rfl) ⟨Nat.le_refl _, Nat.le_refl _⟩ ⟨Nat.le_refl _, Nat.le_refl _⟩ dd_X6_advance_145 rfl (fun r1 M1 h => ?_)
        refine hb_if_eq (q := 151) (tg := 164) hc dd_X6_advance_148 rfl (by decide) (fun z => ?_) (fun z => ?_)
        · replace h := h.1 z
          exact hb_vret hc rfl dd_X6_advance_164 h
        · replace h := h.2 z
          refine hb_aload_n (q := 152) hc dd_X6_advance_151 rfl rfl ?_
          refine hb_dup (q := 153) hc dd_X6_advance_152 rfl rfl ?_
          refine hb_getI (q := 156) (v := M1.1 1 4) hc fl_X6_19 sh1 sl1 rfl rfl dd_X6_advance_153 rfl ?_
          refine hb_iconst (q := 157) (v := 1) hc dd_X6_advance_156 rfl ic_1 ?_
          refine hb_iadd (q := 158) hc dd_X6_advance_157 rfl ?_
          refine hb_putI (q := 161) hc fl_X6_19 sh1 sl1 rfl dd_X6_advance_158 rfl ?_
          refine hb_goto (tg := 102) hc dd_X6_advance_161 (by decide) ?_
          exact hb_weak (lvs (lvs (lvs lvz))) (h p l e s m args below meth c G hc)
    · replace h := h.2 z
      refine hb_aload_n (q := 118) hc dd_X6_advance_117 rfl rfl ?_
      refine hb_getR (q := 121) hc fl_X6_9 sh1 sl1 rfl dd_X6_advance_118 rfl ?_
      refine hb_aload_n (q := 122) hc dd_X6_advance_121 rfl rfl ?_
      refine hb_getI (q := 125) (v := M.1 1 4) hc fl_X6_19 sh1 sl1 rfl rfl dd_X6_advance_122 rfl ?_
      obtain ⟨hi, h⟩ := h
      refine hb_iald (q := 126) (v := M.1 2 ((M.1 1 4).toNatClampNeg)) hc sh2 sl2 hi rfl rfl dd_X6_advance_125 rfl ?_
      refine hb_callSi (q := 129) (vs := [.int (M.1 2 ((M.1 1 4).toNatClampNeg))]) (st := []) hc mv_X6_108 h rfl rfl (Nat.le_of_ble_eq_true rfl) ⟨Nat.le_refl _, Nat.le_refl _⟩ ⟨Nat.le_refl _, Nat.le_refl _⟩ dd_X6_advance_126 rfl (fun r2 M2 h => ?_)
      refine hb_if_ne (q := 132) (tg := 151) hc dd_X6_advance_129 rfl (by decide) (fun z => ?_) (fun z => ?_)
      · replace h := h.1 z
        refine hb_aload_n (q := 152) hc dd_X6_advance_151 rfl rfl ?_
        refine hb_dup (q := 153) hc dd_X6_advance_152 rfl rfl ?_
        refine hb_getI (q := 156) (v := M2.1 1 4) hc fl_X6_19 sh1 sl1 rfl rfl dd_X6_advance_153 rfl ?_
        refine hb_iconst (q := 157) (v := 1) hc dd_X6_advance_156 rfl ic_1 ?_
        refine hb_iadd (q := 158) hc dd_X6_advance_157 rfl ?_
        refine hb_putI (q := 161) hc fl_X6_19 sh1 sl1 rfl dd_X6_advance_158 rfl ?_
        refine hb_goto (tg := 102) hc dd_X6_advance_161 (by decide) ?_
        exact hb_weak (lvs (lvs (lvs lvz))) (h p l e s m args below meth c G hc)
      · replace h := h.2 z
        refine hb_iload_n (q := 133) hc dd_X6_advance_132 rfl rfl ?_
        refine hb_if_eq (q := 136) (tg := 164) hc dd_X6_advance_133 rfl (by decide) (fun z => ?_) (fun z => ?_)
        · replace h := h.1 z
          exact hb_vret hc rfl dd_X6_advance_164 h
        · replace h := h.2 z
          refine hb_aload_n (q := 137) hc dd_X6_advance_136 rfl rfl ?_
          refine hb_getR (q := 140) hc fl_X6_9 sh1 sl1 rfl dd_X6_advance_137 rfl ?_
          refine hb_aload_n (q := 141) hc dd_X6_advance_140 rfl rfl ?_
          refine hb_getI (q := 144) (v := M2.1 1 4) hc fl_X6_19 sh1 sl1 rfl rfl dd_X6_advance_141 rfl ?_
          obtain ⟨hi, h⟩ := h
          refine hb_iald (q := 145) (v := M2.1 2 ((M2.1 1 4).toNatClampNeg)) hc sh2 sl2 hi rfl rfl dd_X6_advance_144 rfl ?_
          refine hb_callSi (q := 148) (vs := [.int (M2.1 2 ((M2.1 1 4).toNatClampNeg))]) (st := []) hc mv_X6_104 h rfl rfl (Nat.le_of_ble_eq_true rfl) ⟨Nat.le_refl _, Nat.le_refl _⟩ ⟨Nat.le_refl _, Nat.le_refl _⟩ dd_X6_advance_145 rfl (fun r3 M3 h => ?_)
          refine hb_if_eq (q := 151) (tg := 164) hc dd_X6_advance_148 rfl (by decide) (fun z => ?_) (fun z => ?_)
          · replace h := h.1 z
            exact hb_vret hc rfl dd_X6_advance_164 h
          · replace h := h.2 z
            refine hb_aload_n (q := 152) hc dd_X6_advance_151 rfl rfl ?_
            refine hb_dup (q := 153) hc dd_X6_advance_152 rfl rfl ?_
            refine hb_getI (q := 156) (v := M3.1 1 4) hc fl_X6_19 sh1 sl1 rfl rfl dd_X6_advance_153 rfl ?_
            refine hb_iconst (q := 157) (v := 1) hc dd_X6_advance_156 rfl ic_1 ?_
            refine hb_iadd (q := 158) hc dd_X6_advance_157 rfl ?_
            refine hb_putI (q := 161) hc fl_X6_19 sh1 sl1 rfl dd_X6_advance_158 rfl ?_
            refine hb_goto (tg := 102) hc dd_X6_advance_161 (by decide) ?_
            exact hb_weak (lvs (lvs (lvs lvz))) (h p l e s m args below meth c G hc)
theorem w_X6_advance {d : Nat} {M : Mm}  {K : Mm → Prop}  (h : lp_X6_advance_8 d (wI M 1 3 (M.1 1 4)) K) : ACv (d + 1) X6_advance [.ref 1] M K := by
  refine AC.ofW (lv := [some (.ref 1), none, none]) pn_X6 (Nat.le_of_ble_eq_true rfl) (show lvLe _ [some (.ref 1)] from (lvs (lve (lve lvz)))) ?_
  intro p l e s m args below meth c G hc
  refine hb_aload_n (q := 1) hc dd_X6_advance_0 rfl rfl ?_
  refine hb_aload_n (q := 2) hc dd_X6_advance_1 rfl rfl ?_
  refine hb_getI (q := 5) (v := M.1 1 4) hc fl_X6_19 sh1 sl1 rfl rfl dd_X6_advance_2 rfl ?_
  refine hb_putI (q := 8) hc fl_X6_29 sh1 sl1 rfl dd_X6_advance_5 rfl ?_
  exact hb_weak (lvs (lvn (lvn lvz))) (h p l e s m args below meth c G hc)
def lp_X6_isWord_23 (d : Nat) (M : Mm) (v1 : Nat) (v2 : Int32) (K : Int32 → Mm → Prop) : Prop := AW (d + 1) X6_isWord M 23 [some (.ref 1), some (.ref (1000 + v1)), some (.int v2)] [] (QI K)
theorem z_X6_isWord_23 {d : Nat} {M : Mm} {v1 : Nat} {v2 : Int32} {K : Int32 → Mm → Prop} (hv1 : v1 < 6) (h : ((M.1 1 4) ≤ v2 → (K 1 M)) ∧ (¬ (M.1 1 4) ≤ v2 → (vp_in v2 200 ∧ (ACi d J0_charAt_5068e [.ref (1000 + v1), .int (v2 - (M.1 1 3))] M (fun r1 M1 => ((M.1 2 v2.toNatClampNeg) = r1 → (lp_X6_isWord_23 d M1 v1 (v2 + 1) K)) ∧ (¬ (M.1 2 v2.toNatClampNeg) = r1 → (K 0 M1))))))) : lp_X6_isWord_23 d M v1 v2 K := by
  intro p l e s m args below meth c G hc
  refine hb_iload_n (q := 24) hc dd_X6_isWord_23 rfl rfl ?_
  refine hb_aload_n (q := 25) hc dd_X6_isWord_24 rfl rfl ?_
  refine hb_getI (q := 28) (v := M.1 1 4) hc fl_X6_19 sh1 sl1 rfl rfl dd_X6_isWord_25 rfl ?_
  refine hb_icmp_ge (q := 31) (tg := 58) hc dd_X6_isWord_28 rfl (by decide) (fun z => ?_) (fun z => ?_)
  · replace h := h.1 z
    refine hb_iconst (q := 59) (v := 1) hc dd_X6_isWord_58 rfl ic_1 ?_
    exact hb_zret hc rfl (by decide) dd_X6_isWord_59 h
  · replace h := h.2 z
    refine hb_aload_n (q := 32) hc dd_X6_isWord_31 rfl rfl ?_
    refine hb_getR (q := 35) hc fl_X6_9 sh1 sl1 rfl dd_X6_isWord_32 rfl ?_
    refine hb_iload_n (q := 36) hc dd_X6_isWord_35 rfl rfl ?_
    obtain ⟨hi, h⟩ := h
    refine hb_iald (q := 37) (v := M.1 2 v2.toNatClampNeg) hc sh2 sl2 hi rfl rfl dd_X6_isWord_36 rfl ?_
    refine hb_aload_n (q := 38) hc dd_X6_isWord_37 rfl rfl ?_
    refine hb_iload_n (q := 39) hc dd_X6_isWord_38 rfl rfl ?_
    refine hb_aload_n (q := 40) hc dd_X6_isWord_39 rfl rfl ?_
    refine hb_getI (q := 43) (v := M.1 1 3) hc fl_X6_29 sh1 sl1 rfl rfl dd_X6_isWord_40 rfl ?_
    refine hb_isub (q := 44) hc dd_X6_isWord_43 rfl ?_
    refine hb_callVsi (q := 47) (vs := [.int (v2 - (M.1 1 3))]) (st := [.int (M.1 2 v2.toNatClampNeg)]) hc hv1 mv_X6_116 rfl h rfl rfl (Nat.le_of_ble_eq_true rfl) ⟨Nat.le_refl _, Nat.le_refl _⟩ ⟨Nat.le_refl _, Nat.le_refl _⟩ dd_X6_isWord_44 rfl (fun r1 M1 h => ?_)
    refine hb_icmp_eq (q := 50) (tg := 52) hc dd_X6_isWord_47 rfl (by decide) (fun z => ?_) (fun z => ?_)
    · replace h := h.1 z
      refine hb_iinc (q := 55) (v := v2 + 1) (lv' := [some (.ref 1), some (.ref (1000 + v1)), some (.int (v2 + 1))]) hc dd_X6_isWord_52 rfl rfl rfl (Nat.le_of_ble_eq_true rfl) rfl ?_
      refine hb_goto (tg := 23) hc dd_X6_isWord_55 (by decide) ?_
      exact hb_weak (lvs (lvs (lvs lvz))) (h p l e s m args below meth c G hc)
    · replace h := h.2 z
      refine hb_iconst (q := 51) (v := 0) hc dd_X6_isWord_50 rfl ic_0 ?_
      exact hb_zret hc rfl (by decide) dd_X6_isWord_51 h
theorem w_X6_isWord {d : Nat} {M : Mm} {sk : Nat} {K : Int32 → Mm → Prop} (hsk : sk < 6) (h : ACi d J0_length_8abf5 [.ref (1000 + sk)] M (fun r1 M1 => (((M.1 1 4) - (M.1 1 3)) = r1 → (lp_X6_isWord_23 d M1 sk (M1.1 1 3) K)) ∧ (¬ ((M.1 1 4) - (M.1 1 3)) = r1 → (K 0 M1)))) : ACi (d + 1) X6_isWord [.ref 1, .ref (1000 + sk)] M K := by
  refine AC.ofW (lv := [some (.ref 1), some (.ref (1000 + sk)), none]) pn_X6 (Nat.le_of_ble_eq_true rfl) (show lvLe _ [some (.ref 1), some (.ref (1000 + sk))] from (lvs (lvs (lve lvz)))) ?_
  intro p l e s m args below meth c G hc
  refine hb_aload_n (q := 1) hc dd_X6_isWord_0 rfl rfl ?_
  refine hb_getI (q := 4) (v := M.1 1 4) hc fl_X6_19 sh1 sl1 rfl rfl dd_X6_isWord_1 rfl ?_
  refine hb_aload_n (q := 5) hc dd_X6_isWord_4 rfl rfl ?_
  refine hb_getI (q := 8) (v := M.1 1 3) hc fl_X6_29 sh1 sl1 rfl rfl dd_X6_isWord_5 rfl ?_
  refine hb_isub (q := 9) hc dd_X6_isWord_8 rfl ?_
  refine hb_aload_n (q := 10) hc dd_X6_isWord_9 rfl rfl ?_
  refine hb_callVsi (q := 13) (vs := []) (st := [.int ((M.1 1 4) - (M.1 1 3))]) hc hsk mv_X6_111 rfl h rfl rfl (Nat.le_of_ble_eq_true rfl) ⟨Nat.le_refl _, Nat.le_refl _⟩ ⟨Nat.le_refl _, Nat.le_refl _⟩ dd_X6_isWord_10 rfl (fun r1 M1 h => ?_)
  refine hb_icmp_eq (q := 16) (tg := 18) hc dd_X6_isWord_13 rfl (by decide) (fun z => ?_) (fun z => ?_)
  · replace h := h.1 z
    refine hb_aload_n (q := 19) hc dd_X6_isWord_18 rfl rfl ?_
    refine hb_getI (q := 22) (v := M1.1 1 3) hc fl_X6_29 sh1 sl1 rfl rfl dd_X6_isWord_19 rfl ?_
    refine hb_istore_n (q := 23) (lv' := [some (.ref 1), some (.ref (1000 + sk)), some (.int (M1.1 1 3))]) hc dd_X6_isWord_22 rfl (Nat.le_of_ble_eq_true rfl) rfl ?_
    exact hb_weak (lvs (lvs (lvs lvz))) (h p l e s m args below meth c G hc)
  · replace h := h.2 z
    refine hb_iconst (q := 17) (v := 0) hc dd_X6_isWord_16 rfl ic_0 ?_
    exact hb_zret hc rfl (by decide) dd_X6_isWord_17 h
theorem w_X6_isSmall {d : Nat} {M : Mm} {v0 : Int32} {K : Int32 → Mm → Prop}  (h : (v0 < 97 → (K 0 M)) ∧ (¬ v0 < 97 → ((122 < v0 → (K 0 M)) ∧ (¬ 122 < v0 → (K 1 M))))) : ACi (d + 1) X6_isSmall [.int v0] M K := by
  refine AC.ofW (lv := [some (.int v0)]) pn_X6 (Nat.le_of_ble_eq_true rfl) (show lvLe _ [some (.int v0)] from (lvs lvz)) ?_
  intro p l e s m args below meth c G hc
  refine hb_iload_n (q := 1) hc dd_X6_isSmall_0 rfl rfl ?_
  refine hb_bipush (q := 3) (v := 97) hc dd_X6_isSmall_1 rfl bp_97 ?_
  refine hb_icmp_lt (q := 6) (tg := 16) hc dd_X6_isSmall_3 rfl (by decide) (fun z => ?_) (fun z => ?_)
  · replace h := h.1 z
    refine hb_iconst (q := 17) (v := 0) hc dd_X6_isSmall_16 rfl ic_0 ?_
    exact hb_zret hc rfl (by decide) dd_X6_isSmall_17 h
  · replace h := h.2 z
    refine hb_iload_n (q := 7) hc dd_X6_isSmall_6 rfl rfl ?_
    refine hb_bipush (q := 9) (v := 122) hc dd_X6_isSmall_7 rfl bp_122 ?_
    refine hb_icmp_gt (q := 12) (tg := 16) hc dd_X6_isSmall_9 rfl (by decide) (fun z => ?_) (fun z => ?_)
    · replace h := h.1 z
      refine hb_iconst (q := 17) (v := 0) hc dd_X6_isSmall_16 rfl ic_0 ?_
      exact hb_zret hc rfl (by decide) dd_X6_isSmall_17 h
    · replace h := h.2 z
      refine hb_iconst (q := 13) (v := 1) hc dd_X6_isSmall_12 rfl ic_1 ?_
      refine hb_goto (tg := 17) hc dd_X6_isSmall_13 (by decide) ?_
      exact hb_zret hc rfl (by decide) dd_X6_isSmall_17 h
theorem w_X6_isDigit {d : Nat} {M : Mm} {v0 : Int32} {K : Int32 → Mm → Prop}  (h : (v0 < 48 → (K 0 M)) ∧ (¬ v0 < 48 → ((57 < v0 → (K 0 M)) ∧ (¬ 57 < v0 → (K 1 M))))) : ACi (d + 1) X6_isDigit [.int v0] M K := by
  refine AC.ofW (lv := [some (.int v0)]) pn_X6 (Nat.le_of_ble_eq_true rfl) (show lvLe _ [some (.int v0)] from (lvs lvz)) ?_
  intro p l e s m args below meth c G hc
  refine hb_iload_n (q := 1) hc dd_X6_isDigit_0 rfl rfl ?_
  refine hb_bipush (q := 3) (v := 48) hc dd_X6_isDigit_1 rfl bp_48 ?_
  refine hb_icmp_lt (q := 6) (tg := 16) hc dd_X6_isDigit_3 rfl (by decide) (fun z => ?_) (fun z => ?_)
  · replace h := h.1 z
    refine hb_iconst (q := 17) (v := 0) hc dd_X6_isDigit_16 rfl ic_0 ?_
    exact hb_zret hc rfl (by decide) dd_X6_isDigit_17 h
  · replace h := h.2 z
    refine hb_iload_n (q := 7) hc dd_X6_isDigit_6 rfl rfl ?_
    refine hb_bipush (q := 9) (v := 57) hc dd_X6_isDigit_7 rfl bp_57 ?_
    refine hb_icmp_gt (q := 12) (tg := 16) hc dd_X6_isDigit_9 rfl (by decide) (fun z => ?_) (fun z => ?_)
    · replace h := h.1 z
      refine hb_iconst (q := 17) (v := 0) hc dd_X6_isDigit_16 rfl ic_0 ?_
      exact hb_zret hc rfl (by decide) dd_X6_isDigit_17 h
    · replace h := h.2 z
      refine hb_iconst (q := 13) (v := 1) hc dd_X6_isDigit_12 rfl ic_1 ?_
      refine hb_goto (tg := 17) hc dd_X6_isDigit_13 (by decide) ?_
      exact hb_zret hc rfl (by decide) dd_X6_isDigit_17 h
