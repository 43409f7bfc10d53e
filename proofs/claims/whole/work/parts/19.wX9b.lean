/-! WALKS, by program (wip/whole/gen6.py). -/
theorem w_X9_wordHere {d : Nat} {M : Mm}  {K : Int32 → Mm → Prop}  (h : ACi d X9_isWord [.ref 42, .ref 53] M (fun r1 M1 => (r1 = 0 → (ACi d X9_isWord [.ref 42, .ref 54] M1 (fun r2 M2 => (r2 = 0 → (ACi d X9_isWord [.ref 42, .ref 55] M2 (fun r3 M3 => (r3 = 0 → (ACi d X9_isWord [.ref 42, .ref 56] M3 (fun r4 M4 => (r4 = 0 → (ACi d X9_isWord [.ref 42, .ref 57] M4 (fun r5 M5 => (r5 = 0 → (ACi d X9_isWord [.ref 42, .ref 58] M5 (fun r6 M6 => (r6 = 0 → (K (-1) M6)) ∧ (¬ r6 = 0 → (K 5 M6))))) ∧ (¬ r5 = 0 → (K 4 M5))))) ∧ (¬ r4 = 0 → (K 3 M4))))) ∧ (¬ r3 = 0 → (K 2 M3))))) ∧ (¬ r2 = 0 → (K 1 M2))))) ∧ (¬ r1 = 0 → (K 0 M1)))) : ACi (d + 1) X9_wordHere [.ref 42] M K := by
  refine AC.ofW (lv := [some (.ref 42)]) pn_X9 (Nat.le_of_ble_eq_true rfl) (show lvLe _ [some (.ref 42)] from (lvs lvz)) ?_
  intro p l e s m args below meth c G hc
  refine hb_aload_n (q := 1) hc dd_X9_wordHere_0 rfl rfl ?_
  refine hb_aload_n (q := 2) hc dd_X9_wordHere_1 rfl rfl ?_
  refine hb_getR (q := 5) hc fl_X9_41 sh42 sl42 rfl dd_X9_wordHere_2 rfl ?_
  refine hb_callVi (q := 8) (vs := [.ref 53]) (st := []) hc mv_X9_138 h sh42 sl42 rfl rfl rfl (Nat.le_of_ble_eq_true rfl) ⟨Nat.le_refl _, Nat.le_refl _⟩ ⟨Nat.le_refl _, Nat.le_refl _⟩ dd_X9_wordHere_5 rfl (fun r1 M1 h => ?_)
  refine hb_if_eq (q := 11) (tg := 15) hc dd_X9_wordHere_8 rfl (by decide) (fun z => ?_) (fun z => ?_)
  · replace h := h.1 z
    refine hb_aload_n (q := 16) hc dd_X9_wordHere_15 rfl rfl ?_
    refine hb_aload_n (q := 17) hc dd_X9_wordHere_16 rfl rfl ?_
    refine hb_getR (q := 20) hc fl_X9_44 sh42 sl42 rfl dd_X9_wordHere_17 rfl ?_
    refine hb_callVi (q := 23) (vs := [.ref 54]) (st := []) hc mv_X9_138 h sh42 sl42 rfl rfl rfl (Nat.le_of_ble_eq_true rfl) ⟨Nat.le_refl _, Nat.le_refl _⟩ ⟨Nat.le_refl _, Nat.le_refl _⟩ dd_X9_wordHere_20 rfl (fun r2 M2 h => ?_)
    refine hb_if_eq (q := 26) (tg := 30) hc dd_X9_wordHere_23 rfl (by decide) (fun z => ?_) (fun z => ?_)
    · replace h := h.1 z
      refine hb_aload_n (q := 31) hc dd_X9_wordHere_30 rfl rfl ?_
      refine hb_aload_n (q := 32) hc dd_X9_wordHere_31 rfl rfl ?_
      refine hb_getR (q := 35) hc fl_X9_47 sh42 sl42 rfl dd_X9_wordHere_32 rfl ?_
      refine hb_callVi (q := 38) (vs := [.ref 55]) (st := []) hc mv_X9_138 h sh42 sl42 rfl rfl rfl (Nat.le_of_ble_eq_true rfl) ⟨Nat.le_refl _, Nat.le_refl _⟩ ⟨Nat.le_refl _, Nat.le_refl _⟩ dd_X9_wordHere_35 rfl (fun r3 M3 h => ?_)
      refine hb_if_eq (q := 41) (tg := 45) hc dd_X9_wordHere_38 rfl (by decide) (fun z => ?_) (fun z => ?_)
      · replace h := h.1 z
        refine hb_aload_n (q := 46) hc dd_X9_wordHere_45 rfl rfl ?_
        refine hb_aload_n (q := 47) hc dd_X9_wordHere_46 rfl rfl ?_
        refine hb_getR (q := 50) hc fl_X9_50 sh42 sl42 rfl dd_X9_wordHere_47 rfl ?_
        refine hb_callVi (q := 53) (vs := [.ref 56]) (st := []) hc mv_X9_138 h sh42 sl42 rfl rfl rfl (Nat.le_of_ble_eq_true rfl) ⟨Nat.le_refl _, Nat.le_refl _⟩ ⟨Nat.le_refl _, Nat.le_refl _⟩ dd_X9_wordHere_50 rfl (fun r4 M4 h => ?_)
        refine hb_if_eq (q := 56) (tg := 60) hc dd_X9_wordHere_53 rfl (by decide) (fun z => ?_) (fun z => ?_)
        · replace h := h.1 z
          refine hb_aload_n (q := 61) hc dd_X9_wordHere_60 rfl rfl ?_
          refine hb_aload_n (q := 62) hc dd_X9_wordHere_61 rfl rfl ?_
          refine hb_getR (q := 65) hc fl_X9_53 sh42 sl42 rfl dd_X9_wordHere_62 rfl ?_
          refine hb_callVi (q := 68) (vs := [.ref 57]) (st := []) hc mv_X9_138 h sh42 sl42 rfl rfl rfl (Nat.le_of_ble_eq_true rfl) ⟨Nat.le_refl _, Nat.le_refl _⟩ ⟨Nat.le_refl _, Nat.le_refl _⟩ dd_X9_wordHere_65 rfl (fun r5 M5 h => ?_)
          refine hb_if_eq (q := 71) (tg := 75) hc dd_X9_wordHere_68 rfl (by decide) (fun z => ?_) (fun z => ?_)
          · replace h := h.1 z
            refine hb_aload_n (q := 76) hc dd_X9_wordHere_75 rfl rfl ?_
            refine hb_aload_n (q := 77) hc dd_X9_wordHere_76 rfl rfl ?_
            refine hb_getR (q := 80) hc fl_X9_56 sh42 sl42 rfl dd_X9_wordHere_77 rfl ?_
            refine hb_callVi (q := 83) (vs := [.ref 58]) (st := []) hc mv_X9_138 h sh42 sl42 rfl rfl rfl (Nat.le_of_ble_eq_true rfl) ⟨Nat.le_refl _, Nat.le_refl _⟩ ⟨Nat.le_refl _, Nat.le_refl _⟩ dd_X9_wordHere_80 rfl (fun r6 M6 h => ?_)
            refine hb_if_eq (q := 86) (tg := 90) hc dd_X9_wordHere_83 rfl (by decide) (fun z => ?_) (fun z => ?_)
            · replace h := h.1 z
              refine hb_iconst (q := 91) (v := (-1)) hc dd_X9_wordHere_90 rfl ic_m1 ?_
              exact hb_iret hc rfl dd_X9_wordHere_91 h
            · replace h := h.2 z
              refine hb_iconst (q := 87) (v := 5) hc dd_X9_wordHere_86 rfl ic_5 ?_
              refine hb_goto (tg := 91) hc dd_X9_wordHere_87 (by decide) ?_
              exact hb_iret hc rfl dd_X9_wordHere_91 h
          · replace h := h.2 z
            refine hb_iconst (q := 72) (v := 4) hc dd_X9_wordHere_71 rfl ic_4 ?_
            refine hb_goto (tg := 91) hc dd_X9_wordHere_72 (by decide) ?_
            exact hb_iret hc rfl dd_X9_wordHere_91 h
        · replace h := h.2 z
          refine hb_iconst (q := 57) (v := 3) hc dd_X9_wordHere_56 rfl ic_3 ?_
          refine hb_goto (tg := 91) hc dd_X9_wordHere_57 (by decide) ?_
          exact hb_iret hc rfl dd_X9_wordHere_91 h
      · replace h := h.2 z
        refine hb_iconst (q := 42) (v := 2) hc dd_X9_wordHere_41 rfl ic_2 ?_
        refine hb_goto (tg := 91) hc dd_X9_wordHere_42 (by decide) ?_
        exact hb_iret hc rfl dd_X9_wordHere_91 h
    · replace h := h.2 z
      refine hb_iconst (q := 27) (v := 1) hc dd_X9_wordHere_26 rfl ic_1 ?_
      refine hb_goto (tg := 91) hc dd_X9_wordHere_27 (by decide) ?_
      exact hb_iret hc rfl dd_X9_wordHere_91 h
  · replace h := h.2 z
    refine hb_iconst (q := 12) (v := 0) hc dd_X9_wordHere_11 rfl ic_0 ?_
    refine hb_goto (tg := 91) hc dd_X9_wordHere_12 (by decide) ?_
    exact hb_iret hc rfl dd_X9_wordHere_91 h
theorem w_X9_readsRest {d : Nat} {M : Mm} {v1 : Int32} {K : Int32 → Mm → Prop}  (h : (v1 = 0 → (ACi d X9_number [.ref 42, .int 0, .int 3, .int 8] M (fun r1 M1 => (r1 = 0 ∨ r1 = 1) ∧ K r1 M1))) ∧ (v1 = 1 → (ACi d X9_number [.ref 42, .int 0, .int 2, .int (M.1 42 20)] M (fun r2 M2 => (r2 = 0 ∨ r2 = 1) ∧ K r2 M2))) ∧ (v1 = 2 → (ACi d X9_number [.ref 42, .int 0, .int 1, .int 99] M (fun r3 M3 => (r3 = 0 ∨ r3 = 1) ∧ K r3 M3))) ∧ (v1 = 3 → (ACi d X9_readsBeats [.ref 42] M (fun r4 M4 => (r4 = 0 ∨ r4 = 1) ∧ K r4 M4))) ∧ (v1 = 4 → (ACi d X9_number [.ref 42, .int 0, .int 0, .int 99] M (fun r5 M5 => (r5 = 0 ∨ r5 = 1) ∧ K r5 M5))) ∧ (v1 < 0 ∨ nI 4 < v1 → (ACi d X9_number [.ref 42, .int 0, .int 0, .int ((M.1 42 22) - 1)] M (fun r6 M6 => (r6 = 0 → (K 0 M6)) ∧ (¬ r6 = 0 → (ACi d X9_number [.ref 42, .int 1, .int 0, .int ((M6.1 42 21) - 1)] M6 (fun r7 M7 => (r7 = 0 → (K 0 M7)) ∧ (¬ r7 = 0 → (K 1 M7))))))))) : ACi (d + 1) X9_readsRest [.ref 42, .int v1] M K := by
  refine AC.ofW (lv := [some (.ref 42), some (.int v1)]) pn_X9 (Nat.le_of_ble_eq_true rfl) (show lvLe _ [some (.ref 42), some (.int v1)] from (lvs (lvs lvz))) ?_
  intro p l e s m args below meth c G hc
  refine hb_iload_n (q := 1) hc dd_X9_readsRest_0 rfl rfl ?_
  by_cases zo : v1 < 0 ∨ nI 4 < v1
  · replace h := h.2.2.2.2.2 zo
    refine hb_tableOut (tg := 79) hc dd_X9_readsRest_1 (sw_out (k := 4) (by decide) zo) (by decide) ?_
    refine hb_aload_n (q := 80) hc dd_X9_readsRest_79 rfl rfl ?_
    refine hb_iconst (q := 81) (v := 0) hc dd_X9_readsRest_80 rfl ic_0 ?_
    refine hb_iconst (q := 82) (v := 0) hc dd_X9_readsRest_81 rfl ic_0 ?_
    refine hb_aload_n (q := 83) hc dd_X9_readsRest_82 rfl rfl ?_
    refine hb_getI (q := 86) (v := M.1 42 22) hc fl_X9_150 sh42 sl42 rfl rfl dd_X9_readsRest_83 rfl ?_
    refine hb_iconst (q := 87) (v := 1) hc dd_X9_readsRest_86 rfl ic_1 ?_
    refine hb_isub (q := 88) hc dd_X9_readsRest_87 rfl ?_
    refine hb_callVi (q := 91) (vs := [.int 0, .int 0, .int ((M.1 42 22) - 1)]) (st := []) hc mv_X9_142 h sh42 sl42 rfl rfl rfl (Nat.le_of_ble_eq_true rfl) ⟨Nat.le_refl _, Nat.le_refl _⟩ ⟨Nat.le_refl _, Nat.le_refl _⟩ dd_X9_readsRest_88 rfl (fun r6 M6 h => ?_)
    refine hb_if_eq (q := 94) (tg := 113) hc dd_X9_readsRest_91 rfl (by decide) (fun z => ?_) (fun z => ?_)
    · replace h := h.1 z
      refine hb_iconst (q := 114) (v := 0) hc dd_X9_readsRest_113 rfl ic_0 ?_
      exact hb_zret hc rfl (by decide) dd_X9_readsRest_114 h
    · replace h := h.2 z
      refine hb_aload_n (q := 95) hc dd_X9_readsRest_94 rfl rfl ?_
      refine hb_iconst (q := 96) (v := 1) hc dd_X9_readsRest_95 rfl ic_1 ?_
      refine hb_iconst (q := 97) (v := 0) hc dd_X9_readsRest_96 rfl ic_0 ?_
      refine hb_aload_n (q := 98) hc dd_X9_readsRest_97 rfl rfl ?_
      refine hb_getI (q := 101) (v := M6.1 42 21) hc fl_X9_153 sh42 sl42 rfl rfl dd_X9_readsRest_98 rfl ?_
      refine hb_iconst (q := 102) (v := 1) hc dd_X9_readsRest_101 rfl ic_1 ?_
      refine hb_isub (q := 103) hc dd_X9_readsRest_102 rfl ?_
      refine hb_callVi (q := 106) (vs := [.int 1, .int 0, .int ((M6.1 42 21) - 1)]) (st := []) hc mv_X9_142 h sh42 sl42 rfl rfl rfl (Nat.le_of_ble_eq_true rfl) ⟨Nat.le_refl _, Nat.le_refl _⟩ ⟨Nat.le_refl _, Nat.le_refl _⟩ dd_X9_readsRest_103 rfl (fun r7 M7 h => ?_)
      refine hb_if_eq (q := 109) (tg := 113) hc dd_X9_readsRest_106 rfl (by decide) (fun z => ?_) (fun z => ?_)
      · replace h := h.1 z
        refine hb_iconst (q := 114) (v := 0) hc dd_X9_readsRest_113 rfl ic_0 ?_
        exact hb_zret hc rfl (by decide) dd_X9_readsRest_114 h
      · replace h := h.2 z
        refine hb_iconst (q := 110) (v := 1) hc dd_X9_readsRest_109 rfl ic_1 ?_
        refine hb_goto (tg := 114) hc dd_X9_readsRest_110 (by decide) ?_
        exact hb_zret hc rfl (by decide) dd_X9_readsRest_114 h
  · have zi := sw_in4 zo
    rcases zi with z | z | z | z | z
    · replace h := h.1 z
      refine hb_tableIn (off := 35) (tg := 36) hc dd_X9_readsRest_1 (by rw [z]; decide) (by rw [z]; decide) (by rw [z]; rfl) (by decide) ?_
      refine hb_aload_n (q := 37) hc dd_X9_readsRest_36 rfl rfl ?_
      refine hb_iconst (q := 38) (v := 0) hc dd_X9_readsRest_37 rfl ic_0 ?_
      refine hb_iconst (q := 39) (v := 3) hc dd_X9_readsRest_38 rfl ic_3 ?_
      refine hb_bipush (q := 41) (v := 8) hc dd_X9_readsRest_39 rfl bp_8 ?_
      refine hb_callVi (q := 44) (vs := [.int 0, .int 3, .int 8]) (st := []) hc mv_X9_142 h sh42 sl42 rfl rfl rfl (Nat.le_of_ble_eq_true rfl) ⟨Nat.le_refl _, Nat.le_refl _⟩ ⟨Nat.le_refl _, Nat.le_refl _⟩ dd_X9_readsRest_41 rfl (fun r1 M1 h => ?_)
      exact hb_zret hc rfl h.1 dd_X9_readsRest_44 h.2
    · replace h := h.2.1 z
      refine hb_tableIn (off := 44) (tg := 45) hc dd_X9_readsRest_1 (by rw [z]; decide) (by rw [z]; decide) (by rw [z]; rfl) (by decide) ?_
      refine hb_aload_n (q := 46) hc dd_X9_readsRest_45 rfl rfl ?_
      refine hb_iconst (q := 47) (v := 0) hc dd_X9_readsRest_46 rfl ic_0 ?_
      refine hb_iconst (q := 48) (v := 2) hc dd_X9_readsRest_47 rfl ic_2 ?_
      refine hb_aload_n (q := 49) hc dd_X9_readsRest_48 rfl rfl ?_
      refine hb_getI (q := 52) (v := M.1 42 20) hc fl_X9_135 sh42 sl42 rfl rfl dd_X9_readsRest_49 rfl ?_
      refine hb_callVi (q := 55) (vs := [.int 0, .int 2, .int (M.1 42 20)]) (st := []) hc mv_X9_142 h sh42 sl42 rfl rfl rfl (Nat.le_of_ble_eq_true rfl) ⟨Nat.le_refl _, Nat.le_refl _⟩ ⟨Nat.le_refl _, Nat.le_refl _⟩ dd_X9_readsRest_52 rfl (fun r2 M2 h => ?_)
      exact hb_zret hc rfl h.1 dd_X9_readsRest_55 h.2
    · replace h := h.2.2.1 z
      refine hb_tableIn (off := 55) (tg := 56) hc dd_X9_readsRest_1 (by rw [z]; decide) (by rw [z]; decide) (by rw [z]; rfl) (by decide) ?_
      refine hb_aload_n (q := 57) hc dd_X9_readsRest_56 rfl rfl ?_
      refine hb_iconst (q := 58) (v := 0) hc dd_X9_readsRest_57 rfl ic_0 ?_
      refine hb_iconst (q := 59) (v := 1) hc dd_X9_readsRest_58 rfl ic_1 ?_
      refine hb_bipush (q := 61) (v := 99) hc dd_X9_readsRest_59 rfl bp_99 ?_
      refine hb_callVi (q := 64) (vs := [.int 0, .int 1, .int 99]) (st := []) hc mv_X9_142 h sh42 sl42 rfl rfl rfl (Nat.le_of_ble_eq_true rfl) ⟨Nat.le_refl _, Nat.le_refl _⟩ ⟨Nat.le_refl _, Nat.le_refl _⟩ dd_X9_readsRest_61 rfl (fun r3 M3 h => ?_)
      exact hb_zret hc rfl h.1 dd_X9_readsRest_64 h.2
    · replace h := h.2.2.2.1 z
      refine hb_tableIn (off := 64) (tg := 65) hc dd_X9_readsRest_1 (by rw [z]; decide) (by rw [z]; decide) (by rw [z]; rfl) (by decide) ?_
      refine hb_aload_n (q := 66) hc dd_X9_readsRest_65 rfl rfl ?_
      refine hb_callVi (q := 69) (vs := []) (st := []) hc mv_X9_146 h sh42 sl42 rfl rfl rfl (Nat.le_of_ble_eq_true rfl) ⟨Nat.le_refl _, Nat.le_refl _⟩ ⟨Nat.le_refl _, Nat.le_refl _⟩ dd_X9_readsRest_66 rfl (fun r4 M4 h => ?_)
      exact hb_zret hc rfl h.1 dd_X9_readsRest_69 h.2
    · replace h := h.2.2.2.2.1 z
      refine hb_tableIn (off := 69) (tg := 70) hc dd_X9_readsRest_1 (by rw [z]; decide) (by rw [z]; decide) (by rw [z]; rfl) (by decide) ?_
      refine hb_aload_n (q := 71) hc dd_X9_readsRest_70 rfl rfl ?_
      refine hb_iconst (q := 72) (v := 0) hc dd_X9_readsRest_71 rfl ic_0 ?_
      refine hb_iconst (q := 73) (v := 0) hc dd_X9_readsRest_72 rfl ic_0 ?_
      refine hb_bipush (q := 75) (v := 99) hc dd_X9_readsRest_73 rfl bp_99 ?_
      refine hb_callVi (q := 78) (vs := [.int 0, .int 0, .int 99]) (st := []) hc mv_X9_142 h sh42 sl42 rfl rfl rfl (Nat.le_of_ble_eq_true rfl) ⟨Nat.le_refl _, Nat.le_refl _⟩ ⟨Nat.le_refl _, Nat.le_refl _⟩ dd_X9_readsRest_75 rfl (fun r5 M5 h => ?_)
      exact hb_zret hc rfl h.1 dd_X9_readsRest_78 h.2
theorem w_X9_does {d : Nat} {M : Mm} {v1 : Int32} {K : Mm → Prop}  (h : (v1 = 0 → (ACv d X9_anew [.ref 42, .int (M.1 52 0)] M (fun M1 => K M1))) ∧ (v1 = 1 → (K (wI M 42 2 (M.1 52 0)))) ∧ (v1 = 2 → (K (wI M 42 3 (M.1 52 0)))) ∧ (v1 = 3 → (vp_in (M.1 42 4) 8 ∧ (K (wI (wI M 44 ((M.1 42 4).toNatClampNeg) (M.1 52 0)) 42 4 ((M.1 42 4) + 1))))) ∧ (v1 = 4 → (vp_in (0 + (M.1 42 5)) 144 ∧ (K (wI (wI M 43 ((0 + (M.1 42 5)).toNatClampNeg) (M.1 52 0)) 42 5 ((M.1 42 5) + 1))))) ∧ (v1 < 0 ∨ nI 4 < v1 → (vp_in (6 + (M.1 52 0)) 144 ∧ (K (wI M 43 ((6 + (M.1 52 0)).toNatClampNeg) (M.1 52 1)))))) : ACv (d + 1) X9_does [.ref 42, .int v1] M K := by
  refine AC.ofW (lv := [some (.ref 42), some (.int v1)]) pn_X9 (Nat.le_of_ble_eq_true rfl) (show lvLe _ [some (.ref 42), some (.int v1)] from (lvs (lvs lvz))) ?_
  intro p l e s m args below meth c G hc
  refine hb_iload_n (q := 1) hc dd_X9_does_0 rfl rfl ?_
  by_cases zo : v1 < 0 ∨ nI 4 < v1
  · replace h := h.2.2.2.2.2 zo
    refine hb_tableOut (tg := 133) hc dd_X9_does_1 (sw_out (k := 4) (by decide) zo) (by decide) ?_
    refine hb_aload_n (q := 134) hc dd_X9_does_133 rfl rfl ?_
    refine hb_getR (q := 137) hc fl_X9_7 sh42 sl42 rfl dd_X9_does_134 rfl ?_
    refine hb_bipush (q := 139) (v := 6) hc dd_X9_does_137 rfl bp_6 ?_
    refine hb_aload_n (q := 140) hc dd_X9_does_139 rfl rfl ?_
    refine hb_getR (q := 143) hc fl_X9_38 sh42 sl42 rfl dd_X9_does_140 rfl ?_
    refine hb_iconst (q := 144) (v := 0) hc dd_X9_does_143 rfl ic_0 ?_
    refine hb_iald (q := 145) (k := 0) (v := M.1 52 0) hc sh52 sl52 vl_0_2 cl_0 rfl dd_X9_does_144 rfl ?_
    refine hb_iadd (q := 146) hc dd_X9_does_145 rfl ?_
    refine hb_aload_n (q := 147) hc dd_X9_does_146 rfl rfl ?_
    refine hb_getR (q := 150) hc fl_X9_38 sh42 sl42 rfl dd_X9_does_147 rfl ?_
    refine hb_iconst (q := 151) (v := 1) hc dd_X9_does_150 rfl ic_1 ?_
    refine hb_iald (q := 152) (k := 1) (v := M.1 52 1) hc sh52 sl52 vl_1_2 cl_1 rfl dd_X9_does_151 rfl ?_
    obtain ⟨hi, h⟩ := h
    refine hb_iast (q := 153) hc sh43 sl43 hi rfl dd_X9_does_152 rfl ?_
    exact hb_vret hc rfl dd_X9_does_153 h
  · have zi := sw_in4 zo
    rcases zi with z | z | z | z | z
    · replace h := h.1 z
      refine hb_tableIn (off := 35) (tg := 36) hc dd_X9_does_1 (by rw [z]; decide) (by rw [z]; decide) (by rw [z]; rfl) (by decide) ?_
      refine hb_aload_n (q := 37) hc dd_X9_does_36 rfl rfl ?_
      refine hb_aload_n (q := 38) hc dd_X9_does_37 rfl rfl ?_
      refine hb_getR (q := 41) hc fl_X9_38 sh42 sl42 rfl dd_X9_does_38 rfl ?_
      refine hb_iconst (q := 42) (v := 0) hc dd_X9_does_41 rfl ic_0 ?_
      refine hb_iald (q := 43) (k := 0) (v := M.1 52 0) hc sh52 sl52 vl_0_2 cl_0 rfl dd_X9_does_42 rfl ?_
      refine hb_callVv (q := 46) (vs := [.int (M.1 52 0)]) (st := []) hc mv_X9_78 h sh42 sl42 rfl rfl rfl (Nat.le_of_ble_eq_true rfl) ⟨Nat.le_refl _, Nat.le_refl _⟩ ⟨Nat.le_refl _, Nat.le_refl _⟩ dd_X9_does_43 rfl (fun M1 h => ?_)
      refine hb_goto (tg := 153) hc dd_X9_does_46 (by decide) ?_
      exact hb_vret hc rfl dd_X9_does_153 h
    · replace h := h.2.1 z
      refine hb_tableIn (off := 48) (tg := 49) hc dd_X9_does_1 (by rw [z]; decide) (by rw [z]; decide) (by rw [z]; rfl) (by decide) ?_
      refine hb_aload_n (q := 50) hc dd_X9_does_49 rfl rfl ?_
      refine hb_aload_n (q := 51) hc dd_X9_does_50 rfl rfl ?_
      refine hb_getR (q := 54) hc fl_X9_38 sh42 sl42 rfl dd_X9_does_51 rfl ?_
      refine hb_iconst (q := 55) (v := 0) hc dd_X9_does_54 rfl ic_0 ?_
      refine hb_iald (q := 56) (k := 0) (v := M.1 52 0) hc sh52 sl52 vl_0_2 cl_0 rfl dd_X9_does_55 rfl ?_
      refine hb_putI (q := 59) hc fl_X9_90 sh42 sl42 rfl dd_X9_does_56 rfl ?_
      refine hb_goto (tg := 153) hc dd_X9_does_59 (by decide) ?_
      exact hb_vret hc rfl dd_X9_does_153 h
    · replace h := h.2.2.1 z
      refine hb_tableIn (off := 61) (tg := 62) hc dd_X9_does_1 (by rw [z]; decide) (by rw [z]; decide) (by rw [z]; rfl) (by decide) ?_
      refine hb_aload_n (q := 63) hc dd_X9_does_62 rfl rfl ?_
      refine hb_aload_n (q := 64) hc dd_X9_does_63 rfl rfl ?_
      refine hb_getR (q := 67) hc fl_X9_38 sh42 sl42 rfl dd_X9_does_64 rfl ?_
      refine hb_iconst (q := 68) (v := 0) hc dd_X9_does_67 rfl ic_0 ?_
      refine hb_iald (q := 69) (k := 0) (v := M.1 52 0) hc sh52 sl52 vl_0_2 cl_0 rfl dd_X9_does_68 rfl ?_
      refine hb_putI (q := 72) hc fl_X9_93 sh42 sl42 rfl dd_X9_does_69 rfl ?_
      refine hb_goto (tg := 153) hc dd_X9_does_72 (by decide) ?_
      exact hb_vret hc rfl dd_X9_does_153 h
    · replace h := h.2.2.2.1 z
      refine hb_tableIn (off := 74) (tg := 75) hc dd_X9_does_1 (by rw [z]; decide) (by rw [z]; decide) (by rw [z]; rfl) (by decide) ?_
      refine hb_aload_n (q := 76) hc dd_X9_does_75 rfl rfl ?_
      refine hb_getR (q := 79) hc fl_X9_13 sh42 sl42 rfl dd_X9_does_76 rfl ?_
      refine hb_aload_n (q := 80) hc dd_X9_does_79 rfl rfl ?_
      refine hb_getI (q := 83) (v := M.1 42 4) hc fl_X9_96 sh42 sl42 rfl rfl dd_X9_does_80 rfl ?_
      refine hb_aload_n (q := 84) hc dd_X9_does_83 rfl rfl ?_
      refine hb_getR (q := 87) hc fl_X9_38 sh42 sl42 rfl dd_X9_does_84 rfl ?_
      refine hb_iconst (q := 88) (v := 0) hc dd_X9_does_87 rfl ic_0 ?_
      refine hb_iald (q := 89) (k := 0) (v := M.1 52 0) hc sh52 sl52 vl_0_2 cl_0 rfl dd_X9_does_88 rfl ?_
      obtain ⟨hi, h⟩ := h
      refine hb_iast (q := 90) hc sh44 sl44 hi rfl dd_X9_does_89 rfl ?_
      refine hb_aload_n (q := 91) hc dd_X9_does_90 rfl rfl ?_
      refine hb_dup (q := 92) hc dd_X9_does_91 rfl rfl ?_
      refine hb_getI (q := 95) (v := M.1 42 4) hc fl_X9_96 sh42 sl42 rfl (by simp [wI, wL, cpI, cpL]) dd_X9_does_92 rfl ?_
      refine hb_iconst (q := 96) (v := 1) hc dd_X9_does_95 rfl ic_1 ?_
      refine hb_iadd (q := 97) hc dd_X9_does_96 rfl ?_
      refine hb_putI (q := 100) hc fl_X9_96 sh42 sl42 rfl dd_X9_does_97 rfl ?_
      refine hb_goto (tg := 153) hc dd_X9_does_100 (by decide) ?_
      exact hb_vret hc rfl dd_X9_does_153 h
    · replace h := h.2.2.2.2.1 z
      refine hb_tableIn (off := 102) (tg := 103) hc dd_X9_does_1 (by rw [z]; decide) (by rw [z]; decide) (by rw [z]; rfl) (by decide) ?_
      refine hb_aload_n (q := 104) hc dd_X9_does_103 rfl rfl ?_
      refine hb_getR (q := 107) hc fl_X9_7 sh42 sl42 rfl dd_X9_does_104 rfl ?_
      refine hb_iconst (q := 108) (v := 0) hc dd_X9_does_107 rfl ic_0 ?_
      refine hb_aload_n (q := 109) hc dd_X9_does_108 rfl rfl ?_
      refine hb_getI (q := 112) (v := M.1 42 5) hc fl_X9_99 sh42 sl42 rfl rfl dd_X9_does_109 rfl ?_
      refine hb_iadd (q := 113) hc dd_X9_does_112 rfl ?_
      refine hb_aload_n (q := 114) hc dd_X9_does_113 rfl rfl ?_
      refine hb_getR (q := 117) hc fl_X9_38 sh42 sl42 rfl dd_X9_does_114 rfl ?_
      refine hb_iconst (q := 118) (v := 0) hc dd_X9_does_117 rfl ic_0 ?_
      refine hb_iald (q := 119) (k := 0) (v := M.1 52 0) hc sh52 sl52 vl_0_2 cl_0 rfl dd_X9_does_118 rfl ?_
      obtain ⟨hi, h⟩ := h
      refine hb_iast (q := 120) hc sh43 sl43 hi rfl dd_X9_does_119 rfl ?_
      refine hb_aload_n (q := 121) hc dd_X9_does_120 rfl rfl ?_
      refine hb_dup (q := 122) hc dd_X9_does_121 rfl rfl ?_
      refine hb_getI (q := 125) (v := M.1 42 5) hc fl_X9_99 sh42 sl42 rfl (by simp [wI, wL, cpI, cpL]) dd_X9_does_122 rfl ?_
      refine hb_iconst (q := 126) (v := 1) hc dd_X9_does_125 rfl ic_1 ?_
      refine hb_iadd (q := 127) hc dd_X9_does_126 rfl ?_
      refine hb_putI (q := 130) hc fl_X9_99 sh42 sl42 rfl dd_X9_does_127 rfl ?_
      refine hb_goto (tg := 153) hc dd_X9_does_130 (by decide) ?_
      exact hb_vret hc rfl dd_X9_does_153 h
def lp_X9_readsClause_24 (d : Nat) (M : Mm) (v1 : Int32) (K : Int32 → Mm → Prop) : Prop := AW (d + 1) X9_readsClause M 24 [some (.ref 42), some (.int v1)] [] (QI K)
def lp_X9_readsClause_72 (d : Nat) (M : Mm) (v1 : Int32) (s0 : Int32) (K : Int32 → Mm → Prop) : Prop := AW (d + 1) X9_readsClause M 72 [some (.ref 42), some (.int v1)] [.int s0, .ref 42] (QI K)
def lp_X9_readsClause_102 (d : Nat) (M : Mm) (v1 : Int32) (s0 : Int32) (K : Int32 → Mm → Prop) : Prop := AW (d + 1) X9_readsClause M 102 [some (.ref 42), some (.int v1)] [.int s0, .ref 42] (QI K)
theorem z_X9_readsClause_24 {d : Nat} {M : Mm} {v1 : Int32} {K : Int32 → Mm → Prop}  (h : (¬ v1 = 4 → (ACv d X9_nextToken [.ref 42] M (fun M1 => ACi d X9_readsRest [.ref 42, .int v1] M1 (fun r2 M2 => (¬ r2 = 0 → ((¬ v1 = 0 → (lp_X9_readsClause_72 d M2 v1 (M2.1 42 20) K)) ∧ (v1 = 0 → (lp_X9_readsClause_72 d M2 v1 (M2.1 52 0) K)))) ∧ (r2 = 0 → (K 0 M2)))))) ∧ (v1 = 4 → ((¬ (M.1 42 22) = 6 → (ACv d X9_nextToken [.ref 42] M (fun M3 => ACi d X9_readsRest [.ref 42, .int v1] M3 (fun r4 M4 => (¬ r4 = 0 → ((¬ v1 = 0 → (lp_X9_readsClause_72 d M4 v1 (M4.1 42 20) K)) ∧ (v1 = 0 → (lp_X9_readsClause_72 d M4 v1 (M4.1 52 0) K)))) ∧ (r4 = 0 → (K 0 M4)))))) ∧ ((M.1 42 22) = 6 → (K 0 M))))) : lp_X9_readsClause_24 d M v1 K := by
  intro p l e s m args below meth c G hc
  refine hb_iload_n (q := 25) hc dd_X9_readsClause_24 rfl rfl ?_
  refine hb_iconst (q := 26) (v := 4) hc dd_X9_readsClause_25 rfl ic_4 ?_
  refine hb_icmp_ne (q := 29) (tg := 40) hc dd_X9_readsClause_26 rfl (by decide) (fun z => ?_) (fun z => ?_)
  · replace h := h.1 z
    refine hb_aload_n (q := 41) hc dd_X9_readsClause_40 rfl rfl ?_
    refine hb_callVv (q := 44) (vs := []) (st := []) hc mv_X9_132 h sh42 sl42 rfl rfl rfl (Nat.le_of_ble_eq_true rfl) ⟨Nat.le_refl _, Nat.le_refl _⟩ ⟨Nat.le_refl _, Nat.le_refl _⟩ dd_X9_readsClause_41 rfl (fun M1 h => ?_)
    refine hb_aload_n (q := 45) hc dd_X9_readsClause_44 rfl rfl ?_
    refine hb_iload_n (q := 46) hc dd_X9_readsClause_45 rfl rfl ?_
    refine hb_callVi (q := 49) (vs := [.int v1]) (st := []) hc mv_X9_160 h sh42 sl42 rfl rfl rfl (Nat.le_of_ble_eq_true rfl) ⟨Nat.le_refl _, Nat.le_refl _⟩ ⟨Nat.le_refl _, Nat.le_refl _⟩ dd_X9_readsClause_46 rfl (fun r2 M2 h => ?_)
    refine hb_if_ne (q := 52) (tg := 54) hc dd_X9_readsClause_49 rfl (by decide) (fun z => ?_) (fun z => ?_)
    · replace h := h.1 z
      refine hb_aload_n (q := 55) hc dd_X9_readsClause_54 rfl rfl ?_
      refine hb_iload_n (q := 56) hc dd_X9_readsClause_55 rfl rfl ?_
      refine hb_if_ne (q := 59) (tg := 68) hc dd_X9_readsClause_56 rfl (by decide) (fun z => ?_) (fun z => ?_)
      · replace h := h.1 z
        refine hb_aload_n (q := 69) hc dd_X9_readsClause_68 rfl rfl ?_
        refine hb_getI (q := 72) (v := M2.1 42 20) hc fl_X9_135 sh42 sl42 rfl rfl dd_X9_readsClause_69 rfl ?_
        exact hb_weak (lvs (lvs lvz)) (h p l e s m args below meth c G hc)
      · replace h := h.2 z
        refine hb_aload_n (q := 60) hc dd_X9_readsClause_59 rfl rfl ?_
        refine hb_getR (q := 63) hc fl_X9_38 sh42 sl42 rfl dd_X9_readsClause_60 rfl ?_
        refine hb_iconst (q := 64) (v := 0) hc dd_X9_readsClause_63 rfl ic_0 ?_
        refine hb_iald (q := 65) (k := 0) (v := M2.1 52 0) hc sh52 sl52 vl_0_2 cl_0 rfl dd_X9_readsClause_64 rfl ?_
        refine hb_goto (tg := 72) hc dd_X9_readsClause_65 (by decide) ?_
        exact hb_weak (lvs (lvs lvz)) (h p l e s m args below meth c G hc)
    · replace h := h.2 z
      refine hb_iconst (q := 53) (v := 0) hc dd_X9_readsClause_52 rfl ic_0 ?_
      exact hb_zret hc rfl (by decide) dd_X9_readsClause_53 h
  · replace h := h.2 z
    refine hb_aload_n (q := 30) hc dd_X9_readsClause_29 rfl rfl ?_
    refine hb_getI (q := 33) (v := M.1 42 22) hc fl_X9_150 sh42 sl42 rfl rfl dd_X9_readsClause_30 rfl ?_
    refine hb_bipush (q := 35) (v := 6) hc dd_X9_readsClause_33 rfl bp_6 ?_
    refine hb_icmp_ne (q := 38) (tg := 40) hc dd_X9_readsClause_35 rfl (by decide) (fun z => ?_) (fun z => ?_)
    · replace h := h.1 z
      refine hb_aload_n (q := 41) hc dd_X9_readsClause_40 rfl rfl ?_
      refine hb_callVv (q := 44) (vs := []) (st := []) hc mv_X9_132 h sh42 sl42 rfl rfl rfl (Nat.le_of_ble_eq_true rfl) ⟨Nat.le_refl _, Nat.le_refl _⟩ ⟨Nat.le_refl _, Nat.le_refl _⟩ dd_X9_readsClause_41 rfl (fun M3 h => ?_)
      refine hb_aload_n (q := 45) hc dd_X9_readsClause_44 rfl rfl ?_
      refine hb_iload_n (q := 46) hc dd_X9_readsClause_45 rfl rfl ?_
      refine hb_callVi (q := 49) (vs := [.int v1]) (st := []) hc mv_X9_160 h sh42 sl42 rfl rfl rfl (Nat.le_of_ble_eq_true rfl) ⟨Nat.le_refl _, Nat.le_refl _⟩ ⟨Nat.le_refl _, Nat.le_refl _⟩ dd_X9_readsClause_46 rfl (fun r4 M4 h => ?_)
      refine hb_if_ne (q := 52) (tg := 54) hc dd_X9_readsClause_49 rfl (by decide) (fun z => ?_) (fun z => ?_)
      · replace h := h.1 z
        refine hb_aload_n (q := 55) hc dd_X9_readsClause_54 rfl rfl ?_
        refine hb_iload_n (q := 56) hc dd_X9_readsClause_55 rfl rfl ?_
        refine hb_if_ne (q := 59) (tg := 68) hc dd_X9_readsClause_56 rfl (by decide) (fun z => ?_) (fun z => ?_)
        · replace h := h.1 z
          refine hb_aload_n (q := 69) hc dd_X9_readsClause_68 rfl rfl ?_
          refine hb_getI (q := 72) (v := M4.1 42 20) hc fl_X9_135 sh42 sl42 rfl rfl dd_X9_readsClause_69 rfl ?_
          exact hb_weak (lvs (lvs lvz)) (h p l e s m args below meth c G hc)
        · replace h := h.2 z
          refine hb_aload_n (q := 60) hc dd_X9_readsClause_59 rfl rfl ?_
          refine hb_getR (q := 63) hc fl_X9_38 sh42 sl42 rfl dd_X9_readsClause_60 rfl ?_
          refine hb_iconst (q := 64) (v := 0) hc dd_X9_readsClause_63 rfl ic_0 ?_
          refine hb_iald (q := 65) (k := 0) (v := M4.1 52 0) hc sh52 sl52 vl_0_2 cl_0 rfl dd_X9_readsClause_64 rfl ?_
          refine hb_goto (tg := 72) hc dd_X9_readsClause_65 (by decide) ?_
          exact hb_weak (lvs (lvs lvz)) (h p l e s m args below meth c G hc)
      · replace h := h.2 z
        refine hb_iconst (q := 53) (v := 0) hc dd_X9_readsClause_52 rfl ic_0 ?_
        exact hb_zret hc rfl (by decide) dd_X9_readsClause_53 h
    · replace h := h.2 z
      refine hb_iconst (q := 39) (v := 0) hc dd_X9_readsClause_38 rfl ic_0 ?_
      exact hb_zret hc rfl (by decide) dd_X9_readsClause_39 h
theorem z_X9_readsClause_72 {d : Nat} {M : Mm} {v1 : Int32} {s0 : Int32} {K : Int32 → Mm → Prop}  (h : (¬ v1 = 0 → ((¬ v1 = 3 → (lp_X9_readsClause_102 d (wI M 42 20 s0) v1 (M.1 42 21) K)) ∧ (v1 = 3 → (lp_X9_readsClause_102 d (wI M 42 20 s0) v1 ((M.1 42 21) + 1) K)))) ∧ (v1 = 0 → (lp_X9_readsClause_102 d (wI M 42 20 s0) v1 0 K))) : lp_X9_readsClause_72 d M v1 s0 K := by
  intro p l e s m args below meth c G hc
  refine hb_putI (q := 75) hc fl_X9_135 sh42 sl42 rfl dd_X9_readsClause_72 rfl ?_
  refine hb_aload_n (q := 76) hc dd_X9_readsClause_75 rfl rfl ?_
  refine hb_iload_n (q := 77) hc dd_X9_readsClause_76 rfl rfl ?_
  refine hb_if_ne (q := 80) (tg := 84) hc dd_X9_readsClause_77 rfl (by decide) (fun z => ?_) (fun z => ?_)
  · replace h := h.1 z
    refine hb_iload_n (q := 85) hc dd_X9_readsClause_84 rfl rfl ?_
    refine hb_iconst (q := 86) (v := 3) hc dd_X9_readsClause_85 rfl ic_3 ?_
    refine hb_icmp_ne (q := 89) (tg := 98) hc dd_X9_readsClause_86 rfl (by decide) (fun z => ?_) (fun z => ?_)
    · replace h := h.1 z
      refine hb_aload_n (q := 99) hc dd_X9_readsClause_98 rfl rfl ?_
      refine hb_getI (q := 102) (v := M.1 42 21) hc fl_X9_153 sh42 sl42 rfl rfl dd_X9_readsClause_99 rfl ?_
      exact hb_weak (lvs (lvs lvz)) (h p l e s m args below meth c G hc)
    · replace h := h.2 z
      refine hb_aload_n (q := 90) hc dd_X9_readsClause_89 rfl rfl ?_
      refine hb_getI (q := 93) (v := M.1 42 21) hc fl_X9_153 sh42 sl42 rfl rfl dd_X9_readsClause_90 rfl ?_
      refine hb_iconst (q := 94) (v := 1) hc dd_X9_readsClause_93 rfl ic_1 ?_
      refine hb_iadd (q := 95) hc dd_X9_readsClause_94 rfl ?_
      refine hb_goto (tg := 102) hc dd_X9_readsClause_95 (by decide) ?_
      exact hb_weak (lvs (lvs lvz)) (h p l e s m args below meth c G hc)
  · replace h := h.2 z
    refine hb_iconst (q := 81) (v := 0) hc dd_X9_readsClause_80 rfl ic_0 ?_
    refine hb_goto (tg := 102) hc dd_X9_readsClause_81 (by decide) ?_
    exact hb_weak (lvs (lvs lvz)) (h p l e s m args below meth c G hc)
theorem z_X9_readsClause_102 {d : Nat} {M : Mm} {v1 : Int32} {s0 : Int32} {K : Int32 → Mm → Prop}  (h : (¬ v1 = 0 → ((¬ v1 = 4 → (((M.1 42 24) = 0 → (K 1 (wI (wI M 42 21 s0) 42 22 (M.1 42 22)))) ∧ (¬ (M.1 42 24) = 0 → (ACv d X9_does [.ref 42, .int v1] (wI (wI M 42 21 s0) 42 22 (M.1 42 22)) (fun M1 => K 1 M1))))) ∧ (v1 = 4 → (((M.1 42 24) = 0 → (K 1 (wI (wI M 42 21 s0) 42 22 ((M.1 42 22) + 1)))) ∧ (¬ (M.1 42 24) = 0 → (ACv d X9_does [.ref 42, .int v1] (wI (wI M 42 21 s0) 42 22 ((M.1 42 22) + 1)) (fun M2 => K 1 M2))))))) ∧ (v1 = 0 → (((M.1 42 24) = 0 → (K 1 (wI (wI M 42 21 s0) 42 22 0))) ∧ (¬ (M.1 42 24) = 0 → (ACv d X9_does [.ref 42, .int v1] (wI (wI M 42 21 s0) 42 22 0) (fun M3 => K 1 M3)))))) : lp_X9_readsClause_102 d M v1 s0 K := by
  intro p l e s m args below meth c G hc
  refine hb_putI (q := 105) hc fl_X9_153 sh42 sl42 rfl dd_X9_readsClause_102 rfl ?_
  refine hb_aload_n (q := 106) hc dd_X9_readsClause_105 rfl rfl ?_
  refine hb_iload_n (q := 107) hc dd_X9_readsClause_106 rfl rfl ?_
  refine hb_if_ne (q := 110) (tg := 114) hc dd_X9_readsClause_107 rfl (by decide) (fun z => ?_) (fun z => ?_)
  · replace h := h.1 z
    refine hb_iload_n (q := 115) hc dd_X9_readsClause_114 rfl rfl ?_
    refine hb_iconst (q := 116) (v := 4) hc dd_X9_readsClause_115 rfl ic_4 ?_
    refine hb_icmp_ne (q := 119) (tg := 128) hc dd_X9_readsClause_116 rfl (by decide) (fun z => ?_) (fun z => ?_)
    · replace h := h.1 z
      refine hb_aload_n (q := 129) hc dd_X9_readsClause_128 rfl rfl ?_
      refine hb_getI (q := 132) (v := M.1 42 22) hc fl_X9_150 sh42 sl42 rfl rfl dd_X9_readsClause_129 rfl ?_
      refine hb_putI (q := 135) hc fl_X9_150 sh42 sl42 rfl dd_X9_readsClause_132 rfl ?_
      refine hb_aload_n (q := 136) hc dd_X9_readsClause_135 rfl rfl ?_
      refine hb_getI (q := 139) (v := M.1 42 24) hc fl_X9_163 sh42 sl42 rfl rfl dd_X9_readsClause_136 rfl ?_
      refine hb_if_eq (q := 142) (tg := 147) hc dd_X9_readsClause_139 rfl (by decide) (fun z => ?_) (fun z => ?_)
      · replace h := h.1 z
        refine hb_iconst (q := 148) (v := 1) hc dd_X9_readsClause_147 rfl ic_1 ?_
        exact hb_zret hc rfl (by decide) dd_X9_readsClause_148 h
      · replace h := h.2 z
        refine hb_aload_n (q := 143) hc dd_X9_readsClause_142 rfl rfl ?_
        refine hb_iload_n (q := 144) hc dd_X9_readsClause_143 rfl rfl ?_
        refine hb_callVv (q := 147) (vs := [.int v1]) (st := []) hc mv_X9_167 h sh42 sl42 rfl rfl rfl (Nat.le_of_ble_eq_true rfl) ⟨Nat.le_refl _, Nat.le_refl _⟩ ⟨Nat.le_refl _, Nat.le_refl _⟩ dd_X9_readsClause_144 rfl (fun M1 h => ?_)
        refine hb_iconst (q := 148) (v := 1) hc dd_X9_readsClause_147 rfl ic_1 ?_
        exact hb_zret hc rfl (by decide) dd_X9_readsClause_148 h
    · replace h := h.2 z
      refine hb_aload_n (q := 120) hc dd_X9_readsClause_119 rfl rfl ?_
      refine hb_getI (q := 123) (v := M.1 42 22) hc fl_X9_150 sh42 sl42 rfl rfl dd_X9_readsClause_120 rfl ?_
      refine hb_iconst (q := 124) (v := 1) hc dd_X9_readsClause_123 rfl ic_1 ?_
      refine hb_iadd (q := 125) hc dd_X9_readsClause_124 rfl ?_
      refine hb_goto (tg := 132) hc dd_X9_readsClause_125 (by decide) ?_
      refine hb_putI (q := 135) hc fl_X9_150 sh42 sl42 rfl dd_X9_readsClause_132 rfl ?_
      refine hb_aload_n (q := 136) hc dd_X9_readsClause_135 rfl rfl ?_
      refine hb_getI (q := 139) (v := M.1 42 24) hc fl_X9_163 sh42 sl42 rfl rfl dd_X9_readsClause_136 rfl ?_
      refine hb_if_eq (q := 142) (tg := 147) hc dd_X9_readsClause_139 rfl (by decide) (fun z => ?_) (fun z => ?_)
      · replace h := h.1 z
        refine hb_iconst (q := 148) (v := 1) hc dd_X9_readsClause_147 rfl ic_1 ?_
        exact hb_zret hc rfl (by decide) dd_X9_readsClause_148 h
      · replace h := h.2 z
        refine hb_aload_n (q := 143) hc dd_X9_readsClause_142 rfl rfl ?_
        refine hb_iload_n (q := 144) hc dd_X9_readsClause_143 rfl rfl ?_
        refine hb_callVv (q := 147) (vs := [.int v1]) (st := []) hc mv_X9_167 h sh42 sl42 rfl rfl rfl (Nat.le_of_ble_eq_true rfl) ⟨Nat.le_refl _, Nat.le_refl _⟩ ⟨Nat.le_refl _, Nat.le_refl _⟩ dd_X9_readsClause_144 rfl (fun M2 h => ?_)
        refine hb_iconst (q := 148) (v := 1) hc dd_X9_readsClause_147 rfl ic_1 ?_
        exact hb_zret hc rfl (by decide) dd_X9_readsClause_148 h
  · replace h := h.2 z
    refine hb_iconst (q := 111) (v := 0) hc dd_X9_readsClause_110 rfl ic_0 ?_
    refine hb_goto (tg := 132) hc dd_X9_readsClause_111 (by decide) ?_
    refine hb_putI (q := 135) hc fl_X9_150 sh42 sl42 rfl dd_X9_readsClause_132 rfl ?_
    refine hb_aload_n (q := 136) hc dd_X9_readsClause_135 rfl rfl ?_
    refine hb_getI (q := 139) (v := M.1 42 24) hc fl_X9_163 sh42 sl42 rfl rfl dd_X9_readsClause_136 rfl ?_
    refine hb_if_eq (q := 142) (tg := 147) hc dd_X9_readsClause_139 rfl (by decide) (fun z => ?_) (fun z => ?_)
    · replace h := h.1 z
      refine hb_iconst (q := 148) (v := 1) hc dd_X9_readsClause_147 rfl ic_1 ?_
      exact hb_zret hc rfl (by decide) dd_X9_readsClause_148 h
    · replace h := h.2 z
      refine hb_aload_n (q := 143) hc dd_X9_readsClause_142 rfl rfl ?_
      refine hb_iload_n (q := 144) hc dd_X9_readsClause_143 rfl rfl ?_
      refine hb_callVv (q := 147) (vs := [.int v1]) (st := []) hc mv_X9_167 h sh42 sl42 rfl rfl rfl (Nat.le_of_ble_eq_true rfl) ⟨Nat.le_refl _, Nat.le_refl _⟩ ⟨Nat.le_refl _, Nat.le_refl _⟩ dd_X9_readsClause_144 rfl (fun M3 h => ?_)
      refine hb_iconst (q := 148) (v := 1) hc dd_X9_readsClause_147 rfl ic_1 ?_
      exact hb_zret hc rfl (by decide) dd_X9_readsClause_148 h
theorem w_X9_readsClause {d : Nat} {M : Mm}  {K : Int32 → Mm → Prop}  (h : ACi d X9_wordHere [.ref 42] M (fun r1 M1 => (r1 = (-1) → (K 0 M1)) ∧ (¬ r1 = (-1) → ((¬ r1 = 3 → (lp_X9_readsClause_24 d M1 r1 K)) ∧ (r1 = 3 → (((M1.1 42 21) = 8 → (K 0 M1)) ∧ (¬ (M1.1 42 21) = 8 → (lp_X9_readsClause_24 d M1 r1 K)))))))) : ACi (d + 1) X9_readsClause [.ref 42] M K := by
  refine AC.ofW (lv := [some (.ref 42), none]) pn_X9 (Nat.le_of_ble_eq_true rfl) (show lvLe _ [some (.ref 42)] from (lvs (lve lvz))) ?_
  intro p l e s m args below meth c G hc
  refine hb_aload_n (q := 1) hc dd_X9_readsClause_0 rfl rfl ?_
  refine hb_callVi (q := 4) (vs := []) (st := []) hc mv_X9_156 h sh42 sl42 rfl rfl rfl (Nat.le_of_ble_eq_true rfl) ⟨Nat.le_refl _, Nat.le_refl _⟩ ⟨Nat.le_refl _, Nat.le_refl _⟩ dd_X9_readsClause_1 rfl (fun r1 M1 h => ?_)
  refine hb_istore_n (q := 5) (lv' := [some (.ref 42), some (.int r1)]) hc dd_X9_readsClause_4 rfl (Nat.le_of_ble_eq_true rfl) rfl ?_
  refine hb_iload_n (q := 6) hc dd_X9_readsClause_5 rfl rfl ?_
  refine hb_iconst (q := 7) (v := (-1)) hc dd_X9_readsClause_6 rfl ic_m1 ?_
  refine hb_icmp_eq (q := 10) (tg := 38) hc dd_X9_readsClause_7 rfl (by decide) (fun z => ?_) (fun z => ?_)
  · replace h := h.1 z
    refine hb_iconst (q := 39) (v := 0) hc dd_X9_readsClause_38 rfl ic_0 ?_
    exact hb_zret hc rfl (by decide) dd_X9_readsClause_39 h
  · replace h := h.2 z
    refine hb_iload_n (q := 11) hc dd_X9_readsClause_10 rfl rfl ?_
    refine hb_iconst (q := 12) (v := 3) hc dd_X9_readsClause_11 rfl ic_3 ?_
    refine hb_icmp_ne (q := 15) (tg := 24) hc dd_X9_readsClause_12 rfl (by decide) (fun z => ?_) (fun z => ?_)
    · replace h := h.1 z
      exact hb_weak (lvs (lvs lvz)) (h p l e s m args below meth c G hc)
    · replace h := h.2 z
      refine hb_aload_n (q := 16) hc dd_X9_readsClause_15 rfl rfl ?_
      refine hb_getI (q := 19) (v := M1.1 42 21) hc fl_X9_153 sh42 sl42 rfl rfl dd_X9_readsClause_16 rfl ?_
      refine hb_bipush (q := 21) (v := 8) hc dd_X9_readsClause_19 rfl bp_8 ?_
      refine hb_icmp_eq (q := 24) (tg := 38) hc dd_X9_readsClause_21 rfl (by decide) (fun z => ?_) (fun z => ?_)
      · replace h := h.1 z
        refine hb_iconst (q := 39) (v := 0) hc dd_X9_readsClause_38 rfl ic_0 ?_
        exact hb_zret hc rfl (by decide) dd_X9_readsClause_39 h
      · replace h := h.2 z
        exact hb_weak (lvs (lvs lvz)) (h p l e s m args below meth c G hc)
def lp_X9_reads_48 (d : Nat) (M : Mm) (v2 : Int32) (K : Int32 → Mm → Prop) : Prop := AW (d + 1) X9_reads M 48 [some (.ref 42), none, some (.int v2)] [] (QI K)
theorem z_X9_reads_48 {d : Nat} {M : Mm} {v2 : Int32} {K : Int32 → Mm → Prop}  (h : (v2 = 0 → ((v2 = 0 ∨ v2 = 1) ∧ K v2 M)) ∧ (¬ v2 = 0 → (((M.1 42 10) ≤ (M.1 42 18) → ((v2 = 0 ∨ v2 = 1) ∧ K v2 M)) ∧ (¬ (M.1 42 10) ≤ (M.1 42 18) → ((24 ≤ (M.1 42 23) → (lp_X9_reads_48 d M 0 K)) ∧ (¬ 24 ≤ (M.1 42 23) → (vp_in (M.1 42 18) 200 ∧ ((¬ (M.1 46 ((M.1 42 18).toNatClampNeg)) = 59 → (lp_X9_reads_48 d M 0 K)) ∧ ((M.1 46 ((M.1 42 18).toNatClampNeg)) = 59 → (ACv d X9_nextToken [.ref 42] M (fun M1 => ACi d X9_readsClause [.ref 42] M1 (fun r2 M2 => lp_X9_reads_48 d (wI M2 42 23 ((M2.1 42 23) + 1)) r2 K)))))))))))) : lp_X9_reads_48 d M v2 K := by
  intro p l e s m args below meth c G hc
  refine hb_iload_n (q := 49) hc dd_X9_reads_48 rfl rfl ?_
  refine hb_if_eq (q := 52) (tg := 118) hc dd_X9_reads_49 rfl (by decide) (fun z => ?_) (fun z => ?_)
  · replace h := h.1 z
    refine hb_iload_n (q := 119) hc dd_X9_reads_118 rfl rfl ?_
    exact hb_zret hc rfl h.1 dd_X9_reads_119 h.2
  · replace h := h.2 z
    refine hb_aload_n (q := 53) hc dd_X9_reads_52 rfl rfl ?_
    refine hb_getI (q := 56) (v := M.1 42 18) hc fl_X9_122 sh42 sl42 rfl rfl dd_X9_reads_53 rfl ?_
    refine hb_aload_n (q := 57) hc dd_X9_reads_56 rfl rfl ?_
    refine hb_getI (q := 60) (v := M.1 42 10) hc fl_X9_108 sh42 sl42 rfl rfl dd_X9_reads_57 rfl ?_
    refine hb_icmp_ge (q := 63) (tg := 118) hc dd_X9_reads_60 rfl (by decide) (fun z => ?_) (fun z => ?_)
    · replace h := h.1 z
      refine hb_iload_n (q := 119) hc dd_X9_reads_118 rfl rfl ?_
      exact hb_zret hc rfl h.1 dd_X9_reads_119 h.2
    · replace h := h.2 z
      refine hb_aload_n (q := 64) hc dd_X9_reads_63 rfl rfl ?_
      refine hb_getI (q := 67) (v := M.1 42 23) hc fl_X9_170 sh42 sl42 rfl rfl dd_X9_reads_64 rfl ?_
      refine hb_bipush (q := 69) (v := 24) hc dd_X9_reads_67 rfl bp_24 ?_
      refine hb_icmp_ge (q := 72) (tg := 90) hc dd_X9_reads_69 rfl (by decide) (fun z => ?_) (fun z => ?_)
      · replace h := h.1 z
        refine hb_iconst (q := 91) (v := 0) hc dd_X9_reads_90 rfl ic_0 ?_
        refine hb_istore_n (q := 92) (lv' := [some (.ref 42), none, some (.int 0)]) hc dd_X9_reads_91 rfl (Nat.le_of_ble_eq_true rfl) rfl ?_
        refine hb_iload_n (q := 93) hc dd_X9_reads_92 rfl rfl ?_
        refine hb_if_eq (q := 96) (tg := 48) hc dd_X9_reads_93 rfl (by decide) (fun _ => ?_) (fun z => absurd z (by decide))
        exact hb_weak (lvs (lvn (lvs lvz))) (h p l e s m args below meth c G hc)
      · replace h := h.2 z
        refine hb_aload_n (q := 73) hc dd_X9_reads_72 rfl rfl ?_
        refine hb_getR (q := 76) hc fl_X9_20 sh42 sl42 rfl dd_X9_reads_73 rfl ?_
        refine hb_aload_n (q := 77) hc dd_X9_reads_76 rfl rfl ?_
        refine hb_getI (q := 80) (v := M.1 42 18) hc fl_X9_122 sh42 sl42 rfl rfl dd_X9_reads_77 rfl ?_
        obtain ⟨hi, h⟩ := h
        refine hb_iald (q := 81) (v := M.1 46 ((M.1 42 18).toNatClampNeg)) hc sh46 sl46 hi rfl rfl dd_X9_reads_80 rfl ?_
        refine hb_bipush (q := 83) (v := 59) hc dd_X9_reads_81 rfl bp_59 ?_
        refine hb_icmp_ne (q := 86) (tg := 90) hc dd_X9_reads_83 rfl (by decide) (fun z => ?_) (fun z => ?_)
        · replace h := h.1 z
          refine hb_iconst (q := 91) (v := 0) hc dd_X9_reads_90 rfl ic_0 ?_
          refine hb_istore_n (q := 92) (lv' := [some (.ref 42), none, some (.int 0)]) hc dd_X9_reads_91 rfl (Nat.le_of_ble_eq_true rfl) rfl ?_
          refine hb_iload_n (q := 93) hc dd_X9_reads_92 rfl rfl ?_
          refine hb_if_eq (q := 96) (tg := 48) hc dd_X9_reads_93 rfl (by decide) (fun _ => ?_) (fun z => absurd z (by decide))
          exact hb_weak (lvs (lvn (lvs lvz))) (h p l e s m args below meth c G hc)
        · replace h := h.2 z
          refine hb_iconst (q := 87) (v := 1) hc dd_X9_reads_86 rfl ic_1 ?_
          refine hb_goto (tg := 91) hc dd_X9_reads_87 (by decide) ?_
          refine hb_istore_n (q := 92) (lv' := [some (.ref 42), none, some (.int 1)]) hc dd_X9_reads_91 rfl (Nat.le_of_ble_eq_true rfl) rfl ?_
          refine hb_iload_n (q := 93) hc dd_X9_reads_92 rfl rfl ?_
          refine hb_if_eq (q := 96) (tg := 48) hc dd_X9_reads_93 rfl (by decide) (fun z => absurd z (by decide)) (fun _ => ?_)
          refine hb_aload_n (q := 97) hc dd_X9_reads_96 rfl rfl ?_
          refine hb_callVv (q := 100) (vs := []) (st := []) hc mv_X9_132 h sh42 sl42 rfl rfl rfl (Nat.le_of_ble_eq_true rfl) ⟨Nat.le_refl _, Nat.le_refl _⟩ ⟨Nat.le_refl _, Nat.le_refl _⟩ dd_X9_reads_97 rfl (fun M1 h => ?_)
          refine hb_aload_n (q := 101) hc dd_X9_reads_100 rfl rfl ?_
          refine hb_callVi (q := 104) (vs := []) (st := []) hc mv_X9_173 h sh42 sl42 rfl rfl rfl (Nat.le_of_ble_eq_true rfl) ⟨Nat.le_refl _, Nat.le_refl _⟩ ⟨Nat.le_refl _, Nat.le_refl _⟩ dd_X9_reads_101 rfl (fun r2 M2 h => ?_)
          refine hb_istore_n (q := 105) (lv' := [some (.ref 42), none, some (.int r2)]) hc dd_X9_reads_104 rfl (Nat.le_of_ble_eq_true rfl) rfl ?_
          refine hb_aload_n (q := 106) hc dd_X9_reads_105 rfl rfl ?_
          refine hb_dup (q := 107) hc dd_X9_reads_106 rfl rfl ?_
          refine hb_getI (q := 110) (v := M2.1 42 23) hc fl_X9_170 sh42 sl42 rfl rfl dd_X9_reads_107 rfl ?_
          refine hb_iconst (q := 111) (v := 1) hc dd_X9_reads_110 rfl ic_1 ?_
          refine hb_iadd (q := 112) hc dd_X9_reads_111 rfl ?_
          refine hb_putI (q := 115) hc fl_X9_170 sh42 sl42 rfl dd_X9_reads_112 rfl ?_
          refine hb_goto (tg := 48) hc dd_X9_reads_115 (by decide) ?_
          exact hb_weak (lvs (lvn (lvs lvz))) (h p l e s m args below meth c G hc)
theorem w_X9_reads {d : Nat} {M : Mm} {v1 : Int32} {K : Int32 → Mm → Prop}  (h : (v1 = 0 ∨ v1 = 1) ∧ (ACv d X9_nextToken [.ref 42] (wI (wI (wI (wI (wI (wI M 42 24 v1) 42 19 0) 42 23 1) 42 20 (M.1 42 1)) 42 21 (M.1 42 4)) 42 22 (M.1 42 5)) (fun M1 => ACi d X9_readsClause [.ref 42] M1 (fun r2 M2 => lp_X9_reads_48 d M2 r2 K)))) : ACi (d + 1) X9_reads [.ref 42, .int v1] M K := by
  refine AC.ofW (lv := [some (.ref 42), some (.int v1), none]) pn_X9 (Nat.le_of_ble_eq_true rfl) (show lvLe _ [some (.ref 42), some (.int v1)] from (lvs (lvs (lve lvz)))) ?_
  intro p l e s m args below meth c G hc
  refine hb_aload_n (q := 1) hc dd_X9_reads_0 rfl rfl ?_
  refine hb_iload_n (q := 2) hc dd_X9_reads_1 rfl rfl ?_
  obtain ⟨hz, h⟩ := h
  refine hb_putZ (q := 5) hc fl_X9_163 sh42 sl42 rfl hz dd_X9_reads_2 rfl ?_
  refine hb_aload_n (q := 6) hc dd_X9_reads_5 rfl rfl ?_
  refine hb_iconst (q := 7) (v := 0) hc dd_X9_reads_6 rfl ic_0 ?_
  refine hb_putI (q := 10) hc fl_X9_119 sh42 sl42 rfl dd_X9_reads_7 rfl ?_
  refine hb_aload_n (q := 11) hc dd_X9_reads_10 rfl rfl ?_
  refine hb_iconst (q := 12) (v := 1) hc dd_X9_reads_11 rfl ic_1 ?_
  refine hb_putI (q := 15) hc fl_X9_170 sh42 sl42 rfl dd_X9_reads_12 rfl ?_
  refine hb_aload_n (q := 16) hc dd_X9_reads_15 rfl rfl ?_
  refine hb_aload_n (q := 17) hc dd_X9_reads_16 rfl rfl ?_
  refine hb_getI (q := 20) (v := M.1 42 1) hc fl_X9_86 sh42 sl42 rfl rfl dd_X9_reads_17 rfl ?_
  refine hb_putI (q := 23) hc fl_X9_135 sh42 sl42 rfl dd_X9_reads_20 rfl ?_
  refine hb_aload_n (q := 24) hc dd_X9_reads_23 rfl rfl ?_
  refine hb_aload_n (q := 25) hc dd_X9_reads_24 rfl rfl ?_
  refine hb_getI (q := 28) (v := M.1 42 4) hc fl_X9_96 sh42 sl42 rfl rfl dd_X9_reads_25 rfl ?_
  refine hb_putI (q := 31) hc fl_X9_153 sh42 sl42 rfl dd_X9_reads_28 rfl ?_
  refine hb_aload_n (q := 32) hc dd_X9_reads_31 rfl rfl ?_
  refine hb_aload_n (q := 33) hc dd_X9_reads_32 rfl rfl ?_
  refine hb_getI (q := 36) (v := M.1 42 5) hc fl_X9_99 sh42 sl42 rfl rfl dd_X9_reads_33 rfl ?_
  refine hb_putI (q := 39) hc fl_X9_150 sh42 sl42 rfl dd_X9_reads_36 rfl ?_
  refine hb_aload_n (q := 40) hc dd_X9_reads_39 rfl rfl ?_
  refine hb_callVv (q := 43) (vs := []) (st := []) hc mv_X9_132 h sh42 sl42 rfl rfl rfl (Nat.le_of_ble_eq_true rfl) ⟨Nat.le_refl _, Nat.le_refl _⟩ ⟨Nat.le_refl _, Nat.le_refl _⟩ dd_X9_reads_40 rfl (fun M1 h => ?_)
  refine hb_aload_n (q := 44) hc dd_X9_reads_43 rfl rfl ?_
  refine hb_callVi (q := 47) (vs := []) (st := []) hc mv_X9_173 h sh42 sl42 rfl rfl rfl (Nat.le_of_ble_eq_true rfl) ⟨Nat.le_refl _, Nat.le_refl _⟩ ⟨Nat.le_refl _, Nat.le_refl _⟩ dd_X9_reads_44 rfl (fun r2 M2 h => ?_)
  refine hb_istore_n (q := 48) (lv' := [some (.ref 42), some (.int v1), some (.int r2)]) hc dd_X9_reads_47 rfl (Nat.le_of_ble_eq_true rfl) rfl ?_
  exact hb_weak (lvs (lvn (lvs lvz))) (h p l e s m args below meth c G hc)
theorem w_X9_fault {d : Nat} {M : Mm}  {K : Int32 → Mm → Prop}  (h : ACi d X9_reads [.ref 42, .int 0] M (fun r1 M1 => (r1 = 0 → (K (M1.1 42 18) M1)) ∧ (¬ r1 = 0 → (K (-1) M1)))) : ACi (d + 1) X9_fault [.ref 42] M K := by
  refine AC.ofW (lv := [some (.ref 42)]) pn_X9 (Nat.le_of_ble_eq_true rfl) (show lvLe _ [some (.ref 42)] from (lvs lvz)) ?_
  intro p l e s m args below meth c G hc
  refine hb_aload_n (q := 1) hc dd_X9_fault_0 rfl rfl ?_
  refine hb_iconst (q := 2) (v := 0) hc dd_X9_fault_1 rfl ic_0 ?_
  refine hb_callVi (q := 5) (vs := [.int 0]) (st := []) hc mv_X9_176 h sh42 sl42 rfl rfl rfl (Nat.le_of_ble_eq_true rfl) ⟨Nat.le_refl _, Nat.le_refl _⟩ ⟨Nat.le_refl _, Nat.le_refl _⟩ dd_X9_fault_2 rfl (fun r1 M1 h => ?_)
  refine hb_if_eq (q := 8) (tg := 12) hc dd_X9_fault_5 rfl (by decide) (fun z => ?_) (fun z => ?_)
  · replace h := h.1 z
    refine hb_aload_n (q := 13) hc dd_X9_fault_12 rfl rfl ?_
    refine hb_getI (q := 16) (v := M1.1 42 18) hc fl_X9_122 sh42 sl42 rfl rfl dd_X9_fault_13 rfl ?_
    exact hb_iret hc rfl dd_X9_fault_16 h
  · replace h := h.2 z
    refine hb_iconst (q := 9) (v := (-1)) hc dd_X9_fault_8 rfl ic_m1 ?_
    refine hb_goto (tg := 16) hc dd_X9_fault_9 (by decide) ?_
    exact hb_iret hc rfl dd_X9_fault_16 h
def lp_X9_office_64 (d : Nat) (M : Mm) (v1 : Int32) (K : Int32 → Mm → Prop) : Prop := AW (d + 1) X9_office M 64 [some (.ref 42), some (.int v1)] [] (QI K)
theorem z_X9_office_64 {d : Nat} {M : Mm} {v1 : Int32} {K : Int32 → Mm → Prop}  (h : (3 ≤ v1 → (K (M.1 42 23) M)) ∧ (¬ 3 ≤ v1 → (vp_in v1 3 ∧ (lp_X9_office_64 d (wI M 50 v1.toNatClampNeg (-1)) (v1 + 1) K)))) : lp_X9_office_64 d M v1 K := by
  intro p l e s m args below meth c G hc
  refine hb_iload_n (q := 65) hc dd_X9_office_64 rfl rfl ?_
  refine hb_iconst (q := 66) (v := 3) hc dd_X9_office_65 rfl ic_3 ?_
  refine hb_icmp_ge (q := 69) (tg := 82) hc dd_X9_office_66 rfl (by decide) (fun z => ?_) (fun z => ?_)
  · replace h := h.1 z
    refine hb_aload_n (q := 83) hc dd_X9_office_82 rfl rfl ?_
    refine hb_getI (q := 86) (v := M.1 42 23) hc fl_X9_170 sh42 sl42 rfl rfl dd_X9_office_83 rfl ?_
    exact hb_iret hc rfl dd_X9_office_86 h
  · replace h := h.2 z
    refine hb_aload_n (q := 70) hc dd_X9_office_69 rfl rfl ?_
    refine hb_getR (q := 73) hc fl_X9_32 sh42 sl42 rfl dd_X9_office_70 rfl ?_
    refine hb_iload_n (q := 74) hc dd_X9_office_73 rfl rfl ?_
    refine hb_iconst (q := 75) (v := (-1)) hc dd_X9_office_74 rfl ic_m1 ?_
    obtain ⟨hi, h⟩ := h
    refine hb_iast (q := 76) hc sh50 sl50 hi rfl dd_X9_office_75 rfl ?_
    refine hb_iinc (q := 79) (v := v1 + 1) (lv' := [some (.ref 42), some (.int (v1 + 1))]) hc dd_X9_office_76 rfl rfl rfl (Nat.le_of_ble_eq_true rfl) rfl ?_
    refine hb_goto (tg := 64) hc dd_X9_office_79 (by decide) ?_
    exact hb_weak (lvs (lvs lvz)) (h p l e s m args below meth c G hc)
theorem w_X9_office {d : Nat} {M : Mm}  {K : Int32 → Mm → Prop}  (h : ACi d X9_reads [.ref 42, .int 0] M (fun r1 M1 => (¬ r1 = 0 → (ACv d X9_copyRow [.ref 42, .int 132, .int 0] M1 (fun M2 => ACi d X9_reads [.ref 42, .int 1] M2 (fun r3 M3 => ACv d X9_copyRow [.ref 42, .int 0, .int 132] M3 (fun M4 => lp_X9_office_64 d (wI (wI (wI (wI (wI M4 42 10 0) 42 7 0) 45 0 0) 45 1 0) 42 11 0) 0 K))))) ∧ (r1 = 0 → (K (-4) M1)))) : ACi (d + 1) X9_office [.ref 42] M K := by
  refine AC.ofW (lv := [some (.ref 42), none]) pn_X9 (Nat.le_of_ble_eq_true rfl) (show lvLe _ [some (.ref 42)] from (lvs (lve lvz))) ?_
  intro p l e s m args below meth c G hc
  refine hb_aload_n (q := 1) hc dd_X9_office_0 rfl rfl ?_
  refine hb_iconst (q := 2) (v := 0) hc dd_X9_office_1 rfl ic_0 ?_
  refine hb_callVi (q := 5) (vs := [.int 0]) (st := []) hc mv_X9_176 h sh42 sl42 rfl rfl rfl (Nat.le_of_ble_eq_true rfl) ⟨Nat.le_refl _, Nat.le_refl _⟩ ⟨Nat.le_refl _, Nat.le_refl _⟩ dd_X9_office_2 rfl (fun r1 M1 h => ?_)
  refine hb_if_ne (q := 8) (tg := 11) hc dd_X9_office_5 rfl (by decide) (fun z => ?_) (fun z => ?_)
  · replace h := h.1 z
    refine hb_aload_n (q := 12) hc dd_X9_office_11 rfl rfl ?_
    refine hb_sipush (q := 15) (v := 132) hc dd_X9_office_12 rfl sp_132 ?_
    refine hb_iconst (q := 16) (v := 0) hc dd_X9_office_15 rfl ic_0 ?_
    refine hb_callVv (q := 19) (vs := [.int 132, .int 0]) (st := []) hc mv_X9_82 h sh42 sl42 rfl rfl rfl (Nat.le_of_ble_eq_true rfl) ⟨Nat.le_refl _, Nat.le_refl _⟩ ⟨Nat.le_refl _, Nat.le_refl _⟩ dd_X9_office_16 rfl (fun M2 h => ?_)
    refine hb_aload_n (q := 20) hc dd_X9_office_19 rfl rfl ?_
    refine hb_iconst (q := 21) (v := 1) hc dd_X9_office_20 rfl ic_1 ?_
    refine hb_callVi (q := 24) (vs := [.int 1]) (st := []) hc mv_X9_176 h sh42 sl42 rfl rfl rfl (Nat.le_of_ble_eq_true rfl) ⟨Nat.le_refl _, Nat.le_refl _⟩ ⟨Nat.le_refl _, Nat.le_refl _⟩ dd_X9_office_21 rfl (fun r3 M3 h => ?_)
    refine hb_pop (q := 25) hc dd_X9_office_24 rfl rfl ?_
    refine hb_aload_n (q := 26) hc dd_X9_office_25 rfl rfl ?_
    refine hb_iconst (q := 27) (v := 0) hc dd_X9_office_26 rfl ic_0 ?_
    refine hb_sipush (q := 30) (v := 132) hc dd_X9_office_27 rfl sp_132 ?_
    refine hb_callVv (q := 33) (vs := [.int 0, .int 132]) (st := []) hc mv_X9_82 h sh42 sl42 rfl rfl rfl (Nat.le_of_ble_eq_true rfl) ⟨Nat.le_refl _, Nat.le_refl _⟩ ⟨Nat.le_refl _, Nat.le_refl _⟩ dd_X9_office_30 rfl (fun M4 h => ?_)
    refine hb_aload_n (q := 34) hc dd_X9_office_33 rfl rfl ?_
    refine hb_iconst (q := 35) (v := 0) hc dd_X9_office_34 rfl ic_0 ?_
    refine hb_putI (q := 38) hc fl_X9_108 sh42 sl42 rfl dd_X9_office_35 rfl ?_
    refine hb_aload_n (q := 39) hc dd_X9_office_38 rfl rfl ?_
    refine hb_iconst (q := 40) (v := 0) hc dd_X9_office_39 rfl ic_0 ?_
    refine hb_putI (q := 43) hc fl_X9_180 sh42 sl42 rfl dd_X9_office_40 rfl ?_
    refine hb_aload_n (q := 44) hc dd_X9_office_43 rfl rfl ?_
    refine hb_getR (q := 47) hc fl_X9_16 sh42 sl42 rfl dd_X9_office_44 rfl ?_
    refine hb_iconst (q := 48) (v := 0) hc dd_X9_office_47 rfl ic_0 ?_
    refine hb_iconst (q := 49) (v := 0) hc dd_X9_office_48 rfl ic_0 ?_
    refine hb_zast (q := 50) (k := 0) hc sh45 sl45 vl_0_2 (by decide) cl_0 dd_X9_office_49 rfl ?_
    refine hb_aload_n (q := 51) hc dd_X9_office_50 rfl rfl ?_
    refine hb_getR (q := 54) hc fl_X9_16 sh42 sl42 rfl dd_X9_office_51 rfl ?_
    refine hb_iconst (q := 55) (v := 1) hc dd_X9_office_54 rfl ic_1 ?_
    refine hb_iconst (q := 56) (v := 0) hc dd_X9_office_55 rfl ic_0 ?_
    refine hb_zast (q := 57) (k := 1) hc sh45 sl45 vl_1_2 (by decide) cl_1 dd_X9_office_56 rfl ?_
    refine hb_aload_n (q := 58) hc dd_X9_office_57 rfl rfl ?_
    refine hb_iconst (q := 59) (v := 0) hc dd_X9_office_58 rfl ic_0 ?_
    refine hb_putZ (q := 62) hc fl_X9_183 sh42 sl42 rfl (by decide) dd_X9_office_59 rfl ?_
    refine hb_iconst (q := 63) (v := 0) hc dd_X9_office_62 rfl ic_0 ?_
    refine hb_istore_n (q := 64) (lv' := [some (.ref 42), some (.int 0)]) hc dd_X9_office_63 rfl (Nat.le_of_ble_eq_true rfl) rfl ?_
    exact hb_weak (lvs (lvs lvz)) (h p l e s m args below meth c G hc)
  · replace h := h.2 z
    refine hb_bipush (q := 10) (v := (-4)) hc dd_X9_office_8 rfl bp_m4 ?_
    exact hb_iret hc rfl dd_X9_office_10 h
theorem w_X9_isRhythm {d : Nat} {M : Mm} {v1 : Int32} {K : Int32 → Mm → Prop}  (h : ACi d X9_in [.long v1.toInt64, .long 0, .long (((M.1 42 4) - 1).toInt64)] M (fun r1 M1 => (r1 = 0 ∨ r1 = 1) ∧ K r1 M1)) : ACi (d + 1) X9_isRhythm [.ref 42, .int v1] M K := by
  refine AC.ofW (lv := [some (.ref 42), some (.int v1)]) pn_X9 (Nat.le_of_ble_eq_true rfl) (show lvLe _ [some (.ref 42), some (.int v1)] from (lvs (lvs lvz))) ?_
  intro p l e s m args below meth c G hc
  refine hb_iload_n (q := 1) hc dd_X9_isRhythm_0 rfl rfl ?_
  refine hb_i2l (q := 2) hc dd_X9_isRhythm_1 rfl ?_
  refine hb_lconst (q := 3) (v := 0) hc dd_X9_isRhythm_2 rfl lc_0 ?_
  refine hb_aload_n (q := 4) hc dd_X9_isRhythm_3 rfl rfl ?_
  refine hb_getI (q := 7) (v := M.1 42 4) hc fl_X9_96 sh42 sl42 rfl rfl dd_X9_isRhythm_4 rfl ?_
  refine hb_iconst (q := 8) (v := 1) hc dd_X9_isRhythm_7 rfl ic_1 ?_
  refine hb_isub (q := 9) hc dd_X9_isRhythm_8 rfl ?_
  refine hb_i2l (q := 10) hc dd_X9_isRhythm_9 rfl ?_
  refine hb_callSi (q := 13) (vs := [.long v1.toInt64, .long 0, .long (((M.1 42 4) - 1).toInt64)]) (st := []) hc mv_X9_104 h rfl rfl (Nat.le_of_ble_eq_true rfl) ⟨Nat.le_refl _, Nat.le_refl _⟩ ⟨Nat.le_refl _, Nat.le_refl _⟩ dd_X9_isRhythm_10 rfl (fun r1 M1 h => ?_)
  exact hb_zret hc rfl h.1 dd_X9_isRhythm_13 h.2
theorem w_X9_isLight {d : Nat} {M : Mm} {v1 : Int32} {K : Int32 → Mm → Prop}  (h : ACi d X9_in [.long v1.toInt64, .long 0, .long (((M.1 42 5) - 1).toInt64)] M (fun r1 M1 => (r1 = 0 ∨ r1 = 1) ∧ K r1 M1)) : ACi (d + 1) X9_isLight [.ref 42, .int v1] M K := by
  refine AC.ofW (lv := [some (.ref 42), some (.int v1)]) pn_X9 (Nat.le_of_ble_eq_true rfl) (show lvLe _ [some (.ref 42), some (.int v1)] from (lvs (lvs lvz))) ?_
  intro p l e s m args below meth c G hc
  refine hb_iload_n (q := 1) hc dd_X9_isLight_0 rfl rfl ?_
  refine hb_i2l (q := 2) hc dd_X9_isLight_1 rfl ?_
  refine hb_lconst (q := 3) (v := 0) hc dd_X9_isLight_2 rfl lc_0 ?_
  refine hb_aload_n (q := 4) hc dd_X9_isLight_3 rfl rfl ?_
  refine hb_getI (q := 7) (v := M.1 42 5) hc fl_X9_99 sh42 sl42 rfl rfl dd_X9_isLight_4 rfl ?_
  refine hb_iconst (q := 8) (v := 1) hc dd_X9_isLight_7 rfl ic_1 ?_
  refine hb_isub (q := 9) hc dd_X9_isLight_8 rfl ?_
  refine hb_i2l (q := 10) hc dd_X9_isLight_9 rfl ?_
  refine hb_callSi (q := 13) (vs := [.long v1.toInt64, .long 0, .long (((M.1 42 5) - 1).toInt64)]) (st := []) hc mv_X9_104 h rfl rfl (Nat.le_of_ble_eq_true rfl) ⟨Nat.le_refl _, Nat.le_refl _⟩ ⟨Nat.le_refl _, Nat.le_refl _⟩ dd_X9_isLight_10 rfl (fun r1 M1 h => ?_)
  exact hb_zret hc rfl h.1 dd_X9_isLight_13 h.2
theorem w_X9_beatOf {d : Nat} {M : Mm} {v1 : Int32} {v2 : Int32} {K : Int32 → Mm → Prop}  (h : vp_in v1 8 ∧ (¬ (M.1 42 1) = 0 ∧ (K (((M.1 44 v1.toNatClampNeg) >>> ((((M.1 42 1) - 1) - (v2 - v2 / (M.1 42 1) * (M.1 42 1))) &&& 31)) &&& 1) M))) : ACi (d + 1) X9_beatOf [.ref 42, .int v1, .int v2] M K := by
  refine AC.ofW (lv := [some (.ref 42), some (.int v1), some (.int v2)]) pn_X9 (Nat.le_of_ble_eq_true rfl) (show lvLe _ [some (.ref 42), some (.int v1), some (.int v2)] from (lvs (lvs (lvs lvz)))) ?_
  intro p l e s m args below meth c G hc
  refine hb_aload_n (q := 1) hc dd_X9_beatOf_0 rfl rfl ?_
  refine hb_getR (q := 4) hc fl_X9_13 sh42 sl42 rfl dd_X9_beatOf_1 rfl ?_
  refine hb_iload_n (q := 5) hc dd_X9_beatOf_4 rfl rfl ?_
  obtain ⟨hi, h⟩ := h
  refine hb_iald (q := 6) (v := M.1 44 v1.toNatClampNeg) hc sh44 sl44 hi rfl rfl dd_X9_beatOf_5 rfl ?_
  refine hb_aload_n (q := 7) hc dd_X9_beatOf_6 rfl rfl ?_
  refine hb_getI (q := 10) (v := M.1 42 1) hc fl_X9_86 sh42 sl42 rfl rfl dd_X9_beatOf_7 rfl ?_
  refine hb_iconst (q := 11) (v := 1) hc dd_X9_beatOf_10 rfl ic_1 ?_
  refine hb_isub (q := 12) hc dd_X9_beatOf_11 rfl ?_
  refine hb_iload_n (q := 13) hc dd_X9_beatOf_12 rfl rfl ?_
  refine hb_aload_n (q := 14) hc dd_X9_beatOf_13 rfl rfl ?_
  refine hb_getI (q := 17) (v := M.1 42 1) hc fl_X9_86 sh42 sl42 rfl rfl dd_X9_beatOf_14 rfl ?_
  obtain ⟨hn, h⟩ := h
  refine hb_irem (q := 18) hc dd_X9_beatOf_17 rfl hn ?_
  refine hb_isub (q := 19) hc dd_X9_beatOf_18 rfl ?_
  refine hb_ishr (q := 20) hc dd_X9_beatOf_19 rfl ?_
  refine hb_iconst (q := 21) (v := 1) hc dd_X9_beatOf_20 rfl ic_1 ?_
  refine hb_iand (q := 22) hc dd_X9_beatOf_21 rfl ?_
  exact hb_iret hc rfl dd_X9_beatOf_22 h
def lp_X9_rowOf_6 (d : Nat) (M : Mm) (v1 : Int32) (v2 : Int32) (v3 : Int32) (v4 : Int32) (v5 : Int32) (K : Int32 → Mm → Prop) : Prop := AW (d + 1) X9_rowOf M 6 [some (.ref 42), some (.int v1), some (.int v2), some (.int v3), some (.int v4), some (.int v5)] [] (QI K)
theorem z_X9_rowOf_6 {d : Nat} {M : Mm} {v1 : Int32} {v2 : Int32} {v3 : Int32} {v4 : Int32} {v5 : Int32} {K : Int32 → Mm → Prop}  (h : (v3 ≤ v5 → (K v4 M)) ∧ (¬ v3 ≤ v5 → (ACi d X9_beatOf [.ref 42, .int v1, .int (v2 + v5)] M (fun r1 M1 => lp_X9_rowOf_6 d M1 v1 v2 v3 ((2 * v4) + r1) (v5 + 1) K)))) : lp_X9_rowOf_6 d M v1 v2 v3 v4 v5 K := by
  intro p l e s m args below meth c G hc
  refine hb_iload (q := 8) hc dd_X9_rowOf_6 rfl rfl ?_
  refine hb_iload_n (q := 9) hc dd_X9_rowOf_8 rfl rfl ?_
  refine hb_icmp_ge (q := 12) (tg := 34) hc dd_X9_rowOf_9 rfl (by decide) (fun z => ?_) (fun z => ?_)
  · replace h := h.1 z
    refine hb_iload (q := 36) hc dd_X9_rowOf_34 rfl rfl ?_
    exact hb_iret hc rfl dd_X9_rowOf_36 h
  · replace h := h.2 z
    refine hb_iconst (q := 13) (v := 2) hc dd_X9_rowOf_12 rfl ic_2 ?_
    refine hb_iload (q := 15) hc dd_X9_rowOf_13 rfl rfl ?_
    refine hb_imul (q := 16) hc dd_X9_rowOf_15 rfl ?_
    refine hb_aload_n (q := 17) hc dd_X9_rowOf_16 rfl rfl ?_
    refine hb_iload_n (q := 18) hc dd_X9_rowOf_17 rfl rfl ?_
    refine hb_iload_n (q := 19) hc dd_X9_rowOf_18 rfl rfl ?_
    refine hb_iload (q := 21) hc dd_X9_rowOf_19 rfl rfl ?_
    refine hb_iadd (q := 22) hc dd_X9_rowOf_21 rfl ?_
    refine hb_callVi (q := 25) (vs := [.int v1, .int (v2 + v5)]) (st := [.int (2 * v4)]) hc mv_X9_186 h sh42 sl42 rfl rfl rfl (Nat.le_of_ble_eq_true rfl) ⟨Nat.le_refl _, Nat.le_refl _⟩ ⟨Nat.le_refl _, Nat.le_refl _⟩ dd_X9_rowOf_22 rfl (fun r1 M1 h => ?_)
    refine hb_iadd (q := 26) hc dd_X9_rowOf_25 rfl ?_
    refine hb_istore (q := 28) (lv' := [some (.ref 42), some (.int v1), some (.int v2), some (.int v3), some (.int ((2 * v4) + r1)), some (.int v5)]) hc dd_X9_rowOf_26 rfl (Nat.le_of_ble_eq_true rfl) rfl ?_
    refine hb_iinc (q := 31) (v := v5 + 1) (lv' := [some (.ref 42), some (.int v1), some (.int v2), some (.int v3), some (.int ((2 * v4) + r1)), some (.int (v5 + 1))]) hc dd_X9_rowOf_28 rfl rfl rfl (Nat.le_of_ble_eq_true rfl) rfl ?_
    refine hb_goto (tg := 6) hc dd_X9_rowOf_31 (by decide) ?_
    exact hb_weak (lvs (lvs (lvs (lvs (lvs (lvs lvz)))))) (h p l e s m args below meth c G hc)
theorem w_X9_rowOf {d : Nat} {M : Mm} {v1 : Int32} {v2 : Int32} {v3 : Int32} {K : Int32 → Mm → Prop}  (h : lp_X9_rowOf_6 d M v1 v2 v3 0 0 K) : ACi (d + 1) X9_rowOf [.ref 42, .int v1, .int v2, .int v3] M K := by
  refine AC.ofW (lv := [some (.ref 42), some (.int v1), some (.int v2), some (.int v3), none, none]) pn_X9 (Nat.le_of_ble_eq_true rfl) (show lvLe _ [some (.ref 42), some (.int v1), some (.int v2), some (.int v3)] from (lvs (lvs (lvs (lvs (lve (lve lvz))))))) ?_
  intro p l e s m args below meth c G hc
  refine hb_iconst (q := 1) (v := 0) hc dd_X9_rowOf_0 rfl ic_0 ?_
  refine hb_istore (q := 3) (lv' := [some (.ref 42), some (.int v1), some (.int v2), some (.int v3), some (.int 0), none]) hc dd_X9_rowOf_1 rfl (Nat.le_of_ble_eq_true rfl) rfl ?_
  refine hb_iconst (q := 4) (v := 0) hc dd_X9_rowOf_3 rfl ic_0 ?_
  refine hb_istore (q := 6) (lv' := [some (.ref 42), some (.int v1), some (.int v2), some (.int v3), some (.int 0), some (.int 0)]) hc dd_X9_rowOf_4 rfl (Nat.le_of_ble_eq_true rfl) rfl ?_
  exact hb_weak (lvs (lvs (lvs (lvs (lvs (lvs lvz)))))) (h p l e s m args below meth c G hc)
theorem w_X9_flashes {d : Nat} {M : Mm} {v1 : Int32} {K : Int32 → Mm → Prop}  (h : vp_in v1 8 ∧ (ACi d X9_ones [.int (M.1 44 v1.toNatClampNeg)] M (fun r1 M1 => K r1 M1))) : ACi (d + 1) X9_flashes [.ref 42, .int v1] M K := by
  refine AC.ofW (lv := [some (.ref 42), some (.int v1)]) pn_X9 (Nat.le_of_ble_eq_true rfl) (show lvLe _ [some (.ref 42), some (.int v1)] from (lvs (lvs lvz))) ?_
  intro p l e s m args below meth c G hc
  refine hb_aload_n (q := 1) hc dd_X9_flashes_0 rfl rfl ?_
  refine hb_getR (q := 4) hc fl_X9_13 sh42 sl42 rfl dd_X9_flashes_1 rfl ?_
  refine hb_iload_n (q := 5) hc dd_X9_flashes_4 rfl rfl ?_
  obtain ⟨hi, h⟩ := h
  refine hb_iald (q := 6) (v := M.1 44 v1.toNatClampNeg) hc sh44 sl44 hi rfl rfl dd_X9_flashes_5 rfl ?_
  refine hb_callSi (q := 9) (vs := [.int (M.1 44 v1.toNatClampNeg)]) (st := []) hc mv_X9_190 h rfl rfl (Nat.le_of_ble_eq_true rfl) ⟨Nat.le_refl _, Nat.le_refl _⟩ ⟨Nat.le_refl _, Nat.le_refl _⟩ dd_X9_flashes_6 rfl (fun r1 M1 h => ?_)
  exact hb_iret hc rfl dd_X9_flashes_9 h
def lp_X9_leastTurn_4 (d : Nat) (M : Mm) (v1 : Int32) (v2 : Int32) (v3 : Int32) (K : Int32 → Mm → Prop) : Prop := AW (d + 1) X9_leastTurn M 4 [some (.ref 42), some (.int v1), some (.int v2), some (.int v3)] [] (QI K)
theorem z_X9_leastTurn_4 {d : Nat} {M : Mm} {v1 : Int32} {v2 : Int32} {v3 : Int32} {K : Int32 → Mm → Prop}  (h : ((M.1 42 1) ≤ v3 → (K v2 M)) ∧ (¬ (M.1 42 1) ≤ v3 → (ACi d X9_rowOf [.ref 42, .int v1, .int v3, .int (M.1 42 1)] M (fun r1 M1 => ACi d X9_rowOf [.ref 42, .int v1, .int v2, .int (M1.1 42 1)] M1 (fun r2 M2 => (r2 ≤ r1 → (lp_X9_leastTurn_4 d M2 v1 v2 (v3 + 1) K)) ∧ (¬ r2 ≤ r1 → (lp_X9_leastTurn_4 d M2 v1 v3 (v3 + 1) K))))))) : lp_X9_leastTurn_4 d M v1 v2 v3 K := by
  intro p l e s m args below meth c G hc
  refine hb_iload_n (q := 5) hc dd_X9_leastTurn_4 rfl rfl ?_
  refine hb_aload_n (q := 6) hc dd_X9_leastTurn_5 rfl rfl ?_
  refine hb_getI (q := 9) (v := M.1 42 1) hc fl_X9_86 sh42 sl42 rfl rfl dd_X9_leastTurn_6 rfl ?_
  refine hb_icmp_ge (q := 12) (tg := 47) hc dd_X9_leastTurn_9 rfl (by decide) (fun z => ?_) (fun z => ?_)
  · replace h := h.1 z
    refine hb_iload_n (q := 48) hc dd_X9_leastTurn_47 rfl rfl ?_
    exact hb_iret hc rfl dd_X9_leastTurn_48 h
  · replace h := h.2 z
    refine hb_aload_n (q := 13) hc dd_X9_leastTurn_12 rfl rfl ?_
    refine hb_iload_n (q := 14) hc dd_X9_leastTurn_13 rfl rfl ?_
    refine hb_iload_n (q := 15) hc dd_X9_leastTurn_14 rfl rfl ?_
    refine hb_aload_n (q := 16) hc dd_X9_leastTurn_15 rfl rfl ?_
    refine hb_getI (q := 19) (v := M.1 42 1) hc fl_X9_86 sh42 sl42 rfl rfl dd_X9_leastTurn_16 rfl ?_
    refine hb_callVi (q := 22) (vs := [.int v1, .int v3, .int (M.1 42 1)]) (st := []) hc mv_X9_194 h sh42 sl42 rfl rfl rfl (Nat.le_of_ble_eq_true rfl) ⟨Nat.le_refl _, Nat.le_refl _⟩ ⟨Nat.le_refl _, Nat.le_refl _⟩ dd_X9_leastTurn_19 rfl (fun r1 M1 h => ?_)
    refine hb_aload_n (q := 23) hc dd_X9_leastTurn_22 rfl rfl ?_
    refine hb_iload_n (q := 24) hc dd_X9_leastTurn_23 rfl rfl ?_
    refine hb_iload_n (q := 25) hc dd_X9_leastTurn_24 rfl rfl ?_
    refine hb_aload_n (q := 26) hc dd_X9_leastTurn_25 rfl rfl ?_
    refine hb_getI (q := 29) (v := M1.1 42 1) hc fl_X9_86 sh42 sl42 rfl rfl dd_X9_leastTurn_26 rfl ?_
    refine hb_callVi (q := 32) (vs := [.int v1, .int v2, .int (M1.1 42 1)]) (st := [.int r1]) hc mv_X9_194 h sh42 sl42 rfl rfl rfl (Nat.le_of_ble_eq_true rfl) ⟨Nat.le_refl _, Nat.le_refl _⟩ ⟨Nat.le_refl _, Nat.le_refl _⟩ dd_X9_leastTurn_29 rfl (fun r2 M2 h => ?_)
    refine hb_icmp_ge (q := 35) (tg := 39) hc dd_X9_leastTurn_32 rfl (by decide) (fun z => ?_) (fun z => ?_)
    · replace h := h.1 z
      refine hb_iload_n (q := 40) hc dd_X9_leastTurn_39 rfl rfl ?_
      refine hb_istore_n (q := 41) (lv' := [some (.ref 42), some (.int v1), some (.int v2), some (.int v3)]) hc dd_X9_leastTurn_40 rfl (Nat.le_of_ble_eq_true rfl) rfl ?_
      refine hb_iinc (q := 44) (v := v3 + 1) (lv' := [some (.ref 42), some (.int v1), some (.int v2), some (.int (v3 + 1))]) hc dd_X9_leastTurn_41 rfl rfl rfl (Nat.le_of_ble_eq_true rfl) rfl ?_
      refine hb_goto (tg := 4) hc dd_X9_leastTurn_44 (by decide) ?_
      exact hb_weak (lvs (lvs (lvs (lvs lvz)))) (h p l e s m args below meth c G hc)
    · replace h := h.2 z
      refine hb_iload_n (q := 36) hc dd_X9_leastTurn_35 rfl rfl ?_
      refine hb_goto (tg := 40) hc dd_X9_leastTurn_36 (by decide) ?_
      refine hb_istore_n (q := 41) (lv' := [some (.ref 42), some (.int v1), some (.int v3), some (.int v3)]) hc dd_X9_leastTurn_40 rfl (Nat.le_of_ble_eq_true rfl) rfl ?_
      refine hb_iinc (q := 44) (v := v3 + 1) (lv' := [some (.ref 42), some (.int v1), some (.int v3), some (.int (v3 + 1))]) hc dd_X9_leastTurn_41 rfl rfl rfl (Nat.le_of_ble_eq_true rfl) rfl ?_
      refine hb_goto (tg := 4) hc dd_X9_leastTurn_44 (by decide) ?_
      exact hb_weak (lvs (lvs (lvs (lvs lvz)))) (h p l e s m args below meth c G hc)
theorem w_X9_leastTurn {d : Nat} {M : Mm} {v1 : Int32} {K : Int32 → Mm → Prop}  (h : lp_X9_leastTurn_4 d M v1 0 1 K) : ACi (d + 1) X9_leastTurn [.ref 42, .int v1] M K := by
  refine AC.ofW (lv := [some (.ref 42), some (.int v1), none, none]) pn_X9 (Nat.le_of_ble_eq_true rfl) (show lvLe _ [some (.ref 42), some (.int v1)] from (lvs (lvs (lve (lve lvz))))) ?_
  intro p l e s m args below meth c G hc
  refine hb_iconst (q := 1) (v := 0) hc dd_X9_leastTurn_0 rfl ic_0 ?_
  refine hb_istore_n (q := 2) (lv' := [some (.ref 42), some (.int v1), some (.int 0), none]) hc dd_X9_leastTurn_1 rfl (Nat.le_of_ble_eq_true rfl) rfl ?_
  refine hb_iconst (q := 3) (v := 1) hc dd_X9_leastTurn_2 rfl ic_1 ?_
  refine hb_istore_n (q := 4) (lv' := [some (.ref 42), some (.int v1), some (.int 0), some (.int 1)]) hc dd_X9_leastTurn_3 rfl (Nat.le_of_ble_eq_true rfl) rfl ?_
  exact hb_weak (lvs (lvs (lvs (lvs lvz)))) (h p l e s m args below meth c G hc)
