/-! WALKS, by program (wip/whole/gen6.py). -/
theorem w_X8_write {d : Nat} {M : Mm} {v1 : Int32} {K : Int32 → Mm → Prop}  (h : (v1 < 0 → (K (-3) M)) ∧ (¬ v1 < 0 → ((v1 ≤ 255 → (((M.1 1 0) < 200 → (ACv d X6_append [.ref 1, .int v1] M (fun M1 => K (M1.1 1 0) M1))) ∧ (¬ (M.1 1 0) < 200 → (K (-5) M)))) ∧ (¬ v1 ≤ 255 → (K (-3) M))))) : ACi (d + 1) X8_write [.ref 0, .int v1] M K := by
  refine AC.ofW (lv := [some (.ref 0), some (.int v1)]) pn_X8 (Nat.le_of_ble_eq_true rfl) (show lvLe _ [some (.ref 0), some (.int v1)] from (lvs (lvs lvz))) ?_
  intro p l e s m args below meth c G hc
  refine hb_iload_n (q := 1) hc dd_X8_write_0 rfl rfl ?_
  refine hb_if_lt (q := 4) (tg := 11) hc dd_X8_write_1 rfl (by decide) (fun z => ?_) (fun z => ?_)
  · replace h := h.1 z
    refine hb_bipush (q := 13) (v := (-3)) hc dd_X8_write_11 rfl bp_m3 ?_
    exact hb_iret hc rfl dd_X8_write_13 h
  · replace h := h.2 z
    refine hb_iload_n (q := 5) hc dd_X8_write_4 rfl rfl ?_
    refine hb_sipush (q := 8) (v := 255) hc dd_X8_write_5 rfl sp_255 ?_
    refine hb_icmp_le (q := 11) (tg := 14) hc dd_X8_write_8 rfl (by decide) (fun z => ?_) (fun z => ?_)
    · replace h := h.1 z
      refine hb_aload_n (q := 15) hc dd_X8_write_14 rfl rfl ?_
      refine hb_getR (q := 18) hc fl_X8_12 sh0 sl0 rfl dd_X8_write_15 rfl ?_
      refine hb_getI (q := 21) (v := M.1 1 0) hc fl_X8_74 sh1 sl1 rfl rfl dd_X8_write_18 rfl ?_
      refine hb_sipush (q := 24) (v := 200) hc dd_X8_write_21 rfl sp_200 ?_
      refine hb_icmp_lt (q := 27) (tg := 30) hc dd_X8_write_24 rfl (by decide) (fun z => ?_) (fun z => ?_)
      · replace h := h.1 z
        refine hb_aload_n (q := 31) hc dd_X8_write_30 rfl rfl ?_
        refine hb_getR (q := 34) hc fl_X8_12 sh0 sl0 rfl dd_X8_write_31 rfl ?_
        refine hb_iload_n (q := 35) hc dd_X8_write_34 rfl rfl ?_
        refine hb_callVv (q := 38) (vs := [.int v1]) (st := []) hc mv_X8_78 h sh1 sl1 rfl rfl rfl (Nat.le_of_ble_eq_true rfl) ⟨Nat.le_refl _, Nat.le_refl _⟩ ⟨Nat.le_refl _, Nat.le_refl _⟩ dd_X8_write_35 rfl (fun M1 h => ?_)
        refine hb_aload_n (q := 39) hc dd_X8_write_38 rfl rfl ?_
        refine hb_getR (q := 42) hc fl_X8_12 sh0 sl0 rfl dd_X8_write_39 rfl ?_
        refine hb_getI (q := 45) (v := M1.1 1 0) hc fl_X8_74 sh1 sl1 rfl rfl dd_X8_write_42 rfl ?_
        exact hb_iret hc rfl dd_X8_write_45 h
      · replace h := h.2 z
        refine hb_bipush (q := 29) (v := (-5)) hc dd_X8_write_27 rfl bp_m5 ?_
        exact hb_iret hc rfl dd_X8_write_29 h
    · replace h := h.2 z
      refine hb_bipush (q := 13) (v := (-3)) hc dd_X8_write_11 rfl bp_m3 ?_
      exact hb_iret hc rfl dd_X8_write_13 h
theorem w_X8_erase {d : Nat} {M : Mm}  {K : Int32 → Mm → Prop}  (h : K (M.1 1 0) (wI M 1 0 0)) : ACi (d + 1) X8_erase [.ref 0] M K := by
  refine AC.ofW (lv := [some (.ref 0), none]) pn_X8 (Nat.le_of_ble_eq_true rfl) (show lvLe _ [some (.ref 0)] from (lvs (lve lvz))) ?_
  intro p l e s m args below meth c G hc
  refine hb_aload_n (q := 1) hc dd_X8_erase_0 rfl rfl ?_
  refine hb_getR (q := 4) hc fl_X8_12 sh0 sl0 rfl dd_X8_erase_1 rfl ?_
  refine hb_getI (q := 7) (v := M.1 1 0) hc fl_X8_74 sh1 sl1 rfl rfl dd_X8_erase_4 rfl ?_
  refine hb_istore_n (q := 8) (lv' := [some (.ref 0), some (.int (M.1 1 0))]) hc dd_X8_erase_7 rfl (Nat.le_of_ble_eq_true rfl) rfl ?_
  refine hb_aload_n (q := 9) hc dd_X8_erase_8 rfl rfl ?_
  refine hb_getR (q := 12) hc fl_X8_12 sh0 sl0 rfl dd_X8_erase_9 rfl ?_
  refine hb_iconst (q := 13) (v := 0) hc dd_X8_erase_12 rfl ic_0 ?_
  refine hb_putI (q := 16) hc fl_X8_74 sh1 sl1 rfl dd_X8_erase_13 rfl ?_
  refine hb_iload_n (q := 17) hc dd_X8_erase_16 rfl rfl ?_
  exact hb_iret hc rfl dd_X8_erase_17 h
theorem w_X8_fault {d : Nat} {M : Mm}  {K : Int32 → Mm → Prop}  (h : ACv d X0_become [.ref 8, .ref 3] M (fun M1 => ACi d X6_readInto [.ref 1, .ref 8] M1 (fun r2 M2 => K r2 M2))) : ACi (d + 1) X8_fault [.ref 0] M K := by
  refine AC.ofW (lv := [some (.ref 0)]) pn_X8 (Nat.le_of_ble_eq_true rfl) (show lvLe _ [some (.ref 0)] from (lvs lvz)) ?_
  intro p l e s m args below meth c G hc
  refine hb_aload_n (q := 1) hc dd_X8_fault_0 rfl rfl ?_
  refine hb_getR (q := 4) hc fl_X8_23 sh0 sl0 rfl dd_X8_fault_1 rfl ?_
  refine hb_aload_n (q := 5) hc dd_X8_fault_4 rfl rfl ?_
  refine hb_getR (q := 8) hc fl_X8_19 sh0 sl0 rfl dd_X8_fault_5 rfl ?_
  refine hb_callVv (q := 11) (vs := [.ref 3]) (st := []) hc mv_X8_82 h sh8 sl8 rfl rfl rfl (Nat.le_of_ble_eq_true rfl) ⟨Nat.le_refl _, Nat.le_refl _⟩ ⟨Nat.le_refl _, Nat.le_refl _⟩ dd_X8_fault_8 rfl (fun M1 h => ?_)
  refine hb_aload_n (q := 12) hc dd_X8_fault_11 rfl rfl ?_
  refine hb_getR (q := 15) hc fl_X8_12 sh0 sl0 rfl dd_X8_fault_12 rfl ?_
  refine hb_aload_n (q := 16) hc dd_X8_fault_15 rfl rfl ?_
  refine hb_getR (q := 19) hc fl_X8_23 sh0 sl0 rfl dd_X8_fault_16 rfl ?_
  refine hb_callVi (q := 22) (vs := [.ref 8]) (st := []) hc mv_X8_86 h sh1 sl1 rfl rfl rfl (Nat.le_of_ble_eq_true rfl) ⟨Nat.le_refl _, Nat.le_refl _⟩ ⟨Nat.le_refl _, Nat.le_refl _⟩ dd_X8_fault_19 rfl (fun r2 M2 h => ?_)
  exact hb_iret hc rfl dd_X8_fault_22 h
theorem w_X8_office {d : Nat} {M : Mm}  {K : Int32 → Mm → Prop}  (h : ACv d X0_become [.ref 8, .ref 3] M (fun M1 => ACi d X6_readInto [.ref 1, .ref 8] M1 (fun r2 M2 => (r2 = (-1) → (ACv d X0_become [.ref 3, .ref 8] M2 (fun M3 => ACv d X2_become [.ref 13, .ref 5] M3 (fun M4 => ACv d X8_forgetWhatWasDone [.ref 0] M4 (fun M5 => K (M5.1 1 1) (wI M5 1 0 0)))))) ∧ (¬ r2 = (-1) → (K (-4) M2))))) : ACi (d + 1) X8_office [.ref 0] M K := by
  refine AC.ofW (lv := [some (.ref 0)]) pn_X8 (Nat.le_of_ble_eq_true rfl) (show lvLe _ [some (.ref 0)] from (lvs lvz)) ?_
  intro p l e s m args below meth c G hc
  refine hb_aload_n (q := 1) hc dd_X8_office_0 rfl rfl ?_
  refine hb_getR (q := 4) hc fl_X8_23 sh0 sl0 rfl dd_X8_office_1 rfl ?_
  refine hb_aload_n (q := 5) hc dd_X8_office_4 rfl rfl ?_
  refine hb_getR (q := 8) hc fl_X8_19 sh0 sl0 rfl dd_X8_office_5 rfl ?_
  refine hb_callVv (q := 11) (vs := [.ref 3]) (st := []) hc mv_X8_82 h sh8 sl8 rfl rfl rfl (Nat.le_of_ble_eq_true rfl) ⟨Nat.le_refl _, Nat.le_refl _⟩ ⟨Nat.le_refl _, Nat.le_refl _⟩ dd_X8_office_8 rfl (fun M1 h => ?_)
  refine hb_aload_n (q := 12) hc dd_X8_office_11 rfl rfl ?_
  refine hb_getR (q := 15) hc fl_X8_12 sh0 sl0 rfl dd_X8_office_12 rfl ?_
  refine hb_aload_n (q := 16) hc dd_X8_office_15 rfl rfl ?_
  refine hb_getR (q := 19) hc fl_X8_23 sh0 sl0 rfl dd_X8_office_16 rfl ?_
  refine hb_callVi (q := 22) (vs := [.ref 8]) (st := []) hc mv_X8_86 h sh1 sl1 rfl rfl rfl (Nat.le_of_ble_eq_true rfl) ⟨Nat.le_refl _, Nat.le_refl _⟩ ⟨Nat.le_refl _, Nat.le_refl _⟩ dd_X8_office_19 rfl (fun r2 M2 h => ?_)
  refine hb_iconst (q := 23) (v := (-1)) hc dd_X8_office_22 rfl ic_m1 ?_
  refine hb_icmp_eq (q := 26) (tg := 29) hc dd_X8_office_23 rfl (by decide) (fun z => ?_) (fun z => ?_)
  · replace h := h.1 z
    refine hb_aload_n (q := 30) hc dd_X8_office_29 rfl rfl ?_
    refine hb_getR (q := 33) hc fl_X8_19 sh0 sl0 rfl dd_X8_office_30 rfl ?_
    refine hb_aload_n (q := 34) hc dd_X8_office_33 rfl rfl ?_
    refine hb_getR (q := 37) hc fl_X8_23 sh0 sl0 rfl dd_X8_office_34 rfl ?_
    refine hb_callVv (q := 40) (vs := [.ref 8]) (st := []) hc mv_X8_82 h sh3 sl3 rfl rfl rfl (Nat.le_of_ble_eq_true rfl) ⟨Nat.le_refl _, Nat.le_refl _⟩ ⟨Nat.le_refl _, Nat.le_refl _⟩ dd_X8_office_37 rfl (fun M3 h => ?_)
    refine hb_aload_n (q := 41) hc dd_X8_office_40 rfl rfl ?_
    refine hb_getR (q := 44) hc fl_X8_29 sh0 sl0 rfl dd_X8_office_41 rfl ?_
    refine hb_aload_n (q := 45) hc dd_X8_office_44 rfl rfl ?_
    refine hb_getR (q := 48) hc fl_X8_19 sh0 sl0 rfl dd_X8_office_45 rfl ?_
    refine hb_getR (q := 51) hc fl_X8_90 sh3 sl3 rfl dd_X8_office_48 rfl ?_
    refine hb_callVv (q := 54) (vs := [.ref 5]) (st := []) hc mv_X8_93 h sh13 sl13 rfl rfl rfl (Nat.le_of_ble_eq_true rfl) ⟨Nat.le_refl _, Nat.le_refl _⟩ ⟨Nat.le_refl _, Nat.le_refl _⟩ dd_X8_office_51 rfl (fun M4 h => ?_)
    refine hb_aload_n (q := 55) hc dd_X8_office_54 rfl rfl ?_
    refine hb_callVv (q := 58) (vs := []) (st := []) hc mv_X8_96 h sh0 sl0 rfl rfl rfl (Nat.le_of_ble_eq_true rfl) ⟨Nat.le_refl _, Nat.le_refl _⟩ ⟨Nat.le_refl _, Nat.le_refl _⟩ dd_X8_office_55 rfl (fun M5 h => ?_)
    refine hb_aload_n (q := 59) hc dd_X8_office_58 rfl rfl ?_
    refine hb_getR (q := 62) hc fl_X8_12 sh0 sl0 rfl dd_X8_office_59 rfl ?_
    refine hb_iconst (q := 63) (v := 0) hc dd_X8_office_62 rfl ic_0 ?_
    refine hb_putI (q := 66) hc fl_X8_74 sh1 sl1 rfl dd_X8_office_63 rfl ?_
    refine hb_aload_n (q := 67) hc dd_X8_office_66 rfl rfl ?_
    refine hb_getR (q := 70) hc fl_X8_12 sh0 sl0 rfl dd_X8_office_67 rfl ?_
    refine hb_getI (q := 73) (v := M5.1 1 1) hc fl_X8_99 sh1 sl1 rfl rfl dd_X8_office_70 rfl ?_
    exact hb_iret hc rfl dd_X8_office_73 h
  · replace h := h.2 z
    refine hb_bipush (q := 28) (v := (-4)) hc dd_X8_office_26 rfl bp_m4 ?_
    exact hb_iret hc rfl dd_X8_office_28 h
def lp_X8_forgetWhatWasDone_33 (d : Nat) (M : Mm) (v1 : Int32) (K : Mm → Prop) : Prop := AW (d + 1) X8_forgetWhatWasDone M 33 [some (.ref 0), some (.int v1), none] [] (QV K)
theorem z_X8_forgetWhatWasDone_33 {d : Nat} {M : Mm} {v1 : Int32} {K : Mm → Prop}  (h : (3 ≤ v1 → (K M)) ∧ (¬ 3 ≤ v1 → (ACr d X8_tapeAt [.ref 0, .int v1] M (fun r1 M1 => (r1 = none → (lp_X8_forgetWhatWasDone_33 d M1 (v1 + 1) K)) ∧ (∀ a1 : Nat, r1 = some a1 → isTp a1 ∧ (ACv d X5_vanish [.ref a1] M1 (fun M2 => lp_X8_forgetWhatWasDone_33 d M2 (v1 + 1) K))))))) : lp_X8_forgetWhatWasDone_33 d M v1 K := by
  intro p l e s m args below meth c G hc
  refine hb_iload_n (q := 34) hc dd_X8_forgetWhatWasDone_33 rfl rfl ?_
  refine hb_iconst (q := 35) (v := 3) hc dd_X8_forgetWhatWasDone_34 rfl ic_3 ?_
  refine hb_icmp_ge (q := 38) (tg := 58) hc dd_X8_forgetWhatWasDone_35 rfl (by decide) (fun z => ?_) (fun z => ?_)
  · replace h := h.1 z
    exact hb_vret hc rfl dd_X8_forgetWhatWasDone_58 h
  · replace h := h.2 z
    refine hb_aload_n (q := 39) hc dd_X8_forgetWhatWasDone_38 rfl rfl ?_
    refine hb_iload_n (q := 40) hc dd_X8_forgetWhatWasDone_39 rfl rfl ?_
    refine hb_callVr (q := 43) (vs := [.int v1]) (st := []) hc mv_X8_112 h sh0 sl0 rfl rfl rfl (Nat.le_of_ble_eq_true rfl) ⟨Nat.le_refl _, Nat.le_refl _⟩ ⟨Nat.le_refl _, Nat.le_refl _⟩ dd_X8_forgetWhatWasDone_40 rfl (fun M1 h => ?_) (fun a1 M1 h => ?_)
    · replace h := h.1 rfl
      refine hb_astore_nN (q := 44) (lv' := [some (.ref 0), some (.int v1), some (.null)]) hc dd_X8_forgetWhatWasDone_43 rfl (Nat.le_of_ble_eq_true rfl) rfl ?_
      refine hb_aload_nN (q := 45) hc dd_X8_forgetWhatWasDone_44 rfl rfl ?_
      refine hb_ifnullN (tg := 52) hc dd_X8_forgetWhatWasDone_45 (by decide) ?_
      refine hb_iinc (q := 55) (v := v1 + 1) (lv' := [some (.ref 0), some (.int (v1 + 1)), some (.null)]) hc dd_X8_forgetWhatWasDone_52 rfl rfl rfl (Nat.le_of_ble_eq_true rfl) rfl ?_
      refine hb_goto (tg := 33) hc dd_X8_forgetWhatWasDone_55 (by decide) ?_
      exact hb_weak (lvs (lvs (lvn lvz))) (h p l e s m args below meth c G hc)
    · obtain ⟨ha1, h⟩ := h.2 a1 rfl
      refine hb_astore_n (q := 44) (lv' := [some (.ref 0), some (.int v1), some (.ref a1)]) hc dd_X8_forgetWhatWasDone_43 rfl (Nat.le_of_ble_eq_true rfl) rfl ?_
      refine hb_aload_n (q := 45) hc dd_X8_forgetWhatWasDone_44 rfl rfl ?_
      refine hb_ifnull (q := 48) hc dd_X8_forgetWhatWasDone_45 rfl ?_
      refine hb_aload_n (q := 49) hc dd_X8_forgetWhatWasDone_48 rfl rfl ?_
      refine hb_callVv (q := 52) (vs := []) (st := []) hc mv_X8_116 h (tp_s ha1) (tp_l ha1) rfl rfl rfl (Nat.le_of_ble_eq_true rfl) ⟨Nat.le_refl _, Nat.le_refl _⟩ ⟨Nat.le_refl _, Nat.le_refl _⟩ dd_X8_forgetWhatWasDone_49 rfl (fun M2 h => ?_)
      refine hb_iinc (q := 55) (v := v1 + 1) (lv' := [some (.ref 0), some (.int (v1 + 1)), some (.ref a1)]) hc dd_X8_forgetWhatWasDone_52 rfl rfl rfl (Nat.le_of_ble_eq_true rfl) rfl ?_
      refine hb_goto (tg := 33) hc dd_X8_forgetWhatWasDone_55 (by decide) ?_
      exact hb_weak (lvs (lvs (lvn lvz))) (h p l e s m args below meth c G hc)
theorem w_X8_forgetWhatWasDone {d : Nat} {M : Mm}  {K : Mm → Prop}  (h : ACv d X7_end [.ref 34] M (fun M1 => lp_X8_forgetWhatWasDone_33 d (wI (wI (wI M1 22 0 0) 16 3 0) 19 3 0) 0 K)) : ACv (d + 1) X8_forgetWhatWasDone [.ref 0] M K := by
  refine AC.ofW (lv := [some (.ref 0), none, none]) pn_X8 (Nat.le_of_ble_eq_true rfl) (show lvLe _ [some (.ref 0)] from (lvs (lve (lve lvz)))) ?_
  intro p l e s m args below meth c G hc
  refine hb_aload_n (q := 1) hc dd_X8_forgetWhatWasDone_0 rfl rfl ?_
  refine hb_getR (q := 4) hc fl_X8_63 sh0 sl0 rfl dd_X8_forgetWhatWasDone_1 rfl ?_
  refine hb_callVv (q := 7) (vs := []) (st := []) hc mv_X8_102 h sh34 sl34 rfl rfl rfl (Nat.le_of_ble_eq_true rfl) ⟨Nat.le_refl _, Nat.le_refl _⟩ ⟨Nat.le_refl _, Nat.le_refl _⟩ dd_X8_forgetWhatWasDone_4 rfl (fun M1 h => ?_)
  refine hb_aload_n (q := 8) hc dd_X8_forgetWhatWasDone_7 rfl rfl ?_
  refine hb_getR (q := 11) hc fl_X8_36 sh0 sl0 rfl dd_X8_forgetWhatWasDone_8 rfl ?_
  refine hb_iconst (q := 12) (v := 0) hc dd_X8_forgetWhatWasDone_11 rfl ic_0 ?_
  refine hb_putI (q := 15) hc fl_X8_105 sh22 sl22 rfl dd_X8_forgetWhatWasDone_12 rfl ?_
  refine hb_aload_n (q := 16) hc dd_X8_forgetWhatWasDone_15 rfl rfl ?_
  refine hb_getR (q := 19) hc fl_X8_40 sh0 sl0 rfl dd_X8_forgetWhatWasDone_16 rfl ?_
  refine hb_iconst (q := 20) (v := 0) hc dd_X8_forgetWhatWasDone_19 rfl ic_0 ?_
  refine hb_putZ (q := 23) hc fl_X8_108 sh16 sl16 rfl (by decide) dd_X8_forgetWhatWasDone_20 rfl ?_
  refine hb_aload_n (q := 24) hc dd_X8_forgetWhatWasDone_23 rfl rfl ?_
  refine hb_getR (q := 27) hc fl_X8_43 sh0 sl0 rfl dd_X8_forgetWhatWasDone_24 rfl ?_
  refine hb_iconst (q := 28) (v := 0) hc dd_X8_forgetWhatWasDone_27 rfl ic_0 ?_
  refine hb_putZ (q := 31) hc fl_X8_108 sh19 sl19 rfl (by decide) dd_X8_forgetWhatWasDone_28 rfl ?_
  refine hb_iconst (q := 32) (v := 0) hc dd_X8_forgetWhatWasDone_31 rfl ic_0 ?_
  refine hb_istore_n (q := 33) (lv' := [some (.ref 0), some (.int 0), none]) hc dd_X8_forgetWhatWasDone_32 rfl (Nat.le_of_ble_eq_true rfl) rfl ?_
  exact hb_weak (lvs (lvs (lvn lvz))) (h p l e s m args below meth c G hc)
theorem w_X8_rhythm {d : Nat} {M : Mm} {v1 : Int32} {v2 : Int32} {K : Int32 → Mm → Prop}  (h : ACi d X0_hasRhythm [.ref 3, .int v1] M (fun r1 M1 => (¬ r1 = 0 → ((v2 = 0 → (vp_in v1 8 ∧ (K (M1.1 4 v1.toNatClampNeg) M1))) ∧ (v2 = 1 → (ACi d X0_turnsToLeast [.ref 3, .int v1] M1 (fun r2 M2 => ACi d X0_turned [.ref 3, .int v1, .int r2] M2 (fun r3 M3 => K r3 M3)))) ∧ (v2 = 2 → (ACi d X0_repeats [.ref 3, .int v1] M1 (fun r4 M4 => K r4 M4))) ∧ (v2 = 3 → (vp_in v1 8 ∧ (ACi d J6_bitCount_0f7a4 [.int (M1.1 4 v1.toNatClampNeg)] M1 (fun r5 M5 => K r5 M5)))) ∧ (v2 = 4 → (ACi d X0_turnsToLeast [.ref 3, .int v1] M1 (fun r6 M6 => K r6 M6))) ∧ (v2 < 0 ∨ nI 4 < v2 → (K (-3) M1)))) ∧ (r1 = 0 → (K (-2) M1)))) : ACi (d + 1) X8_rhythm [.ref 0, .int v1, .int v2] M K := by
  refine AC.ofW (lv := [some (.ref 0), some (.int v1), some (.int v2)]) pn_X8 (Nat.le_of_ble_eq_true rfl) (show lvLe _ [some (.ref 0), some (.int v1), some (.int v2)] from (lvs (lvs (lvs lvz)))) ?_
  intro p l e s m args below meth c G hc
  refine hb_aload_n (q := 1) hc dd_X8_rhythm_0 rfl rfl ?_
  refine hb_getR (q := 4) hc fl_X8_19 sh0 sl0 rfl dd_X8_rhythm_1 rfl ?_
  refine hb_iload_n (q := 5) hc dd_X8_rhythm_4 rfl rfl ?_
  refine hb_callVi (q := 8) (vs := [.int v1]) (st := []) hc mv_X8_119 h sh3 sl3 rfl rfl rfl (Nat.le_of_ble_eq_true rfl) ⟨Nat.le_refl _, Nat.le_refl _⟩ ⟨Nat.le_refl _, Nat.le_refl _⟩ dd_X8_rhythm_5 rfl (fun r1 M1 h => ?_)
  refine hb_if_ne (q := 11) (tg := 14) hc dd_X8_rhythm_8 rfl (by decide) (fun z => ?_) (fun z => ?_)
  · replace h := h.1 z
    refine hb_iload_n (q := 15) hc dd_X8_rhythm_14 rfl rfl ?_
    by_cases zo : v2 < 0 ∨ nI 4 < v2
    · replace h := h.2.2.2.2.2 zo
      refine hb_tableOut (tg := 106) hc dd_X8_rhythm_15 (sw_out (k := 4) (by decide) zo) (by decide) ?_
      refine hb_bipush (q := 108) (v := (-3)) hc dd_X8_rhythm_106 rfl bp_m3 ?_
      exact hb_iret hc rfl dd_X8_rhythm_108 h
    · have zi := sw_in4 zo
      rcases zi with z | z | z | z | z
      · replace h := h.1 z
        refine hb_tableIn (off := 33) (tg := 48) hc dd_X8_rhythm_15 (by rw [z]; decide) (by rw [z]; decide) (by rw [z]; rfl) (by decide) ?_
        refine hb_aload_n (q := 49) hc dd_X8_rhythm_48 rfl rfl ?_
        refine hb_getR (q := 52) hc fl_X8_19 sh0 sl0 rfl dd_X8_rhythm_49 rfl ?_
        refine hb_getR (q := 55) hc fl_X8_123 sh3 sl3 rfl dd_X8_rhythm_52 rfl ?_
        refine hb_iload_n (q := 56) hc dd_X8_rhythm_55 rfl rfl ?_
        obtain ⟨hi, h⟩ := h
        refine hb_iald (q := 57) (v := M1.1 4 v1.toNatClampNeg) hc sh4 sl4 hi rfl rfl dd_X8_rhythm_56 rfl ?_
        exact hb_iret hc rfl dd_X8_rhythm_57 h
      · replace h := h.2.1 z
        refine hb_tableIn (off := 43) (tg := 58) hc dd_X8_rhythm_15 (by rw [z]; decide) (by rw [z]; decide) (by rw [z]; rfl) (by decide) ?_
        refine hb_aload_n (q := 59) hc dd_X8_rhythm_58 rfl rfl ?_
        refine hb_getR (q := 62) hc fl_X8_19 sh0 sl0 rfl dd_X8_rhythm_59 rfl ?_
        refine hb_iload_n (q := 63) hc dd_X8_rhythm_62 rfl rfl ?_
        refine hb_aload_n (q := 64) hc dd_X8_rhythm_63 rfl rfl ?_
        refine hb_getR (q := 67) hc fl_X8_19 sh0 sl0 rfl dd_X8_rhythm_64 rfl ?_
        refine hb_iload_n (q := 68) hc dd_X8_rhythm_67 rfl rfl ?_
        refine hb_callVi (q := 71) (vs := [.int v1]) (st := [.int v1, .ref 3]) hc mv_X8_127 h sh3 sl3 rfl rfl rfl (Nat.le_of_ble_eq_true rfl) ⟨Nat.le_refl _, Nat.le_refl _⟩ ⟨Nat.le_refl _, Nat.le_refl _⟩ dd_X8_rhythm_68 rfl (fun r2 M2 h => ?_)
        refine hb_callVi (q := 74) (vs := [.int v1, .int r2]) (st := []) hc mv_X8_131 h sh3 sl3 rfl rfl rfl (Nat.le_of_ble_eq_true rfl) ⟨Nat.le_refl _, Nat.le_refl _⟩ ⟨Nat.le_refl _, Nat.le_refl _⟩ dd_X8_rhythm_71 rfl (fun r3 M3 h => ?_)
        exact hb_iret hc rfl dd_X8_rhythm_74 h
      · replace h := h.2.2.1 z
        refine hb_tableIn (off := 60) (tg := 75) hc dd_X8_rhythm_15 (by rw [z]; decide) (by rw [z]; decide) (by rw [z]; rfl) (by decide) ?_
        refine hb_aload_n (q := 76) hc dd_X8_rhythm_75 rfl rfl ?_
        refine hb_getR (q := 79) hc fl_X8_19 sh0 sl0 rfl dd_X8_rhythm_76 rfl ?_
        refine hb_iload_n (q := 80) hc dd_X8_rhythm_79 rfl rfl ?_
        refine hb_callVi (q := 83) (vs := [.int v1]) (st := []) hc mv_X8_135 h sh3 sl3 rfl rfl rfl (Nat.le_of_ble_eq_true rfl) ⟨Nat.le_refl _, Nat.le_refl _⟩ ⟨Nat.le_refl _, Nat.le_refl _⟩ dd_X8_rhythm_80 rfl (fun r4 M4 h => ?_)
        exact hb_iret hc rfl dd_X8_rhythm_83 h
      · replace h := h.2.2.2.1 z
        refine hb_tableIn (off := 69) (tg := 84) hc dd_X8_rhythm_15 (by rw [z]; decide) (by rw [z]; decide) (by rw [z]; rfl) (by decide) ?_
        refine hb_aload_n (q := 85) hc dd_X8_rhythm_84 rfl rfl ?_
        refine hb_getR (q := 88) hc fl_X8_19 sh0 sl0 rfl dd_X8_rhythm_85 rfl ?_
        refine hb_getR (q := 91) hc fl_X8_123 sh3 sl3 rfl dd_X8_rhythm_88 rfl ?_
        refine hb_iload_n (q := 92) hc dd_X8_rhythm_91 rfl rfl ?_
        obtain ⟨hi, h⟩ := h
        refine hb_iald (q := 93) (v := M1.1 4 v1.toNatClampNeg) hc sh4 sl4 hi rfl rfl dd_X8_rhythm_92 rfl ?_
        refine hb_callSi (q := 96) (vs := [.int (M1.1 4 v1.toNatClampNeg)]) (st := []) hc mv_X8_138 h rfl rfl (Nat.le_of_ble_eq_true rfl) ⟨Nat.le_refl _, Nat.le_refl _⟩ ⟨Nat.le_refl _, Nat.le_refl _⟩ dd_X8_rhythm_93 rfl (fun r5 M5 h => ?_)
        exact hb_iret hc rfl dd_X8_rhythm_96 h
      · replace h := h.2.2.2.2.1 z
        refine hb_tableIn (off := 82) (tg := 97) hc dd_X8_rhythm_15 (by rw [z]; decide) (by rw [z]; decide) (by rw [z]; rfl) (by decide) ?_
        refine hb_aload_n (q := 98) hc dd_X8_rhythm_97 rfl rfl ?_
        refine hb_getR (q := 101) hc fl_X8_19 sh0 sl0 rfl dd_X8_rhythm_98 rfl ?_
        refine hb_iload_n (q := 102) hc dd_X8_rhythm_101 rfl rfl ?_
        refine hb_callVi (q := 105) (vs := [.int v1]) (st := []) hc mv_X8_127 h sh3 sl3 rfl rfl rfl (Nat.le_of_ble_eq_true rfl) ⟨Nat.le_refl _, Nat.le_refl _⟩ ⟨Nat.le_refl _, Nat.le_refl _⟩ dd_X8_rhythm_102 rfl (fun r6 M6 h => ?_)
        exact hb_iret hc rfl dd_X8_rhythm_105 h
  · replace h := h.2 z
    refine hb_bipush (q := 13) (v := (-2)) hc dd_X8_rhythm_11 rfl bp_m2 ?_
    exact hb_iret hc rfl dd_X8_rhythm_13 h
theorem w_X8_light {d : Nat} {M : Mm} {v1 : Int32} {v2 : Int32} {K : Int32 → Mm → Prop}  (h : ACi d X2_hasLight [.ref 13, .int v1] M (fun r1 M1 => (¬ r1 = 0 → ((v2 = 0 → (vp_in v1 6 ∧ (K (M1.1 14 v1.toNatClampNeg) M1))) ∧ (v2 = 1 → (vp_in v1 6 ∧ (K (M1.1 15 v1.toNatClampNeg) M1))) ∧ (v2 = 2 → (ACi d X2_neighbours [.ref 13, .int v1, .int (M1.1 3 2)] M1 (fun r2 M2 => K r2 M2))) ∧ (v2 = 3 → (ACi d X8_clashing [.ref 0, .int v1] M1 (fun r3 M3 => K r3 M3))) ∧ (v2 < 0 ∨ nI 3 < v2 → (K (-3) M1)))) ∧ (r1 = 0 → (K (-2) M1)))) : ACi (d + 1) X8_light [.ref 0, .int v1, .int v2] M K := by
  refine AC.ofW (lv := [some (.ref 0), some (.int v1), some (.int v2)]) pn_X8 (Nat.le_of_ble_eq_true rfl) (show lvLe _ [some (.ref 0), some (.int v1), some (.int v2)] from (lvs (lvs (lvs lvz)))) ?_
  intro p l e s m args below meth c G hc
  refine hb_aload_n (q := 1) hc dd_X8_light_0 rfl rfl ?_
  refine hb_getR (q := 4) hc fl_X8_29 sh0 sl0 rfl dd_X8_light_1 rfl ?_
  refine hb_iload_n (q := 5) hc dd_X8_light_4 rfl rfl ?_
  refine hb_callVi (q := 8) (vs := [.int v1]) (st := []) hc mv_X8_143 h sh13 sl13 rfl rfl rfl (Nat.le_of_ble_eq_true rfl) ⟨Nat.le_refl _, Nat.le_refl _⟩ ⟨Nat.le_refl _, Nat.le_refl _⟩ dd_X8_light_5 rfl (fun r1 M1 h => ?_)
  refine hb_if_ne (q := 11) (tg := 14) hc dd_X8_light_8 rfl (by decide) (fun z => ?_) (fun z => ?_)
  · replace h := h.1 z
    refine hb_iload_n (q := 15) hc dd_X8_light_14 rfl rfl ?_
    by_cases zo : v2 < 0 ∨ nI 3 < v2
    · replace h := h.2.2.2.2 zo
      refine hb_tableOut (tg := 86) hc dd_X8_light_15 (sw_out (k := 3) (by decide) zo) (by decide) ?_
      refine hb_bipush (q := 88) (v := (-3)) hc dd_X8_light_86 rfl bp_m3 ?_
      exact hb_iret hc rfl dd_X8_light_88 h
    · have zi := sw_in3 zo
      rcases zi with z | z | z | z
      · replace h := h.1 z
        refine hb_tableIn (off := 29) (tg := 44) hc dd_X8_light_15 (by rw [z]; decide) (by rw [z]; decide) (by rw [z]; rfl) (by decide) ?_
        refine hb_aload_n (q := 45) hc dd_X8_light_44 rfl rfl ?_
        refine hb_getR (q := 48) hc fl_X8_29 sh0 sl0 rfl dd_X8_light_45 rfl ?_
        refine hb_getR (q := 51) hc fl_X8_146 sh13 sl13 rfl dd_X8_light_48 rfl ?_
        refine hb_iload_n (q := 52) hc dd_X8_light_51 rfl rfl ?_
        obtain ⟨hi, h⟩ := h
        refine hb_iald (q := 53) (v := M1.1 14 v1.toNatClampNeg) hc sh14 sl14 hi rfl rfl dd_X8_light_52 rfl ?_
        exact hb_iret hc rfl dd_X8_light_53 h
      · replace h := h.2.1 z
        refine hb_tableIn (off := 39) (tg := 54) hc dd_X8_light_15 (by rw [z]; decide) (by rw [z]; decide) (by rw [z]; rfl) (by decide) ?_
        refine hb_aload_n (q := 55) hc dd_X8_light_54 rfl rfl ?_
        refine hb_getR (q := 58) hc fl_X8_29 sh0 sl0 rfl dd_X8_light_55 rfl ?_
        refine hb_getR (q := 61) hc fl_X8_149 sh13 sl13 rfl dd_X8_light_58 rfl ?_
        refine hb_iload_n (q := 62) hc dd_X8_light_61 rfl rfl ?_
        obtain ⟨hi, h⟩ := h
        refine hb_iald (q := 63) (v := M1.1 15 v1.toNatClampNeg) hc sh15 sl15 hi rfl rfl dd_X8_light_62 rfl ?_
        exact hb_iret hc rfl dd_X8_light_63 h
      · replace h := h.2.2.1 z
        refine hb_tableIn (off := 49) (tg := 64) hc dd_X8_light_15 (by rw [z]; decide) (by rw [z]; decide) (by rw [z]; rfl) (by decide) ?_
        refine hb_aload_n (q := 65) hc dd_X8_light_64 rfl rfl ?_
        refine hb_getR (q := 68) hc fl_X8_29 sh0 sl0 rfl dd_X8_light_65 rfl ?_
        refine hb_iload_n (q := 69) hc dd_X8_light_68 rfl rfl ?_
        refine hb_aload_n (q := 70) hc dd_X8_light_69 rfl rfl ?_
        refine hb_getR (q := 73) hc fl_X8_19 sh0 sl0 rfl dd_X8_light_70 rfl ?_
        refine hb_getI (q := 76) (v := M1.1 3 2) hc fl_X8_152 sh3 sl3 rfl rfl dd_X8_light_73 rfl ?_
        refine hb_callVi (q := 79) (vs := [.int v1, .int (M1.1 3 2)]) (st := []) hc mv_X8_155 h sh13 sl13 rfl rfl rfl (Nat.le_of_ble_eq_true rfl) ⟨Nat.le_refl _, Nat.le_refl _⟩ ⟨Nat.le_refl _, Nat.le_refl _⟩ dd_X8_light_76 rfl (fun r2 M2 h => ?_)
        exact hb_iret hc rfl dd_X8_light_79 h
      · replace h := h.2.2.2.1 z
        refine hb_tableIn (off := 65) (tg := 80) hc dd_X8_light_15 (by rw [z]; decide) (by rw [z]; decide) (by rw [z]; rfl) (by decide) ?_
        refine hb_aload_n (q := 81) hc dd_X8_light_80 rfl rfl ?_
        refine hb_iload_n (q := 82) hc dd_X8_light_81 rfl rfl ?_
        refine hb_callVi (q := 85) (vs := [.int v1]) (st := []) hc mv_X8_158 h sh0 sl0 rfl rfl rfl (Nat.le_of_ble_eq_true rfl) ⟨Nat.le_refl _, Nat.le_refl _⟩ ⟨Nat.le_refl _, Nat.le_refl _⟩ dd_X8_light_82 rfl (fun r3 M3 h => ?_)
        exact hb_iret hc rfl dd_X8_light_85 h
  · replace h := h.2 z
    refine hb_bipush (q := 13) (v := (-2)) hc dd_X8_light_11 rfl bp_m2 ?_
    exact hb_iret hc rfl dd_X8_light_13 h
def lp_X8_clashing_21 (d : Nat) (M : Mm) (v1 : Int32) (v2 : Int32) (v3 : Int32) (v4 : Int32) (K : Int32 → Mm → Prop) : Prop := AW (d + 1) X8_clashing M 21 [some (.ref 0), some (.int v1), some (.int v2), some (.int v3), some (.int v4), none] [] (QI K)
theorem z_X8_clashing_21 {d : Nat} {M : Mm} {v1 : Int32} {v2 : Int32} {v3 : Int32} {v4 : Int32} {K : Int32 → Mm → Prop}  (h : ((M.1 13 0) ≤ v4 → (K v3 M)) ∧ (¬ (M.1 13 0) ≤ v4 → ((¬ ((v2 >>> (v4 &&& 31)) &&& 1) = 1 → (lp_X8_clashing_21 d M v1 v2 v3 (v4 + 1) K)) ∧ (((v2 >>> (v4 &&& 31)) &&& 1) = 1 → (vp_in v1 6 ∧ (vp_in v4 6 ∧ (ACi d X0_areSuch [.ref 3, .int (M.1 15 v1.toNatClampNeg), .int (M.1 15 v4.toNatClampNeg), .int 0] M (fun r1 M1 => (r1 = 0 → (lp_X8_clashing_21 d M1 v1 v2 v3 (v4 + 1) K)) ∧ (¬ r1 = 0 → (lp_X8_clashing_21 d M1 v1 v2 (v3 ||| (1 <<< (v4 &&& 31))) (v4 + 1) K)))))))))) : lp_X8_clashing_21 d M v1 v2 v3 v4 K := by
  intro p l e s m args below meth c G hc
  refine hb_iload (q := 23) hc dd_X8_clashing_21 rfl rfl ?_
  refine hb_aload_n (q := 24) hc dd_X8_clashing_23 rfl rfl ?_
  refine hb_getR (q := 27) hc fl_X8_29 sh0 sl0 rfl dd_X8_clashing_24 rfl ?_
  refine hb_getI (q := 30) (v := M.1 13 0) hc fl_X8_161 sh13 sl13 rfl rfl dd_X8_clashing_27 rfl ?_
  refine hb_icmp_ge (q := 33) (tg := 98) hc dd_X8_clashing_30 rfl (by decide) (fun z => ?_) (fun z => ?_)
  · replace h := h.1 z
    refine hb_iload_n (q := 99) hc dd_X8_clashing_98 rfl rfl ?_
    exact hb_iret hc rfl dd_X8_clashing_99 h
  · replace h := h.2 z
    refine hb_iload_n (q := 34) hc dd_X8_clashing_33 rfl rfl ?_
    refine hb_iload (q := 36) hc dd_X8_clashing_34 rfl rfl ?_
    refine hb_ishr (q := 37) hc dd_X8_clashing_36 rfl ?_
    refine hb_iconst (q := 38) (v := 1) hc dd_X8_clashing_37 rfl ic_1 ?_
    refine hb_iand (q := 39) hc dd_X8_clashing_38 rfl ?_
    refine hb_iconst (q := 40) (v := 1) hc dd_X8_clashing_39 rfl ic_1 ?_
    refine hb_icmp_ne (q := 43) (tg := 47) hc dd_X8_clashing_40 rfl (by decide) (fun z => ?_) (fun z => ?_)
    · replace h := h.1 z
      refine hb_iconst (q := 48) (v := 0) hc dd_X8_clashing_47 rfl ic_0 ?_
      refine hb_istore (q := 50) (lv' := [some (.ref 0), some (.int v1), some (.int v2), some (.int v3), some (.int v4), some (.int 0)]) hc dd_X8_clashing_48 rfl (Nat.le_of_ble_eq_true rfl) rfl ?_
      refine hb_iload (q := 52) hc dd_X8_clashing_50 rfl rfl ?_
      refine hb_if_eq (q := 55) (tg := 92) hc dd_X8_clashing_52 rfl (by decide) (fun _ => ?_) (fun z => absurd z (by decide))
      refine hb_iinc (q := 95) (v := v4 + 1) (lv' := [some (.ref 0), some (.int v1), some (.int v2), some (.int v3), some (.int (v4 + 1)), some (.int 0)]) hc dd_X8_clashing_92 rfl rfl rfl (Nat.le_of_ble_eq_true rfl) rfl ?_
      refine hb_goto (tg := 21) hc dd_X8_clashing_95 (by decide) ?_
      exact hb_weak (lvs (lvs (lvs (lvs (lvs (lvn lvz)))))) (h p l e s m args below meth c G hc)
    · replace h := h.2 z
      refine hb_iconst (q := 44) (v := 1) hc dd_X8_clashing_43 rfl ic_1 ?_
      refine hb_goto (tg := 48) hc dd_X8_clashing_44 (by decide) ?_
      refine hb_istore (q := 50) (lv' := [some (.ref 0), some (.int v1), some (.int v2), some (.int v3), some (.int v4), some (.int 1)]) hc dd_X8_clashing_48 rfl (Nat.le_of_ble_eq_true rfl) rfl ?_
      refine hb_iload (q := 52) hc dd_X8_clashing_50 rfl rfl ?_
      refine hb_if_eq (q := 55) (tg := 92) hc dd_X8_clashing_52 rfl (by decide) (fun z => absurd z (by decide)) (fun _ => ?_)
      refine hb_aload_n (q := 56) hc dd_X8_clashing_55 rfl rfl ?_
      refine hb_getR (q := 59) hc fl_X8_19 sh0 sl0 rfl dd_X8_clashing_56 rfl ?_
      refine hb_aload_n (q := 60) hc dd_X8_clashing_59 rfl rfl ?_
      refine hb_getR (q := 63) hc fl_X8_29 sh0 sl0 rfl dd_X8_clashing_60 rfl ?_
      refine hb_getR (q := 66) hc fl_X8_149 sh13 sl13 rfl dd_X8_clashing_63 rfl ?_
      refine hb_iload_n (q := 67) hc dd_X8_clashing_66 rfl rfl ?_
      obtain ⟨hi, h⟩ := h
      refine hb_iald (q := 68) (v := M.1 15 v1.toNatClampNeg) hc sh15 sl15 hi rfl rfl dd_X8_clashing_67 rfl ?_
      refine hb_aload_n (q := 69) hc dd_X8_clashing_68 rfl rfl ?_
      refine hb_getR (q := 72) hc fl_X8_29 sh0 sl0 rfl dd_X8_clashing_69 rfl ?_
      refine hb_getR (q := 75) hc fl_X8_149 sh13 sl13 rfl dd_X8_clashing_72 rfl ?_
      refine hb_iload (q := 77) hc dd_X8_clashing_75 rfl rfl ?_
      obtain ⟨hi, h⟩ := h
      refine hb_iald (q := 78) (v := M.1 15 v4.toNatClampNeg) hc sh15 sl15 hi rfl rfl dd_X8_clashing_77 rfl ?_
      refine hb_iconst (q := 79) (v := 0) hc dd_X8_clashing_78 rfl ic_0 ?_
      refine hb_callVi (q := 82) (vs := [.int (M.1 15 v1.toNatClampNeg), .int (M.1 15 v4.toNatClampNeg), .int 0]) (st := []) hc mv_X8_162 h sh3 sl3 rfl rfl rfl (Nat.le_of_ble_eq_true rfl) ⟨Nat.le_refl _, Nat.le_refl _⟩ ⟨Nat.le_refl _, Nat.le_refl _⟩ dd_X8_clashing_79 rfl (fun r1 M1 h => ?_)
      refine hb_if_eq (q := 85) (tg := 92) hc dd_X8_clashing_82 rfl (by decide) (fun z => ?_) (fun z => ?_)
      · replace h := h.1 z
        refine hb_iinc (q := 95) (v := v4 + 1) (lv' := [some (.ref 0), some (.int v1), some (.int v2), some (.int v3), some (.int (v4 + 1)), some (.int 1)]) hc dd_X8_clashing_92 rfl rfl rfl (Nat.le_of_ble_eq_true rfl) rfl ?_
        refine hb_goto (tg := 21) hc dd_X8_clashing_95 (by decide) ?_
        exact hb_weak (lvs (lvs (lvs (lvs (lvs (lvn lvz)))))) (h p l e s m args below meth c G hc)
      · replace h := h.2 z
        refine hb_iload_n (q := 86) hc dd_X8_clashing_85 rfl rfl ?_
        refine hb_iconst (q := 87) (v := 1) hc dd_X8_clashing_86 rfl ic_1 ?_
        refine hb_iload (q := 89) hc dd_X8_clashing_87 rfl rfl ?_
        refine hb_ishl (q := 90) hc dd_X8_clashing_89 rfl ?_
        refine hb_ior (q := 91) hc dd_X8_clashing_90 rfl ?_
        refine hb_istore_n (q := 92) (lv' := [some (.ref 0), some (.int v1), some (.int v2), some (.int (v3 ||| (1 <<< (v4 &&& 31)))), some (.int v4), some (.int 1)]) hc dd_X8_clashing_91 rfl (Nat.le_of_ble_eq_true rfl) rfl ?_
        refine hb_iinc (q := 95) (v := v4 + 1) (lv' := [some (.ref 0), some (.int v1), some (.int v2), some (.int (v3 ||| (1 <<< (v4 &&& 31)))), some (.int (v4 + 1)), some (.int 1)]) hc dd_X8_clashing_92 rfl rfl rfl (Nat.le_of_ble_eq_true rfl) rfl ?_
        refine hb_goto (tg := 21) hc dd_X8_clashing_95 (by decide) ?_
        exact hb_weak (lvs (lvs (lvs (lvs (lvs (lvn lvz)))))) (h p l e s m args below meth c G hc)
theorem w_X8_clashing {d : Nat} {M : Mm} {v1 : Int32} {K : Int32 → Mm → Prop}  (h : ACi d X2_neighbours [.ref 13, .int v1, .int (M.1 3 2)] M (fun r1 M1 => lp_X8_clashing_21 d M1 v1 r1 0 0 K)) : ACi (d + 1) X8_clashing [.ref 0, .int v1] M K := by
  refine AC.ofW (lv := [some (.ref 0), some (.int v1), none, none, none, none]) pn_X8 (Nat.le_of_ble_eq_true rfl) (show lvLe _ [some (.ref 0), some (.int v1)] from (lvs (lvs (lve (lve (lve (lve lvz))))))) ?_
  intro p l e s m args below meth c G hc
  refine hb_aload_n (q := 1) hc dd_X8_clashing_0 rfl rfl ?_
  refine hb_getR (q := 4) hc fl_X8_29 sh0 sl0 rfl dd_X8_clashing_1 rfl ?_
  refine hb_iload_n (q := 5) hc dd_X8_clashing_4 rfl rfl ?_
  refine hb_aload_n (q := 6) hc dd_X8_clashing_5 rfl rfl ?_
  refine hb_getR (q := 9) hc fl_X8_19 sh0 sl0 rfl dd_X8_clashing_6 rfl ?_
  refine hb_getI (q := 12) (v := M.1 3 2) hc fl_X8_152 sh3 sl3 rfl rfl dd_X8_clashing_9 rfl ?_
  refine hb_callVi (q := 15) (vs := [.int v1, .int (M.1 3 2)]) (st := []) hc mv_X8_155 h sh13 sl13 rfl rfl rfl (Nat.le_of_ble_eq_true rfl) ⟨Nat.le_refl _, Nat.le_refl _⟩ ⟨Nat.le_refl _, Nat.le_refl _⟩ dd_X8_clashing_12 rfl (fun r1 M1 h => ?_)
  refine hb_istore_n (q := 16) (lv' := [some (.ref 0), some (.int v1), some (.int r1), none, none, none]) hc dd_X8_clashing_15 rfl (Nat.le_of_ble_eq_true rfl) rfl ?_
  refine hb_iconst (q := 17) (v := 0) hc dd_X8_clashing_16 rfl ic_0 ?_
  refine hb_istore_n (q := 18) (lv' := [some (.ref 0), some (.int v1), some (.int r1), some (.int 0), none, none]) hc dd_X8_clashing_17 rfl (Nat.le_of_ble_eq_true rfl) rfl ?_
  refine hb_iconst (q := 19) (v := 0) hc dd_X8_clashing_18 rfl ic_0 ?_
  refine hb_istore (q := 21) (lv' := [some (.ref 0), some (.int v1), some (.int r1), some (.int 0), some (.int 0), none]) hc dd_X8_clashing_19 rfl (Nat.le_of_ble_eq_true rfl) rfl ?_
  exact hb_weak (lvs (lvs (lvs (lvs (lvs (lvn lvz)))))) (h p l e s m args below meth c G hc)
theorem w_X8_like {d : Nat} {M : Mm} {v1 : Int32} {v2 : Int32} {v3 : Int32} {K : Int32 → Mm → Prop}  (h : ACi d X0_hasRhythm [.ref 3, .int v1] M (fun r1 M1 => (r1 = 0 → (K (-2) M1)) ∧ (¬ r1 = 0 → (ACi d X0_hasRhythm [.ref 3, .int v2] M1 (fun r2 M2 => (¬ r2 = 0 → ((v3 < 0 → (K (-3) M2)) ∧ (¬ v3 < 0 → ((v3 ≤ 1 → (ACi d X0_areSuch [.ref 3, .int v1, .int v2, .int v3] M2 (fun r3 M3 => (r3 = 0 → (K 0 M3)) ∧ (¬ r3 = 0 → (K 1 M3))))) ∧ (¬ v3 ≤ 1 → (K (-3) M2)))))) ∧ (r2 = 0 → (K (-2) M2))))))) : ACi (d + 1) X8_like [.ref 0, .int v1, .int v2, .int v3] M K := by
  refine AC.ofW (lv := [some (.ref 0), some (.int v1), some (.int v2), some (.int v3)]) pn_X8 (Nat.le_of_ble_eq_true rfl) (show lvLe _ [some (.ref 0), some (.int v1), some (.int v2), some (.int v3)] from (lvs (lvs (lvs (lvs lvz))))) ?_
  intro p l e s m args below meth c G hc
  refine hb_aload_n (q := 1) hc dd_X8_like_0 rfl rfl ?_
  refine hb_getR (q := 4) hc fl_X8_19 sh0 sl0 rfl dd_X8_like_1 rfl ?_
  refine hb_iload_n (q := 5) hc dd_X8_like_4 rfl rfl ?_
  refine hb_callVi (q := 8) (vs := [.int v1]) (st := []) hc mv_X8_119 h sh3 sl3 rfl rfl rfl (Nat.le_of_ble_eq_true rfl) ⟨Nat.le_refl _, Nat.le_refl _⟩ ⟨Nat.le_refl _, Nat.le_refl _⟩ dd_X8_like_5 rfl (fun r1 M1 h => ?_)
  refine hb_if_eq (q := 11) (tg := 22) hc dd_X8_like_8 rfl (by decide) (fun z => ?_) (fun z => ?_)
  · replace h := h.1 z
    refine hb_bipush (q := 24) (v := (-2)) hc dd_X8_like_22 rfl bp_m2 ?_
    exact hb_iret hc rfl dd_X8_like_24 h
  · replace h := h.2 z
    refine hb_aload_n (q := 12) hc dd_X8_like_11 rfl rfl ?_
    refine hb_getR (q := 15) hc fl_X8_19 sh0 sl0 rfl dd_X8_like_12 rfl ?_
    refine hb_iload_n (q := 16) hc dd_X8_like_15 rfl rfl ?_
    refine hb_callVi (q := 19) (vs := [.int v2]) (st := []) hc mv_X8_119 h sh3 sl3 rfl rfl rfl (Nat.le_of_ble_eq_true rfl) ⟨Nat.le_refl _, Nat.le_refl _⟩ ⟨Nat.le_refl _, Nat.le_refl _⟩ dd_X8_like_16 rfl (fun r2 M2 h => ?_)
    refine hb_if_ne (q := 22) (tg := 25) hc dd_X8_like_19 rfl (by decide) (fun z => ?_) (fun z => ?_)
    · replace h := h.1 z
      refine hb_iload_n (q := 26) hc dd_X8_like_25 rfl rfl ?_
      refine hb_if_lt (q := 29) (tg := 34) hc dd_X8_like_26 rfl (by decide) (fun z => ?_) (fun z => ?_)
      · replace h := h.1 z
        refine hb_bipush (q := 36) (v := (-3)) hc dd_X8_like_34 rfl bp_m3 ?_
        exact hb_iret hc rfl dd_X8_like_36 h
      · replace h := h.2 z
        refine hb_iload_n (q := 30) hc dd_X8_like_29 rfl rfl ?_
        refine hb_iconst (q := 31) (v := 1) hc dd_X8_like_30 rfl ic_1 ?_
        refine hb_icmp_le (q := 34) (tg := 37) hc dd_X8_like_31 rfl (by decide) (fun z => ?_) (fun z => ?_)
        · replace h := h.1 z
          refine hb_aload_n (q := 38) hc dd_X8_like_37 rfl rfl ?_
          refine hb_getR (q := 41) hc fl_X8_19 sh0 sl0 rfl dd_X8_like_38 rfl ?_
          refine hb_iload_n (q := 42) hc dd_X8_like_41 rfl rfl ?_
          refine hb_iload_n (q := 43) hc dd_X8_like_42 rfl rfl ?_
          refine hb_iload_n (q := 44) hc dd_X8_like_43 rfl rfl ?_
          refine hb_callVi (q := 47) (vs := [.int v1, .int v2, .int v3]) (st := []) hc mv_X8_162 h sh3 sl3 rfl rfl rfl (Nat.le_of_ble_eq_true rfl) ⟨Nat.le_refl _, Nat.le_refl _⟩ ⟨Nat.le_refl _, Nat.le_refl _⟩ dd_X8_like_44 rfl (fun r3 M3 h => ?_)
          refine hb_if_eq (q := 50) (tg := 54) hc dd_X8_like_47 rfl (by decide) (fun z => ?_) (fun z => ?_)
          · replace h := h.1 z
            refine hb_iconst (q := 55) (v := 0) hc dd_X8_like_54 rfl ic_0 ?_
            exact hb_iret hc rfl dd_X8_like_55 h
          · replace h := h.2 z
            refine hb_iconst (q := 51) (v := 1) hc dd_X8_like_50 rfl ic_1 ?_
            refine hb_goto (tg := 55) hc dd_X8_like_51 (by decide) ?_
            exact hb_iret hc rfl dd_X8_like_55 h
        · replace h := h.2 z
          refine hb_bipush (q := 36) (v := (-3)) hc dd_X8_like_34 rfl bp_m3 ?_
          exact hb_iret hc rfl dd_X8_like_36 h
    · replace h := h.2 z
      refine hb_bipush (q := 24) (v := (-2)) hc dd_X8_like_22 rfl bp_m2 ?_
      exact hb_iret hc rfl dd_X8_like_24 h
theorem w_X8_lit {d : Nat} {M : Mm} {v1 : Int32} {v2 : Int32} {K : Int32 → Mm → Prop}  (h : ACi d X2_hasLight [.ref 13, .int v1] M (fun r1 M1 => (r1 = 0 → (K (-2) M1)) ∧ (¬ r1 = 0 → (ACi d X0_hasRhythm [.ref 3, .int v2] M1 (fun r2 M2 => (¬ r2 = 0 → (vp_in v1 6 ∧ ((¬ (M2.1 15 v1.toNatClampNeg) = v2 → (ACv d X8_prepareChange [.ref 0, .int v1] M2 (fun M3 => vp_in v1 6 ∧ (K (M2.1 15 v1.toNatClampNeg) (wI M3 15 v1.toNatClampNeg v2))))) ∧ ((M2.1 15 v1.toNatClampNeg) = v2 → (K (-4) M2))))) ∧ (r2 = 0 → (K (-2) M2))))))) : ACi (d + 1) X8_lit [.ref 0, .int v1, .int v2] M K := by
  refine AC.ofW (lv := [some (.ref 0), some (.int v1), some (.int v2), none]) pn_X8 (Nat.le_of_ble_eq_true rfl) (show lvLe _ [some (.ref 0), some (.int v1), some (.int v2)] from (lvs (lvs (lvs (lve lvz))))) ?_
  intro p l e s m args below meth c G hc
  refine hb_aload_n (q := 1) hc dd_X8_lit_0 rfl rfl ?_
  refine hb_getR (q := 4) hc fl_X8_29 sh0 sl0 rfl dd_X8_lit_1 rfl ?_
  refine hb_iload_n (q := 5) hc dd_X8_lit_4 rfl rfl ?_
  refine hb_callVi (q := 8) (vs := [.int v1]) (st := []) hc mv_X8_143 h sh13 sl13 rfl rfl rfl (Nat.le_of_ble_eq_true rfl) ⟨Nat.le_refl _, Nat.le_refl _⟩ ⟨Nat.le_refl _, Nat.le_refl _⟩ dd_X8_lit_5 rfl (fun r1 M1 h => ?_)
  refine hb_if_eq (q := 11) (tg := 22) hc dd_X8_lit_8 rfl (by decide) (fun z => ?_) (fun z => ?_)
  · replace h := h.1 z
    refine hb_bipush (q := 24) (v := (-2)) hc dd_X8_lit_22 rfl bp_m2 ?_
    exact hb_iret hc rfl dd_X8_lit_24 h
  · replace h := h.2 z
    refine hb_aload_n (q := 12) hc dd_X8_lit_11 rfl rfl ?_
    refine hb_getR (q := 15) hc fl_X8_19 sh0 sl0 rfl dd_X8_lit_12 rfl ?_
    refine hb_iload_n (q := 16) hc dd_X8_lit_15 rfl rfl ?_
    refine hb_callVi (q := 19) (vs := [.int v2]) (st := []) hc mv_X8_119 h sh3 sl3 rfl rfl rfl (Nat.le_of_ble_eq_true rfl) ⟨Nat.le_refl _, Nat.le_refl _⟩ ⟨Nat.le_refl _, Nat.le_refl _⟩ dd_X8_lit_16 rfl (fun r2 M2 h => ?_)
    refine hb_if_ne (q := 22) (tg := 25) hc dd_X8_lit_19 rfl (by decide) (fun z => ?_) (fun z => ?_)
    · replace h := h.1 z
      refine hb_aload_n (q := 26) hc dd_X8_lit_25 rfl rfl ?_
      refine hb_getR (q := 29) hc fl_X8_29 sh0 sl0 rfl dd_X8_lit_26 rfl ?_
      refine hb_getR (q := 32) hc fl_X8_149 sh13 sl13 rfl dd_X8_lit_29 rfl ?_
      refine hb_iload_n (q := 33) hc dd_X8_lit_32 rfl rfl ?_
      obtain ⟨hi, h⟩ := h
      refine hb_iald (q := 34) (v := M2.1 15 v1.toNatClampNeg) hc sh15 sl15 hi rfl rfl dd_X8_lit_33 rfl ?_
      refine hb_istore_n (q := 35) (lv' := [some (.ref 0), some (.int v1), some (.int v2), some (.int (M2.1 15 v1.toNatClampNeg))]) hc dd_X8_lit_34 rfl (Nat.le_of_ble_eq_true rfl) rfl ?_
      refine hb_iload_n (q := 36) hc dd_X8_lit_35 rfl rfl ?_
      refine hb_iload_n (q := 37) hc dd_X8_lit_36 rfl rfl ?_
      refine hb_icmp_ne (q := 40) (tg := 43) hc dd_X8_lit_37 rfl (by decide) (fun z => ?_) (fun z => ?_)
      · replace h := h.1 z
        refine hb_aload_n (q := 44) hc dd_X8_lit_43 rfl rfl ?_
        refine hb_iload_n (q := 45) hc dd_X8_lit_44 rfl rfl ?_
        refine hb_callVv (q := 48) (vs := [.int v1]) (st := []) hc mv_X8_166 h sh0 sl0 rfl rfl rfl (Nat.le_of_ble_eq_true rfl) ⟨Nat.le_refl _, Nat.le_refl _⟩ ⟨Nat.le_refl _, Nat.le_refl _⟩ dd_X8_lit_45 rfl (fun M3 h => ?_)
        refine hb_aload_n (q := 49) hc dd_X8_lit_48 rfl rfl ?_
        refine hb_getR (q := 52) hc fl_X8_29 sh0 sl0 rfl dd_X8_lit_49 rfl ?_
        refine hb_getR (q := 55) hc fl_X8_149 sh13 sl13 rfl dd_X8_lit_52 rfl ?_
        refine hb_iload_n (q := 56) hc dd_X8_lit_55 rfl rfl ?_
        refine hb_iload_n (q := 57) hc dd_X8_lit_56 rfl rfl ?_
        obtain ⟨hi, h⟩ := h
        refine hb_iast (q := 58) hc sh15 sl15 hi rfl dd_X8_lit_57 rfl ?_
        refine hb_iload_n (q := 59) hc dd_X8_lit_58 rfl rfl ?_
        exact hb_iret hc rfl dd_X8_lit_59 h
      · replace h := h.2 z
        refine hb_bipush (q := 42) (v := (-4)) hc dd_X8_lit_40 rfl bp_m4 ?_
        exact hb_iret hc rfl dd_X8_lit_42 h
    · replace h := h.2 z
      refine hb_bipush (q := 24) (v := (-2)) hc dd_X8_lit_22 rfl bp_m2 ?_
      exact hb_iret hc rfl dd_X8_lit_24 h
theorem w_X8_dark {d : Nat} {M : Mm} {v1 : Int32} {K : Int32 → Mm → Prop}  (h : ACi d X2_hasLight [.ref 13, .int v1] M (fun r1 M1 => (¬ r1 = 0 → (vp_in v1 6 ∧ ((¬ (M1.1 15 v1.toNatClampNeg) = (-1) → (ACv d X8_prepareChange [.ref 0, .int v1] M1 (fun M2 => vp_in v1 6 ∧ (K (M1.1 15 v1.toNatClampNeg) (wI M2 15 v1.toNatClampNeg (-1)))))) ∧ ((M1.1 15 v1.toNatClampNeg) = (-1) → (K (-4) M1))))) ∧ (r1 = 0 → (K (-2) M1)))) : ACi (d + 1) X8_dark [.ref 0, .int v1] M K := by
  refine AC.ofW (lv := [some (.ref 0), some (.int v1), none]) pn_X8 (Nat.le_of_ble_eq_true rfl) (show lvLe _ [some (.ref 0), some (.int v1)] from (lvs (lvs (lve lvz)))) ?_
  intro p l e s m args below meth c G hc
  refine hb_aload_n (q := 1) hc dd_X8_dark_0 rfl rfl ?_
  refine hb_getR (q := 4) hc fl_X8_29 sh0 sl0 rfl dd_X8_dark_1 rfl ?_
  refine hb_iload_n (q := 5) hc dd_X8_dark_4 rfl rfl ?_
  refine hb_callVi (q := 8) (vs := [.int v1]) (st := []) hc mv_X8_143 h sh13 sl13 rfl rfl rfl (Nat.le_of_ble_eq_true rfl) ⟨Nat.le_refl _, Nat.le_refl _⟩ ⟨Nat.le_refl _, Nat.le_refl _⟩ dd_X8_dark_5 rfl (fun r1 M1 h => ?_)
  refine hb_if_ne (q := 11) (tg := 14) hc dd_X8_dark_8 rfl (by decide) (fun z => ?_) (fun z => ?_)
  · replace h := h.1 z
    refine hb_aload_n (q := 15) hc dd_X8_dark_14 rfl rfl ?_
    refine hb_getR (q := 18) hc fl_X8_29 sh0 sl0 rfl dd_X8_dark_15 rfl ?_
    refine hb_getR (q := 21) hc fl_X8_149 sh13 sl13 rfl dd_X8_dark_18 rfl ?_
    refine hb_iload_n (q := 22) hc dd_X8_dark_21 rfl rfl ?_
    obtain ⟨hi, h⟩ := h
    refine hb_iald (q := 23) (v := M1.1 15 v1.toNatClampNeg) hc sh15 sl15 hi rfl rfl dd_X8_dark_22 rfl ?_
    refine hb_istore_n (q := 24) (lv' := [some (.ref 0), some (.int v1), some (.int (M1.1 15 v1.toNatClampNeg))]) hc dd_X8_dark_23 rfl (Nat.le_of_ble_eq_true rfl) rfl ?_
    refine hb_iload_n (q := 25) hc dd_X8_dark_24 rfl rfl ?_
    refine hb_iconst (q := 26) (v := (-1)) hc dd_X8_dark_25 rfl ic_m1 ?_
    refine hb_icmp_ne (q := 29) (tg := 32) hc dd_X8_dark_26 rfl (by decide) (fun z => ?_) (fun z => ?_)
    · replace h := h.1 z
      refine hb_aload_n (q := 33) hc dd_X8_dark_32 rfl rfl ?_
      refine hb_iload_n (q := 34) hc dd_X8_dark_33 rfl rfl ?_
      refine hb_callVv (q := 37) (vs := [.int v1]) (st := []) hc mv_X8_166 h sh0 sl0 rfl rfl rfl (Nat.le_of_ble_eq_true rfl) ⟨Nat.le_refl _, Nat.le_refl _⟩ ⟨Nat.le_refl _, Nat.le_refl _⟩ dd_X8_dark_34 rfl (fun M2 h => ?_)
      refine hb_aload_n (q := 38) hc dd_X8_dark_37 rfl rfl ?_
      refine hb_getR (q := 41) hc fl_X8_29 sh0 sl0 rfl dd_X8_dark_38 rfl ?_
      refine hb_getR (q := 44) hc fl_X8_149 sh13 sl13 rfl dd_X8_dark_41 rfl ?_
      refine hb_iload_n (q := 45) hc dd_X8_dark_44 rfl rfl ?_
      refine hb_iconst (q := 46) (v := (-1)) hc dd_X8_dark_45 rfl ic_m1 ?_
      obtain ⟨hi, h⟩ := h
      refine hb_iast (q := 47) hc sh15 sl15 hi rfl dd_X8_dark_46 rfl ?_
      refine hb_iload_n (q := 48) hc dd_X8_dark_47 rfl rfl ?_
      exact hb_iret hc rfl dd_X8_dark_48 h
    · replace h := h.2 z
      refine hb_bipush (q := 31) (v := (-4)) hc dd_X8_dark_29 rfl bp_m4 ?_
      exact hb_iret hc rfl dd_X8_dark_31 h
  · replace h := h.2 z
    refine hb_bipush (q := 13) (v := (-2)) hc dd_X8_dark_11 rfl bp_m2 ?_
    exact hb_iret hc rfl dd_X8_dark_13 h
theorem w_X8_move {d : Nat} {M : Mm} {v1 : Int32} {v2 : Int32} {K : Int32 → Mm → Prop}  (h : ACi d X2_hasLight [.ref 13, .int v1] M (fun r1 M1 => (¬ r1 = 0 → (ACi d X8_isPlace [.int v2] M1 (fun r2 M2 => (¬ r2 = 0 → (vp_in v1 6 ∧ ((¬ (M2.1 14 v1.toNatClampNeg) = v2 → (ACv d X8_prepareChange [.ref 0, .int v1] M2 (fun M3 => vp_in v1 6 ∧ (K (M2.1 14 v1.toNatClampNeg) (wI M3 14 v1.toNatClampNeg v2))))) ∧ ((M2.1 14 v1.toNatClampNeg) = v2 → (K (-4) M2))))) ∧ (r2 = 0 → (K (-3) M2))))) ∧ (r1 = 0 → (K (-2) M1)))) : ACi (d + 1) X8_move [.ref 0, .int v1, .int v2] M K := by
  refine AC.ofW (lv := [some (.ref 0), some (.int v1), some (.int v2), none]) pn_X8 (Nat.le_of_ble_eq_true rfl) (show lvLe _ [some (.ref 0), some (.int v1), some (.int v2)] from (lvs (lvs (lvs (lve lvz))))) ?_
  intro p l e s m args below meth c G hc
  refine hb_aload_n (q := 1) hc dd_X8_move_0 rfl rfl ?_
  refine hb_getR (q := 4) hc fl_X8_29 sh0 sl0 rfl dd_X8_move_1 rfl ?_
  refine hb_iload_n (q := 5) hc dd_X8_move_4 rfl rfl ?_
  refine hb_callVi (q := 8) (vs := [.int v1]) (st := []) hc mv_X8_143 h sh13 sl13 rfl rfl rfl (Nat.le_of_ble_eq_true rfl) ⟨Nat.le_refl _, Nat.le_refl _⟩ ⟨Nat.le_refl _, Nat.le_refl _⟩ dd_X8_move_5 rfl (fun r1 M1 h => ?_)
  refine hb_if_ne (q := 11) (tg := 14) hc dd_X8_move_8 rfl (by decide) (fun z => ?_) (fun z => ?_)
  · replace h := h.1 z
    refine hb_iload_n (q := 15) hc dd_X8_move_14 rfl rfl ?_
    refine hb_callSi (q := 18) (vs := [.int v2]) (st := []) hc mv_X8_169 h rfl rfl (Nat.le_of_ble_eq_true rfl) ⟨Nat.le_refl _, Nat.le_refl _⟩ ⟨Nat.le_refl _, Nat.le_refl _⟩ dd_X8_move_15 rfl (fun r2 M2 h => ?_)
    refine hb_if_ne (q := 21) (tg := 24) hc dd_X8_move_18 rfl (by decide) (fun z => ?_) (fun z => ?_)
    · replace h := h.1 z
      refine hb_aload_n (q := 25) hc dd_X8_move_24 rfl rfl ?_
      refine hb_getR (q := 28) hc fl_X8_29 sh0 sl0 rfl dd_X8_move_25 rfl ?_
      refine hb_getR (q := 31) hc fl_X8_146 sh13 sl13 rfl dd_X8_move_28 rfl ?_
      refine hb_iload_n (q := 32) hc dd_X8_move_31 rfl rfl ?_
      obtain ⟨hi, h⟩ := h
      refine hb_iald (q := 33) (v := M2.1 14 v1.toNatClampNeg) hc sh14 sl14 hi rfl rfl dd_X8_move_32 rfl ?_
      refine hb_istore_n (q := 34) (lv' := [some (.ref 0), some (.int v1), some (.int v2), some (.int (M2.1 14 v1.toNatClampNeg))]) hc dd_X8_move_33 rfl (Nat.le_of_ble_eq_true rfl) rfl ?_
      refine hb_iload_n (q := 35) hc dd_X8_move_34 rfl rfl ?_
      refine hb_iload_n (q := 36) hc dd_X8_move_35 rfl rfl ?_
      refine hb_icmp_ne (q := 39) (tg := 42) hc dd_X8_move_36 rfl (by decide) (fun z => ?_) (fun z => ?_)
      · replace h := h.1 z
        refine hb_aload_n (q := 43) hc dd_X8_move_42 rfl rfl ?_
        refine hb_iload_n (q := 44) hc dd_X8_move_43 rfl rfl ?_
        refine hb_callVv (q := 47) (vs := [.int v1]) (st := []) hc mv_X8_166 h sh0 sl0 rfl rfl rfl (Nat.le_of_ble_eq_true rfl) ⟨Nat.le_refl _, Nat.le_refl _⟩ ⟨Nat.le_refl _, Nat.le_refl _⟩ dd_X8_move_44 rfl (fun M3 h => ?_)
        refine hb_aload_n (q := 48) hc dd_X8_move_47 rfl rfl ?_
        refine hb_getR (q := 51) hc fl_X8_29 sh0 sl0 rfl dd_X8_move_48 rfl ?_
        refine hb_getR (q := 54) hc fl_X8_146 sh13 sl13 rfl dd_X8_move_51 rfl ?_
        refine hb_iload_n (q := 55) hc dd_X8_move_54 rfl rfl ?_
        refine hb_iload_n (q := 56) hc dd_X8_move_55 rfl rfl ?_
        obtain ⟨hi, h⟩ := h
        refine hb_iast (q := 57) hc sh14 sl14 hi rfl dd_X8_move_56 rfl ?_
        refine hb_iload_n (q := 58) hc dd_X8_move_57 rfl rfl ?_
        exact hb_iret hc rfl dd_X8_move_58 h
      · replace h := h.2 z
        refine hb_bipush (q := 41) (v := (-4)) hc dd_X8_move_39 rfl bp_m4 ?_
        exact hb_iret hc rfl dd_X8_move_41 h
    · replace h := h.2 z
      refine hb_bipush (q := 23) (v := (-3)) hc dd_X8_move_21 rfl bp_m3 ?_
      exact hb_iret hc rfl dd_X8_move_23 h
  · replace h := h.2 z
    refine hb_bipush (q := 13) (v := (-2)) hc dd_X8_move_11 rfl bp_m2 ?_
    exact hb_iret hc rfl dd_X8_move_13 h
theorem w_X8_prepareChange {d : Nat} {M : Mm} {v1 : Int32} {K : Mm → Prop}  (h : ACv d X1_remember [.ref 22, .ref 13, .int v1] M (fun M1 => ACv d X7_end [.ref 34] M1 (fun M2 => K M2))) : ACv (d + 1) X8_prepareChange [.ref 0, .int v1] M K := by
  refine AC.ofW (lv := [some (.ref 0), some (.int v1)]) pn_X8 (Nat.le_of_ble_eq_true rfl) (show lvLe _ [some (.ref 0), some (.int v1)] from (lvs (lvs lvz))) ?_
  intro p l e s m args below meth c G hc
  refine hb_aload_n (q := 1) hc dd_X8_prepareChange_0 rfl rfl ?_
  refine hb_getR (q := 4) hc fl_X8_36 sh0 sl0 rfl dd_X8_prepareChange_1 rfl ?_
  refine hb_aload_n (q := 5) hc dd_X8_prepareChange_4 rfl rfl ?_
  refine hb_getR (q := 8) hc fl_X8_29 sh0 sl0 rfl dd_X8_prepareChange_5 rfl ?_
  refine hb_iload_n (q := 9) hc dd_X8_prepareChange_8 rfl rfl ?_
  refine hb_callVv (q := 12) (vs := [.ref 13, .int v1]) (st := []) hc mv_X8_172 h sh22 sl22 rfl rfl rfl (Nat.le_of_ble_eq_true rfl) ⟨Nat.le_refl _, Nat.le_refl _⟩ ⟨Nat.le_refl _, Nat.le_refl _⟩ dd_X8_prepareChange_9 rfl (fun M1 h => ?_)
  refine hb_aload_n (q := 13) hc dd_X8_prepareChange_12 rfl rfl ?_
  refine hb_getR (q := 16) hc fl_X8_63 sh0 sl0 rfl dd_X8_prepareChange_13 rfl ?_
  refine hb_callVv (q := 19) (vs := []) (st := []) hc mv_X8_102 h sh34 sl34 rfl rfl rfl (Nat.le_of_ble_eq_true rfl) ⟨Nat.le_refl _, Nat.le_refl _⟩ ⟨Nat.le_refl _, Nat.le_refl _⟩ dd_X8_prepareChange_16 rfl (fun M2 h => ?_)
  exact hb_vret hc rfl dd_X8_prepareChange_19 h
theorem w_X8_undo {d : Nat} {M : Mm}  {K : Int32 → Mm → Prop}  (h : (¬ (M.1 22 0) = 0 → (ACv d X1_takeBack [.ref 22, .ref 13] M (fun M1 => ACv d X7_end [.ref 34] M1 (fun M2 => K (M2.1 22 0) M2)))) ∧ ((M.1 22 0) = 0 → (K (-4) M))) : ACi (d + 1) X8_undo [.ref 0] M K := by
  refine AC.ofW (lv := [some (.ref 0)]) pn_X8 (Nat.le_of_ble_eq_true rfl) (show lvLe _ [some (.ref 0)] from (lvs lvz)) ?_
  intro p l e s m args below meth c G hc
  refine hb_aload_n (q := 1) hc dd_X8_undo_0 rfl rfl ?_
  refine hb_getR (q := 4) hc fl_X8_36 sh0 sl0 rfl dd_X8_undo_1 rfl ?_
  refine hb_getI (q := 7) (v := M.1 22 0) hc fl_X8_105 sh22 sl22 rfl rfl dd_X8_undo_4 rfl ?_
  refine hb_if_ne (q := 10) (tg := 13) hc dd_X8_undo_7 rfl (by decide) (fun z => ?_) (fun z => ?_)
  · replace h := h.1 z
    refine hb_aload_n (q := 14) hc dd_X8_undo_13 rfl rfl ?_
    refine hb_getR (q := 17) hc fl_X8_36 sh0 sl0 rfl dd_X8_undo_14 rfl ?_
    refine hb_aload_n (q := 18) hc dd_X8_undo_17 rfl rfl ?_
    refine hb_getR (q := 21) hc fl_X8_29 sh0 sl0 rfl dd_X8_undo_18 rfl ?_
    refine hb_callVv (q := 24) (vs := [.ref 13]) (st := []) hc mv_X8_176 h sh22 sl22 rfl rfl rfl (Nat.le_of_ble_eq_true rfl) ⟨Nat.le_refl _, Nat.le_refl _⟩ ⟨Nat.le_refl _, Nat.le_refl _⟩ dd_X8_undo_21 rfl (fun M1 h => ?_)
    refine hb_aload_n (q := 25) hc dd_X8_undo_24 rfl rfl ?_
    refine hb_getR (q := 28) hc fl_X8_63 sh0 sl0 rfl dd_X8_undo_25 rfl ?_
    refine hb_callVv (q := 31) (vs := []) (st := []) hc mv_X8_102 h sh34 sl34 rfl rfl rfl (Nat.le_of_ble_eq_true rfl) ⟨Nat.le_refl _, Nat.le_refl _⟩ ⟨Nat.le_refl _, Nat.le_refl _⟩ dd_X8_undo_28 rfl (fun M2 h => ?_)
    refine hb_aload_n (q := 32) hc dd_X8_undo_31 rfl rfl ?_
    refine hb_getR (q := 35) hc fl_X8_36 sh0 sl0 rfl dd_X8_undo_32 rfl ?_
    refine hb_getI (q := 38) (v := M2.1 22 0) hc fl_X8_105 sh22 sl22 rfl rfl dd_X8_undo_35 rfl ?_
    exact hb_iret hc rfl dd_X8_undo_38 h
  · replace h := h.2 z
    refine hb_bipush (q := 12) (v := (-4)) hc dd_X8_undo_10 rfl bp_m4 ?_
    exact hb_iret hc rfl dd_X8_undo_12 h
theorem w_X8_keep {d : Nat} {M : Mm} {v1 : Int32} {K : Int32 → Mm → Prop}  (h : ACr d X8_keptAt [.ref 0, .int v1] M (fun r1 M1 => (r1 = none → (K (-2) M1)) ∧ (∀ a1 : Nat, r1 = some a1 → isLi a1 ∧ (ACv d X2_become [.ref a1, .ref 13] M1 (fun M2 => ACi d X2_litOnes [.ref 13] (wI M2 a1 3 1) (fun r3 M3 => ACi d J6_bitCount_0f7a4 [.int r3] M3 (fun r4 M4 => K r4 M4))))))) : ACi (d + 1) X8_keep [.ref 0, .int v1] M K := by
  refine AC.ofW (lv := [some (.ref 0), some (.int v1), none]) pn_X8 (Nat.le_of_ble_eq_true rfl) (show lvLe _ [some (.ref 0), some (.int v1)] from (lvs (lvs (lve lvz)))) ?_
  intro p l e s m args below meth c G hc
  refine hb_aload_n (q := 1) hc dd_X8_keep_0 rfl rfl ?_
  refine hb_iload_n (q := 2) hc dd_X8_keep_1 rfl rfl ?_
  refine hb_callVr (q := 5) (vs := [.int v1]) (st := []) hc mv_X8_179 h sh0 sl0 rfl rfl rfl (Nat.le_of_ble_eq_true rfl) ⟨Nat.le_refl _, Nat.le_refl _⟩ ⟨Nat.le_refl _, Nat.le_refl _⟩ dd_X8_keep_2 rfl (fun M1 h => ?_) (fun a1 M1 h => ?_)
  · replace h := h.1 rfl
    refine hb_astore_nN (q := 6) (lv' := [some (.ref 0), some (.int v1), some (.null)]) hc dd_X8_keep_5 rfl (Nat.le_of_ble_eq_true rfl) rfl ?_
    refine hb_aload_nN (q := 7) hc dd_X8_keep_6 rfl rfl ?_
    refine hb_ifnonnullN (q := 10) hc dd_X8_keep_7 rfl ?_
    refine hb_bipush (q := 12) (v := (-2)) hc dd_X8_keep_10 rfl bp_m2 ?_
    exact hb_iret hc rfl dd_X8_keep_12 h
  · obtain ⟨ha1, h⟩ := h.2 a1 rfl
    refine hb_astore_n (q := 6) (lv' := [some (.ref 0), some (.int v1), some (.ref a1)]) hc dd_X8_keep_5 rfl (Nat.le_of_ble_eq_true rfl) rfl ?_
    refine hb_aload_n (q := 7) hc dd_X8_keep_6 rfl rfl ?_
    refine hb_ifnonnull (tg := 13) hc dd_X8_keep_7 (by decide) ?_
    refine hb_aload_n (q := 14) hc dd_X8_keep_13 rfl rfl ?_
    refine hb_aload_n (q := 15) hc dd_X8_keep_14 rfl rfl ?_
    refine hb_getR (q := 18) hc fl_X8_29 sh0 sl0 rfl dd_X8_keep_15 rfl ?_
    refine hb_callVv (q := 21) (vs := [.ref 13]) (st := []) hc mv_X8_93 h (li_s ha1) (li_l ha1) rfl rfl rfl (Nat.le_of_ble_eq_true rfl) ⟨Nat.le_refl _, Nat.le_refl _⟩ ⟨Nat.le_refl _, Nat.le_refl _⟩ dd_X8_keep_18 rfl (fun M2 h => ?_)
    refine hb_aload_n (q := 22) hc dd_X8_keep_21 rfl rfl ?_
    refine hb_iconst (q := 23) (v := 1) hc dd_X8_keep_22 rfl ic_1 ?_
    refine hb_putZ (q := 26) hc fl_X8_108 (li_s ha1) (li_l ha1) rfl (by decide) dd_X8_keep_23 rfl ?_
    refine hb_aload_n (q := 27) hc dd_X8_keep_26 rfl rfl ?_
    refine hb_getR (q := 30) hc fl_X8_29 sh0 sl0 rfl dd_X8_keep_27 rfl ?_
    refine hb_callVi (q := 33) (vs := []) (st := []) hc mv_X8_183 h sh13 sl13 rfl rfl rfl (Nat.le_of_ble_eq_true rfl) ⟨Nat.le_refl _, Nat.le_refl _⟩ ⟨Nat.le_refl _, Nat.le_refl _⟩ dd_X8_keep_30 rfl (fun r3 M3 h => ?_)
    refine hb_callSi (q := 36) (vs := [.int r3]) (st := []) hc mv_X8_138 h rfl rfl (Nat.le_of_ble_eq_true rfl) ⟨Nat.le_refl _, Nat.le_refl _⟩ ⟨Nat.le_refl _, Nat.le_refl _⟩ dd_X8_keep_33 rfl (fun r4 M4 h => ?_)
    exact hb_iret hc rfl dd_X8_keep_36 h
theorem w_X8_back {d : Nat} {M : Mm} {v1 : Int32} {K : Int32 → Mm → Prop}  (h : ACr d X8_keptAt [.ref 0, .int v1] M (fun r1 M1 => (r1 = none → (K (-2) M1)) ∧ (∀ a1 : Nat, r1 = some a1 → isLi a1 ∧ ((¬ (M1.1 a1 3) = 0 → (ACv d X2_become [.ref 13, .ref a1] M1 (fun M2 => ACv d X7_end [.ref 34] (wI M2 22 0 0) (fun M3 => ACi d X2_litOnes [.ref 13] M3 (fun r4 M4 => ACi d J6_bitCount_0f7a4 [.int r4] M4 (fun r5 M5 => K r5 M5)))))) ∧ ((M1.1 a1 3) = 0 → (K (-4) M1)))))) : ACi (d + 1) X8_back [.ref 0, .int v1] M K := by
  refine AC.ofW (lv := [some (.ref 0), some (.int v1), none]) pn_X8 (Nat.le_of_ble_eq_true rfl) (show lvLe _ [some (.ref 0), some (.int v1)] from (lvs (lvs (lve lvz)))) ?_
  intro p l e s m args below meth c G hc
  refine hb_aload_n (q := 1) hc dd_X8_back_0 rfl rfl ?_
  refine hb_iload_n (q := 2) hc dd_X8_back_1 rfl rfl ?_
  refine hb_callVr (q := 5) (vs := [.int v1]) (st := []) hc mv_X8_179 h sh0 sl0 rfl rfl rfl (Nat.le_of_ble_eq_true rfl) ⟨Nat.le_refl _, Nat.le_refl _⟩ ⟨Nat.le_refl _, Nat.le_refl _⟩ dd_X8_back_2 rfl (fun M1 h => ?_) (fun a1 M1 h => ?_)
  · replace h := h.1 rfl
    refine hb_astore_nN (q := 6) (lv' := [some (.ref 0), some (.int v1), some (.null)]) hc dd_X8_back_5 rfl (Nat.le_of_ble_eq_true rfl) rfl ?_
    refine hb_aload_nN (q := 7) hc dd_X8_back_6 rfl rfl ?_
    refine hb_ifnonnullN (q := 10) hc dd_X8_back_7 rfl ?_
    refine hb_bipush (q := 12) (v := (-2)) hc dd_X8_back_10 rfl bp_m2 ?_
    exact hb_iret hc rfl dd_X8_back_12 h
  · obtain ⟨ha1, h⟩ := h.2 a1 rfl
    refine hb_astore_n (q := 6) (lv' := [some (.ref 0), some (.int v1), some (.ref a1)]) hc dd_X8_back_5 rfl (Nat.le_of_ble_eq_true rfl) rfl ?_
    refine hb_aload_n (q := 7) hc dd_X8_back_6 rfl rfl ?_
    refine hb_ifnonnull (tg := 13) hc dd_X8_back_7 (by decide) ?_
    refine hb_aload_n (q := 14) hc dd_X8_back_13 rfl rfl ?_
    refine hb_getI (q := 17) (v := M1.1 a1 3) hc fl_X8_108 (li_s ha1) (li_l ha1) rfl rfl dd_X8_back_14 rfl ?_
    refine hb_if_ne (q := 20) (tg := 23) hc dd_X8_back_17 rfl (by decide) (fun z => ?_) (fun z => ?_)
    · replace h := h.1 z
      refine hb_aload_n (q := 24) hc dd_X8_back_23 rfl rfl ?_
      refine hb_getR (q := 27) hc fl_X8_29 sh0 sl0 rfl dd_X8_back_24 rfl ?_
      refine hb_aload_n (q := 28) hc dd_X8_back_27 rfl rfl ?_
      refine hb_callVv (q := 31) (vs := [.ref a1]) (st := []) hc mv_X8_93 h sh13 sl13 rfl rfl rfl (Nat.le_of_ble_eq_true rfl) ⟨Nat.le_refl _, Nat.le_refl _⟩ ⟨Nat.le_refl _, Nat.le_refl _⟩ dd_X8_back_28 rfl (fun M2 h => ?_)
      refine hb_aload_n (q := 32) hc dd_X8_back_31 rfl rfl ?_
      refine hb_getR (q := 35) hc fl_X8_36 sh0 sl0 rfl dd_X8_back_32 rfl ?_
      refine hb_iconst (q := 36) (v := 0) hc dd_X8_back_35 rfl ic_0 ?_
      refine hb_putI (q := 39) hc fl_X8_105 sh22 sl22 rfl dd_X8_back_36 rfl ?_
      refine hb_aload_n (q := 40) hc dd_X8_back_39 rfl rfl ?_
      refine hb_getR (q := 43) hc fl_X8_63 sh0 sl0 rfl dd_X8_back_40 rfl ?_
      refine hb_callVv (q := 46) (vs := []) (st := []) hc mv_X8_102 h sh34 sl34 rfl rfl rfl (Nat.le_of_ble_eq_true rfl) ⟨Nat.le_refl _, Nat.le_refl _⟩ ⟨Nat.le_refl _, Nat.le_refl _⟩ dd_X8_back_43 rfl (fun M3 h => ?_)
      refine hb_aload_n (q := 47) hc dd_X8_back_46 rfl rfl ?_
      refine hb_getR (q := 50) hc fl_X8_29 sh0 sl0 rfl dd_X8_back_47 rfl ?_
      refine hb_callVi (q := 53) (vs := []) (st := []) hc mv_X8_183 h sh13 sl13 rfl rfl rfl (Nat.le_of_ble_eq_true rfl) ⟨Nat.le_refl _, Nat.le_refl _⟩ ⟨Nat.le_refl _, Nat.le_refl _⟩ dd_X8_back_50 rfl (fun r4 M4 h => ?_)
      refine hb_callSi (q := 56) (vs := [.int r4]) (st := []) hc mv_X8_138 h rfl rfl (Nat.le_of_ble_eq_true rfl) ⟨Nat.le_refl _, Nat.le_refl _⟩ ⟨Nat.le_refl _, Nat.le_refl _⟩ dd_X8_back_53 rfl (fun r5 M5 h => ?_)
      exact hb_iret hc rfl dd_X8_back_56 h
    · replace h := h.2 z
      refine hb_bipush (q := 22) (v := (-4)) hc dd_X8_back_20 rfl bp_m4 ?_
      exact hb_iret hc rfl dd_X8_back_22 h
theorem w_X8_keptAt {d : Nat} {M : Mm} {v1 : Int32} {K : Option Nat → Mm → Prop}  (h : (¬ v1 = 0 → ((¬ v1 = 1 → (K none M)) ∧ (v1 = 1 → (K (some 19) M)))) ∧ (v1 = 0 → (K (some 16) M))) : ACr (d + 1) X8_keptAt [.ref 0, .int v1] M K := by
  refine AC.ofW (lv := [some (.ref 0), some (.int v1)]) pn_X8 (Nat.le_of_ble_eq_true rfl) (show lvLe _ [some (.ref 0), some (.int v1)] from (lvs (lvs lvz))) ?_
  intro p l e s m args below meth c G hc
  refine hb_iload_n (q := 1) hc dd_X8_keptAt_0 rfl rfl ?_
  refine hb_if_ne (q := 4) (tg := 9) hc dd_X8_keptAt_1 rfl (by decide) (fun z => ?_) (fun z => ?_)
  · replace h := h.1 z
    refine hb_iload_n (q := 10) hc dd_X8_keptAt_9 rfl rfl ?_
    refine hb_iconst (q := 11) (v := 1) hc dd_X8_keptAt_10 rfl ic_1 ?_
    refine hb_icmp_ne (q := 14) (tg := 21) hc dd_X8_keptAt_11 rfl (by decide) (fun z => ?_) (fun z => ?_)
    · replace h := h.1 z
      refine hb_null (q := 22) hc dd_X8_keptAt_21 rfl ?_
      exact hb_aretN hc rfl dd_X8_keptAt_22 h
    · replace h := h.2 z
      refine hb_aload_n (q := 15) hc dd_X8_keptAt_14 rfl rfl ?_
      refine hb_getR (q := 18) hc fl_X8_43 sh0 sl0 rfl dd_X8_keptAt_15 rfl ?_
      refine hb_goto (tg := 22) hc dd_X8_keptAt_18 (by decide) ?_
      exact hb_aret hc rfl dd_X8_keptAt_22 h
  · replace h := h.2 z
    refine hb_aload_n (q := 5) hc dd_X8_keptAt_4 rfl rfl ?_
    refine hb_getR (q := 8) hc fl_X8_40 sh0 sl0 rfl dd_X8_keptAt_5 rfl ?_
    exact hb_aret hc rfl dd_X8_keptAt_8 h
theorem w_X8_plan {d : Nat} {M : Mm} {v1 : Int32} {v2 : Int32} {K : Int32 → Mm → Prop}  (h : (v2 = (-1) → ((v1 < 0 → (K (-3) M)) ∧ (¬ v1 < 0 → ((v1 ≤ 1 → (ACi d X4_makePlan [.ref 26, .ref 3, .ref 13, .int v1] M (fun r1 M1 => (¬ r1 = 0 → ((¬ v2 = (-1) → (vp_in v2 6 ∧ (K (M1.1 27 v2.toNatClampNeg) M1))) ∧ (v2 = (-1) → (K (M1.1 26 0) M1)))) ∧ (r1 = 0 → (K (-1) M1))))) ∧ (¬ v1 ≤ 1 → (K (-3) M)))))) ∧ (¬ v2 = (-1) → (ACi d X2_hasLight [.ref 13, .int v2] M (fun r2 M2 => (¬ r2 = 0 → ((v1 < 0 → (K (-3) M2)) ∧ (¬ v1 < 0 → ((v1 ≤ 1 → (ACi d X4_makePlan [.ref 26, .ref 3, .ref 13, .int v1] M2 (fun r3 M3 => (¬ r3 = 0 → ((¬ v2 = (-1) → (vp_in v2 6 ∧ (K (M3.1 27 v2.toNatClampNeg) M3))) ∧ (v2 = (-1) → (K (M3.1 26 0) M3)))) ∧ (r3 = 0 → (K (-1) M3))))) ∧ (¬ v1 ≤ 1 → (K (-3) M2)))))) ∧ (r2 = 0 → (K (-2) M2)))))) : ACi (d + 1) X8_plan [.ref 0, .int v1, .int v2] M K := by
  refine AC.ofW (lv := [some (.ref 0), some (.int v1), some (.int v2)]) pn_X8 (Nat.le_of_ble_eq_true rfl) (show lvLe _ [some (.ref 0), some (.int v1), some (.int v2)] from (lvs (lvs (lvs lvz)))) ?_
  intro p l e s m args below meth c G hc
  refine hb_iload_n (q := 1) hc dd_X8_plan_0 rfl rfl ?_
  refine hb_iconst (q := 2) (v := (-1)) hc dd_X8_plan_1 rfl ic_m1 ?_
  refine hb_icmp_eq (q := 5) (tg := 19) hc dd_X8_plan_2 rfl (by decide) (fun z => ?_) (fun z => ?_)
  · replace h := h.1 z
    refine hb_iload_n (q := 20) hc dd_X8_plan_19 rfl rfl ?_
    refine hb_if_lt (q := 23) (tg := 28) hc dd_X8_plan_20 rfl (by decide) (fun z => ?_) (fun z => ?_)
    · replace h := h.1 z
      refine hb_bipush (q := 30) (v := (-3)) hc dd_X8_plan_28 rfl bp_m3 ?_
      exact hb_iret hc rfl dd_X8_plan_30 h
    · replace h := h.2 z
      refine hb_iload_n (q := 24) hc dd_X8_plan_23 rfl rfl ?_
      refine hb_iconst (q := 25) (v := 1) hc dd_X8_plan_24 rfl ic_1 ?_
      refine hb_icmp_le (q := 28) (tg := 31) hc dd_X8_plan_25 rfl (by decide) (fun z => ?_) (fun z => ?_)
      · replace h := h.1 z
        refine hb_aload_n (q := 32) hc dd_X8_plan_31 rfl rfl ?_
        refine hb_getR (q := 35) hc fl_X8_49 sh0 sl0 rfl dd_X8_plan_32 rfl ?_
        refine hb_aload_n (q := 36) hc dd_X8_plan_35 rfl rfl ?_
        refine hb_getR (q := 39) hc fl_X8_19 sh0 sl0 rfl dd_X8_plan_36 rfl ?_
        refine hb_aload_n (q := 40) hc dd_X8_plan_39 rfl rfl ?_
        refine hb_getR (q := 43) hc fl_X8_29 sh0 sl0 rfl dd_X8_plan_40 rfl ?_
        refine hb_iload_n (q := 44) hc dd_X8_plan_43 rfl rfl ?_
        refine hb_callVi (q := 47) (vs := [.ref 3, .ref 13, .int v1]) (st := []) hc mv_X8_187 h sh26 sl26 rfl rfl rfl (Nat.le_of_ble_eq_true rfl) ⟨Nat.le_refl _, Nat.le_refl _⟩ ⟨Nat.le_refl _, Nat.le_refl _⟩ dd_X8_plan_44 rfl (fun r1 M1 h => ?_)
        refine hb_if_ne (q := 50) (tg := 52) hc dd_X8_plan_47 rfl (by decide) (fun z => ?_) (fun z => ?_)
        · replace h := h.1 z
          refine hb_iload_n (q := 53) hc dd_X8_plan_52 rfl rfl ?_
          refine hb_iconst (q := 54) (v := (-1)) hc dd_X8_plan_53 rfl ic_m1 ?_
          refine hb_icmp_ne (q := 57) (tg := 67) hc dd_X8_plan_54 rfl (by decide) (fun z => ?_) (fun z => ?_)
          · replace h := h.1 z
            refine hb_aload_n (q := 68) hc dd_X8_plan_67 rfl rfl ?_
            refine hb_getR (q := 71) hc fl_X8_49 sh0 sl0 rfl dd_X8_plan_68 rfl ?_
            refine hb_getR (q := 74) hc fl_X8_194 sh26 sl26 rfl dd_X8_plan_71 rfl ?_
            refine hb_iload_n (q := 75) hc dd_X8_plan_74 rfl rfl ?_
            obtain ⟨hi, h⟩ := h
            refine hb_iald (q := 76) (v := M1.1 27 v2.toNatClampNeg) hc sh27 sl27 hi rfl rfl dd_X8_plan_75 rfl ?_
            exact hb_iret hc rfl dd_X8_plan_76 h
          · replace h := h.2 z
            refine hb_aload_n (q := 58) hc dd_X8_plan_57 rfl rfl ?_
            refine hb_getR (q := 61) hc fl_X8_49 sh0 sl0 rfl dd_X8_plan_58 rfl ?_
            refine hb_getI (q := 64) (v := M1.1 26 0) hc fl_X8_191 sh26 sl26 rfl rfl dd_X8_plan_61 rfl ?_
            refine hb_goto (tg := 76) hc dd_X8_plan_64 (by decide) ?_
            exact hb_iret hc rfl dd_X8_plan_76 h
        · replace h := h.2 z
          refine hb_iconst (q := 51) (v := (-1)) hc dd_X8_plan_50 rfl ic_m1 ?_
          exact hb_iret hc rfl dd_X8_plan_51 h
      · replace h := h.2 z
        refine hb_bipush (q := 30) (v := (-3)) hc dd_X8_plan_28 rfl bp_m3 ?_
        exact hb_iret hc rfl dd_X8_plan_30 h
  · replace h := h.2 z
    refine hb_aload_n (q := 6) hc dd_X8_plan_5 rfl rfl ?_
    refine hb_getR (q := 9) hc fl_X8_29 sh0 sl0 rfl dd_X8_plan_6 rfl ?_
    refine hb_iload_n (q := 10) hc dd_X8_plan_9 rfl rfl ?_
    refine hb_callVi (q := 13) (vs := [.int v2]) (st := []) hc mv_X8_143 h sh13 sl13 rfl rfl rfl (Nat.le_of_ble_eq_true rfl) ⟨Nat.le_refl _, Nat.le_refl _⟩ ⟨Nat.le_refl _, Nat.le_refl _⟩ dd_X8_plan_10 rfl (fun r2 M2 h => ?_)
    refine hb_if_ne (q := 16) (tg := 19) hc dd_X8_plan_13 rfl (by decide) (fun z => ?_) (fun z => ?_)
    · replace h := h.1 z
      refine hb_iload_n (q := 20) hc dd_X8_plan_19 rfl rfl ?_
      refine hb_if_lt (q := 23) (tg := 28) hc dd_X8_plan_20 rfl (by decide) (fun z => ?_) (fun z => ?_)
      · replace h := h.1 z
        refine hb_bipush (q := 30) (v := (-3)) hc dd_X8_plan_28 rfl bp_m3 ?_
        exact hb_iret hc rfl dd_X8_plan_30 h
      · replace h := h.2 z
        refine hb_iload_n (q := 24) hc dd_X8_plan_23 rfl rfl ?_
        refine hb_iconst (q := 25) (v := 1) hc dd_X8_plan_24 rfl ic_1 ?_
        refine hb_icmp_le (q := 28) (tg := 31) hc dd_X8_plan_25 rfl (by decide) (fun z => ?_) (fun z => ?_)
        · replace h := h.1 z
          refine hb_aload_n (q := 32) hc dd_X8_plan_31 rfl rfl ?_
          refine hb_getR (q := 35) hc fl_X8_49 sh0 sl0 rfl dd_X8_plan_32 rfl ?_
          refine hb_aload_n (q := 36) hc dd_X8_plan_35 rfl rfl ?_
          refine hb_getR (q := 39) hc fl_X8_19 sh0 sl0 rfl dd_X8_plan_36 rfl ?_
          refine hb_aload_n (q := 40) hc dd_X8_plan_39 rfl rfl ?_
          refine hb_getR (q := 43) hc fl_X8_29 sh0 sl0 rfl dd_X8_plan_40 rfl ?_
          refine hb_iload_n (q := 44) hc dd_X8_plan_43 rfl rfl ?_
          refine hb_callVi (q := 47) (vs := [.ref 3, .ref 13, .int v1]) (st := []) hc mv_X8_187 h sh26 sl26 rfl rfl rfl (Nat.le_of_ble_eq_true rfl) ⟨Nat.le_refl _, Nat.le_refl _⟩ ⟨Nat.le_refl _, Nat.le_refl _⟩ dd_X8_plan_44 rfl (fun r3 M3 h => ?_)
          refine hb_if_ne (q := 50) (tg := 52) hc dd_X8_plan_47 rfl (by decide) (fun z => ?_) (fun z => ?_)
          · replace h := h.1 z
            refine hb_iload_n (q := 53) hc dd_X8_plan_52 rfl rfl ?_
            refine hb_iconst (q := 54) (v := (-1)) hc dd_X8_plan_53 rfl ic_m1 ?_
            refine hb_icmp_ne (q := 57) (tg := 67) hc dd_X8_plan_54 rfl (by decide) (fun z => ?_) (fun z => ?_)
            · replace h := h.1 z
              refine hb_aload_n (q := 68) hc dd_X8_plan_67 rfl rfl ?_
              refine hb_getR (q := 71) hc fl_X8_49 sh0 sl0 rfl dd_X8_plan_68 rfl ?_
              refine hb_getR (q := 74) hc fl_X8_194 sh26 sl26 rfl dd_X8_plan_71 rfl ?_
              refine hb_iload_n (q := 75) hc dd_X8_plan_74 rfl rfl ?_
              obtain ⟨hi, h⟩ := h
              refine hb_iald (q := 76) (v := M3.1 27 v2.toNatClampNeg) hc sh27 sl27 hi rfl rfl dd_X8_plan_75 rfl ?_
              exact hb_iret hc rfl dd_X8_plan_76 h
            · replace h := h.2 z
              refine hb_aload_n (q := 58) hc dd_X8_plan_57 rfl rfl ?_
              refine hb_getR (q := 61) hc fl_X8_49 sh0 sl0 rfl dd_X8_plan_58 rfl ?_
              refine hb_getI (q := 64) (v := M3.1 26 0) hc fl_X8_191 sh26 sl26 rfl rfl dd_X8_plan_61 rfl ?_
              refine hb_goto (tg := 76) hc dd_X8_plan_64 (by decide) ?_
              exact hb_iret hc rfl dd_X8_plan_76 h
          · replace h := h.2 z
            refine hb_iconst (q := 51) (v := (-1)) hc dd_X8_plan_50 rfl ic_m1 ?_
            exact hb_iret hc rfl dd_X8_plan_51 h
        · replace h := h.2 z
          refine hb_bipush (q := 30) (v := (-3)) hc dd_X8_plan_28 rfl bp_m3 ?_
          exact hb_iret hc rfl dd_X8_plan_30 h
    · replace h := h.2 z
      refine hb_bipush (q := 18) (v := (-2)) hc dd_X8_plan_16 rfl bp_m2 ?_
      exact hb_iret hc rfl dd_X8_plan_18 h
