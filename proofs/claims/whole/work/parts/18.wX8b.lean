/-! WALKS, by program (wip/whole/gen6.py). -/
theorem w_X8_most {d : Nat} {M : Mm} {v1 : Int32} {K : Int32 → Mm → Prop}  (h : (v1 < 0 → (K (-3) M)) ∧ (¬ v1 < 0 → ((v1 ≤ 1 → (ACi d X4_greatestUnlikeSet [.ref 26, .ref 3, .int v1] M (fun r1 M1 => K r1 M1))) ∧ (¬ v1 ≤ 1 → (K (-3) M))))) : ACi (d + 1) X8_most [.ref 0, .int v1] M K := by
  refine AC.ofW (lv := [some (.ref 0), some (.int v1)]) pn_X8 (Nat.le_of_ble_eq_true rfl) (show lvLe _ [some (.ref 0), some (.int v1)] from (lvs (lvs lvz))) ?_
  intro p l e s m args below meth c G hc
  refine hb_iload_n (q := 1) hc dd_X8_most_0 rfl rfl ?_
  refine hb_if_lt (q := 4) (tg := 9) hc dd_X8_most_1 rfl (by decide) (fun z => ?_) (fun z => ?_)
  · replace h := h.1 z
    refine hb_bipush (q := 11) (v := (-3)) hc dd_X8_most_9 rfl bp_m3 ?_
    exact hb_iret hc rfl dd_X8_most_11 h
  · replace h := h.2 z
    refine hb_iload_n (q := 5) hc dd_X8_most_4 rfl rfl ?_
    refine hb_iconst (q := 6) (v := 1) hc dd_X8_most_5 rfl ic_1 ?_
    refine hb_icmp_le (q := 9) (tg := 12) hc dd_X8_most_6 rfl (by decide) (fun z => ?_) (fun z => ?_)
    · replace h := h.1 z
      refine hb_aload_n (q := 13) hc dd_X8_most_12 rfl rfl ?_
      refine hb_getR (q := 16) hc fl_X8_49 sh0 sl0 rfl dd_X8_most_13 rfl ?_
      refine hb_aload_n (q := 17) hc dd_X8_most_16 rfl rfl ?_
      refine hb_getR (q := 20) hc fl_X8_19 sh0 sl0 rfl dd_X8_most_17 rfl ?_
      refine hb_iload_n (q := 21) hc dd_X8_most_20 rfl rfl ?_
      refine hb_callVi (q := 24) (vs := [.ref 3, .int v1]) (st := []) hc mv_X8_197 h sh26 sl26 rfl rfl rfl (Nat.le_of_ble_eq_true rfl) ⟨Nat.le_refl _, Nat.le_refl _⟩ ⟨Nat.le_refl _, Nat.le_refl _⟩ dd_X8_most_21 rfl (fun r1 M1 h => ?_)
      exact hb_iret hc rfl dd_X8_most_24 h
    · replace h := h.2 z
      refine hb_bipush (q := 11) (v := (-3)) hc dd_X8_most_9 rfl bp_m3 ?_
      exact hb_iret hc rfl dd_X8_most_11 h
def lp_X8_apart_27 (d : Nat) (M : Mm) (v1 : Int32) (v2 : Int32) (v3 : Int32) (K : Int32 → Mm → Prop) : Prop := AW (d + 1) X8_apart M 27 [some (.ref 0), some (.int v1), some (.int v2), some (.int v3)] [] (QI K)
theorem z_X8_apart_27 {d : Nat} {M : Mm} {v1 : Int32} {v2 : Int32} {v3 : Int32} {K : Int32 → Mm → Prop}  (h : ((M.1 3 0) < v3 → (K (-1) M)) ∧ (¬ (M.1 3 0) < v3 → (ACi d X0_shareRow [.ref 3, .int v1, .int v2, .int v3, .int 0] M (fun r1 M1 => (¬ r1 = 0 → (lp_X8_apart_27 d M1 v1 v2 (v3 + 1) K)) ∧ (r1 = 0 → (K v3 M1)))))) : lp_X8_apart_27 d M v1 v2 v3 K := by
  intro p l e s m args below meth c G hc
  refine hb_iload_n (q := 28) hc dd_X8_apart_27 rfl rfl ?_
  refine hb_aload_n (q := 29) hc dd_X8_apart_28 rfl rfl ?_
  refine hb_getR (q := 32) hc fl_X8_19 sh0 sl0 rfl dd_X8_apart_29 rfl ?_
  refine hb_getI (q := 35) (v := M.1 3 0) hc fl_X8_201 sh3 sl3 rfl rfl dd_X8_apart_32 rfl ?_
  refine hb_icmp_gt (q := 38) (tg := 60) hc dd_X8_apart_35 rfl (by decide) (fun z => ?_) (fun z => ?_)
  · replace h := h.1 z
    refine hb_iconst (q := 61) (v := (-1)) hc dd_X8_apart_60 rfl ic_m1 ?_
    exact hb_iret hc rfl dd_X8_apart_61 h
  · replace h := h.2 z
    refine hb_aload_n (q := 39) hc dd_X8_apart_38 rfl rfl ?_
    refine hb_getR (q := 42) hc fl_X8_19 sh0 sl0 rfl dd_X8_apart_39 rfl ?_
    refine hb_iload_n (q := 43) hc dd_X8_apart_42 rfl rfl ?_
    refine hb_iload_n (q := 44) hc dd_X8_apart_43 rfl rfl ?_
    refine hb_iload_n (q := 45) hc dd_X8_apart_44 rfl rfl ?_
    refine hb_iconst (q := 46) (v := 0) hc dd_X8_apart_45 rfl ic_0 ?_
    refine hb_callVi (q := 49) (vs := [.int v1, .int v2, .int v3, .int 0]) (st := []) hc mv_X8_204 h sh3 sl3 rfl rfl rfl (Nat.le_of_ble_eq_true rfl) ⟨Nat.le_refl _, Nat.le_refl _⟩ ⟨Nat.le_refl _, Nat.le_refl _⟩ dd_X8_apart_46 rfl (fun r1 M1 h => ?_)
    refine hb_if_ne (q := 52) (tg := 54) hc dd_X8_apart_49 rfl (by decide) (fun z => ?_) (fun z => ?_)
    · replace h := h.1 z
      refine hb_iinc (q := 57) (v := v3 + 1) (lv' := [some (.ref 0), some (.int v1), some (.int v2), some (.int (v3 + 1))]) hc dd_X8_apart_54 rfl rfl rfl (Nat.le_of_ble_eq_true rfl) rfl ?_
      refine hb_goto (tg := 27) hc dd_X8_apart_57 (by decide) ?_
      exact hb_weak (lvs (lvs (lvs (lvs lvz)))) (h p l e s m args below meth c G hc)
    · replace h := h.2 z
      refine hb_iload_n (q := 53) hc dd_X8_apart_52 rfl rfl ?_
      exact hb_iret hc rfl dd_X8_apart_53 h
theorem w_X8_apart {d : Nat} {M : Mm} {v1 : Int32} {v2 : Int32} {K : Int32 → Mm → Prop}  (h : ACi d X0_hasRhythm [.ref 3, .int v1] M (fun r1 M1 => (r1 = 0 → (K (-2) M1)) ∧ (¬ r1 = 0 → (ACi d X0_hasRhythm [.ref 3, .int v2] M1 (fun r2 M2 => (¬ r2 = 0 → (lp_X8_apart_27 d M2 v1 v2 1 K)) ∧ (r2 = 0 → (K (-2) M2))))))) : ACi (d + 1) X8_apart [.ref 0, .int v1, .int v2] M K := by
  refine AC.ofW (lv := [some (.ref 0), some (.int v1), some (.int v2), none]) pn_X8 (Nat.le_of_ble_eq_true rfl) (show lvLe _ [some (.ref 0), some (.int v1), some (.int v2)] from (lvs (lvs (lvs (lve lvz))))) ?_
  intro p l e s m args below meth c G hc
  refine hb_aload_n (q := 1) hc dd_X8_apart_0 rfl rfl ?_
  refine hb_getR (q := 4) hc fl_X8_19 sh0 sl0 rfl dd_X8_apart_1 rfl ?_
  refine hb_iload_n (q := 5) hc dd_X8_apart_4 rfl rfl ?_
  refine hb_callVi (q := 8) (vs := [.int v1]) (st := []) hc mv_X8_119 h sh3 sl3 rfl rfl rfl (Nat.le_of_ble_eq_true rfl) ⟨Nat.le_refl _, Nat.le_refl _⟩ ⟨Nat.le_refl _, Nat.le_refl _⟩ dd_X8_apart_5 rfl (fun r1 M1 h => ?_)
  refine hb_if_eq (q := 11) (tg := 22) hc dd_X8_apart_8 rfl (by decide) (fun z => ?_) (fun z => ?_)
  · replace h := h.1 z
    refine hb_bipush (q := 24) (v := (-2)) hc dd_X8_apart_22 rfl bp_m2 ?_
    exact hb_iret hc rfl dd_X8_apart_24 h
  · replace h := h.2 z
    refine hb_aload_n (q := 12) hc dd_X8_apart_11 rfl rfl ?_
    refine hb_getR (q := 15) hc fl_X8_19 sh0 sl0 rfl dd_X8_apart_12 rfl ?_
    refine hb_iload_n (q := 16) hc dd_X8_apart_15 rfl rfl ?_
    refine hb_callVi (q := 19) (vs := [.int v2]) (st := []) hc mv_X8_119 h sh3 sl3 rfl rfl rfl (Nat.le_of_ble_eq_true rfl) ⟨Nat.le_refl _, Nat.le_refl _⟩ ⟨Nat.le_refl _, Nat.le_refl _⟩ dd_X8_apart_16 rfl (fun r2 M2 h => ?_)
    refine hb_if_ne (q := 22) (tg := 25) hc dd_X8_apart_19 rfl (by decide) (fun z => ?_) (fun z => ?_)
    · replace h := h.1 z
      refine hb_iconst (q := 26) (v := 1) hc dd_X8_apart_25 rfl ic_1 ?_
      refine hb_istore_n (q := 27) (lv' := [some (.ref 0), some (.int v1), some (.int v2), some (.int 1)]) hc dd_X8_apart_26 rfl (Nat.le_of_ble_eq_true rfl) rfl ?_
      exact hb_weak (lvs (lvs (lvs (lvs lvz)))) (h p l e s m args below meth c G hc)
    · replace h := h.2 z
      refine hb_bipush (q := 24) (v := (-2)) hc dd_X8_apart_22 rfl bp_m2 ?_
      exact hb_iret hc rfl dd_X8_apart_24 h
theorem w_X8_machine {d : Nat} {M : Mm} {v1 : Int32} {v2 : Int32} {K : Int32 → Mm → Prop}  (h : ACi d X8_isPlace [.int v1] M (fun r1 M1 => (r1 = 0 → (K (-3) M1)) ∧ (¬ r1 = 0 → ((v2 < 0 → (K (-3) M1)) ∧ (¬ v2 < 0 → ((v2 ≤ 1 → (ACv d X3_prepare [.ref 31, .ref 3, .ref 13, .int v1] M1 (fun M2 => (¬ v2 = 0 → (ACi d X3_named [.ref 31] M2 (fun r3 M3 => K r3 M3))) ∧ (v2 = 0 → (ACi d X3_states [.ref 31] M2 (fun r4 M4 => K r4 M4)))))) ∧ (¬ v2 ≤ 1 → (K (-3) M1)))))))) : ACi (d + 1) X8_machine [.ref 0, .int v1, .int v2] M K := by
  refine AC.ofW (lv := [some (.ref 0), some (.int v1), some (.int v2)]) pn_X8 (Nat.le_of_ble_eq_true rfl) (show lvLe _ [some (.ref 0), some (.int v1), some (.int v2)] from (lvs (lvs (lvs lvz)))) ?_
  intro p l e s m args below meth c G hc
  refine hb_iload_n (q := 1) hc dd_X8_machine_0 rfl rfl ?_
  refine hb_callSi (q := 4) (vs := [.int v1]) (st := []) hc mv_X8_169 h rfl rfl (Nat.le_of_ble_eq_true rfl) ⟨Nat.le_refl _, Nat.le_refl _⟩ ⟨Nat.le_refl _, Nat.le_refl _⟩ dd_X8_machine_1 rfl (fun r1 M1 h => ?_)
  refine hb_if_eq (q := 7) (tg := 16) hc dd_X8_machine_4 rfl (by decide) (fun z => ?_) (fun z => ?_)
  · replace h := h.1 z
    refine hb_bipush (q := 18) (v := (-3)) hc dd_X8_machine_16 rfl bp_m3 ?_
    exact hb_iret hc rfl dd_X8_machine_18 h
  · replace h := h.2 z
    refine hb_iload_n (q := 8) hc dd_X8_machine_7 rfl rfl ?_
    refine hb_if_lt (q := 11) (tg := 16) hc dd_X8_machine_8 rfl (by decide) (fun z => ?_) (fun z => ?_)
    · replace h := h.1 z
      refine hb_bipush (q := 18) (v := (-3)) hc dd_X8_machine_16 rfl bp_m3 ?_
      exact hb_iret hc rfl dd_X8_machine_18 h
    · replace h := h.2 z
      refine hb_iload_n (q := 12) hc dd_X8_machine_11 rfl rfl ?_
      refine hb_iconst (q := 13) (v := 1) hc dd_X8_machine_12 rfl ic_1 ?_
      refine hb_icmp_le (q := 16) (tg := 19) hc dd_X8_machine_13 rfl (by decide) (fun z => ?_) (fun z => ?_)
      · replace h := h.1 z
        refine hb_aload_n (q := 20) hc dd_X8_machine_19 rfl rfl ?_
        refine hb_getR (q := 23) hc fl_X8_56 sh0 sl0 rfl dd_X8_machine_20 rfl ?_
        refine hb_aload_n (q := 24) hc dd_X8_machine_23 rfl rfl ?_
        refine hb_getR (q := 27) hc fl_X8_19 sh0 sl0 rfl dd_X8_machine_24 rfl ?_
        refine hb_aload_n (q := 28) hc dd_X8_machine_27 rfl rfl ?_
        refine hb_getR (q := 31) hc fl_X8_29 sh0 sl0 rfl dd_X8_machine_28 rfl ?_
        refine hb_iload_n (q := 32) hc dd_X8_machine_31 rfl rfl ?_
        refine hb_callVv (q := 35) (vs := [.ref 3, .ref 13, .int v1]) (st := []) hc mv_X8_208 h sh31 sl31 rfl rfl rfl (Nat.le_of_ble_eq_true rfl) ⟨Nat.le_refl _, Nat.le_refl _⟩ ⟨Nat.le_refl _, Nat.le_refl _⟩ dd_X8_machine_32 rfl (fun M2 h => ?_)
        refine hb_iload_n (q := 36) hc dd_X8_machine_35 rfl rfl ?_
        refine hb_if_ne (q := 39) (tg := 49) hc dd_X8_machine_36 rfl (by decide) (fun z => ?_) (fun z => ?_)
        · replace h := h.1 z
          refine hb_aload_n (q := 50) hc dd_X8_machine_49 rfl rfl ?_
          refine hb_getR (q := 53) hc fl_X8_56 sh0 sl0 rfl dd_X8_machine_50 rfl ?_
          refine hb_callVi (q := 56) (vs := []) (st := []) hc mv_X8_215 h sh31 sl31 rfl rfl rfl (Nat.le_of_ble_eq_true rfl) ⟨Nat.le_refl _, Nat.le_refl _⟩ ⟨Nat.le_refl _, Nat.le_refl _⟩ dd_X8_machine_53 rfl (fun r3 M3 h => ?_)
          exact hb_iret hc rfl dd_X8_machine_56 h
        · replace h := h.2 z
          refine hb_aload_n (q := 40) hc dd_X8_machine_39 rfl rfl ?_
          refine hb_getR (q := 43) hc fl_X8_56 sh0 sl0 rfl dd_X8_machine_40 rfl ?_
          refine hb_callVi (q := 46) (vs := []) (st := []) hc mv_X8_212 h sh31 sl31 rfl rfl rfl (Nat.le_of_ble_eq_true rfl) ⟨Nat.le_refl _, Nat.le_refl _⟩ ⟨Nat.le_refl _, Nat.le_refl _⟩ dd_X8_machine_43 rfl (fun r4 M4 h => ?_)
          refine hb_goto (tg := 56) hc dd_X8_machine_46 (by decide) ?_
          exact hb_iret hc rfl dd_X8_machine_56 h
      · replace h := h.2 z
        refine hb_bipush (q := 18) (v := (-3)) hc dd_X8_machine_16 rfl bp_m3 ?_
        exact hb_iret hc rfl dd_X8_machine_18 h
theorem w_X8_watch {d : Nat} {M : Mm} {v1 : Int32} {v2 : Int32} {K : Int32 → Mm → Prop}  (h : ACi d X8_isPlace [.int v1] M (fun r1 M1 => (r1 = 0 → (K (-3) M1)) ∧ (¬ r1 = 0 → ((v2 < 0 → (K (-3) M1)) ∧ (¬ v2 < 0 → ((v2 ≤ 1 → (ACl d X2_pairsSeenFrom [.ref 13, .int v1, .ref 3] M1 (fun r2 M2 => (¬ v2 = 1 → (ACv d X7_begin [.ref 34, .long r2, .int 0] M2 (fun M3 => ACi d X7_size [.ref 34] M3 (fun r4 M4 => K r4 M4)))) ∧ (v2 = 1 → (ACv d X7_begin [.ref 34, .long r2, .int 1] M2 (fun M5 => ACi d X7_size [.ref 34] M5 (fun r6 M6 => K r6 M6))))))) ∧ (¬ v2 ≤ 1 → (K (-3) M1)))))))) : ACi (d + 1) X8_watch [.ref 0, .int v1, .int v2] M K := by
  refine AC.ofW (lv := [some (.ref 0), some (.int v1), some (.int v2)]) pn_X8 (Nat.le_of_ble_eq_true rfl) (show lvLe _ [some (.ref 0), some (.int v1), some (.int v2)] from (lvs (lvs (lvs lvz)))) ?_
  intro p l e s m args below meth c G hc
  refine hb_iload_n (q := 1) hc dd_X8_watch_0 rfl rfl ?_
  refine hb_callSi (q := 4) (vs := [.int v1]) (st := []) hc mv_X8_169 h rfl rfl (Nat.le_of_ble_eq_true rfl) ⟨Nat.le_refl _, Nat.le_refl _⟩ ⟨Nat.le_refl _, Nat.le_refl _⟩ dd_X8_watch_1 rfl (fun r1 M1 h => ?_)
  refine hb_if_eq (q := 7) (tg := 16) hc dd_X8_watch_4 rfl (by decide) (fun z => ?_) (fun z => ?_)
  · replace h := h.1 z
    refine hb_bipush (q := 18) (v := (-3)) hc dd_X8_watch_16 rfl bp_m3 ?_
    exact hb_iret hc rfl dd_X8_watch_18 h
  · replace h := h.2 z
    refine hb_iload_n (q := 8) hc dd_X8_watch_7 rfl rfl ?_
    refine hb_if_lt (q := 11) (tg := 16) hc dd_X8_watch_8 rfl (by decide) (fun z => ?_) (fun z => ?_)
    · replace h := h.1 z
      refine hb_bipush (q := 18) (v := (-3)) hc dd_X8_watch_16 rfl bp_m3 ?_
      exact hb_iret hc rfl dd_X8_watch_18 h
    · replace h := h.2 z
      refine hb_iload_n (q := 12) hc dd_X8_watch_11 rfl rfl ?_
      refine hb_iconst (q := 13) (v := 1) hc dd_X8_watch_12 rfl ic_1 ?_
      refine hb_icmp_le (q := 16) (tg := 19) hc dd_X8_watch_13 rfl (by decide) (fun z => ?_) (fun z => ?_)
      · replace h := h.1 z
        refine hb_aload_n (q := 20) hc dd_X8_watch_19 rfl rfl ?_
        refine hb_getR (q := 23) hc fl_X8_63 sh0 sl0 rfl dd_X8_watch_20 rfl ?_
        refine hb_aload_n (q := 24) hc dd_X8_watch_23 rfl rfl ?_
        refine hb_getR (q := 27) hc fl_X8_29 sh0 sl0 rfl dd_X8_watch_24 rfl ?_
        refine hb_iload_n (q := 28) hc dd_X8_watch_27 rfl rfl ?_
        refine hb_aload_n (q := 29) hc dd_X8_watch_28 rfl rfl ?_
        refine hb_getR (q := 32) hc fl_X8_19 sh0 sl0 rfl dd_X8_watch_29 rfl ?_
        refine hb_callVl (q := 35) (vs := [.int v1, .ref 3]) (st := [.ref 34]) hc mv_X8_218 h sh13 sl13 rfl rfl rfl (Nat.le_of_ble_eq_true rfl) ⟨Nat.le_refl _, Nat.le_refl _⟩ ⟨Nat.le_refl _, Nat.le_refl _⟩ dd_X8_watch_32 rfl (fun r2 M2 h => ?_)
        refine hb_iload_n (q := 36) hc dd_X8_watch_35 rfl rfl ?_
        refine hb_iconst (q := 37) (v := 1) hc dd_X8_watch_36 rfl ic_1 ?_
        refine hb_icmp_ne (q := 40) (tg := 44) hc dd_X8_watch_37 rfl (by decide) (fun z => ?_) (fun z => ?_)
        · replace h := h.1 z
          refine hb_iconst (q := 45) (v := 0) hc dd_X8_watch_44 rfl ic_0 ?_
          refine hb_callVv (q := 48) (vs := [.long r2, .int 0]) (st := []) hc mv_X8_222 h sh34 sl34 rfl rfl rfl (Nat.le_of_ble_eq_true rfl) ⟨Nat.le_refl _, Nat.le_refl _⟩ ⟨Nat.le_refl _, Nat.le_refl _⟩ dd_X8_watch_45 rfl (fun M3 h => ?_)
          refine hb_aload_n (q := 49) hc dd_X8_watch_48 rfl rfl ?_
          refine hb_getR (q := 52) hc fl_X8_63 sh0 sl0 rfl dd_X8_watch_49 rfl ?_
          refine hb_callVi (q := 55) (vs := []) (st := []) hc mv_X8_226 h sh34 sl34 rfl rfl rfl (Nat.le_of_ble_eq_true rfl) ⟨Nat.le_refl _, Nat.le_refl _⟩ ⟨Nat.le_refl _, Nat.le_refl _⟩ dd_X8_watch_52 rfl (fun r4 M4 h => ?_)
          exact hb_iret hc rfl dd_X8_watch_55 h
        · replace h := h.2 z
          refine hb_iconst (q := 41) (v := 1) hc dd_X8_watch_40 rfl ic_1 ?_
          refine hb_goto (tg := 45) hc dd_X8_watch_41 (by decide) ?_
          refine hb_callVv (q := 48) (vs := [.long r2, .int 1]) (st := []) hc mv_X8_222 h sh34 sl34 rfl rfl rfl (Nat.le_of_ble_eq_true rfl) ⟨Nat.le_refl _, Nat.le_refl _⟩ ⟨Nat.le_refl _, Nat.le_refl _⟩ dd_X8_watch_45 rfl (fun M5 h => ?_)
          refine hb_aload_n (q := 49) hc dd_X8_watch_48 rfl rfl ?_
          refine hb_getR (q := 52) hc fl_X8_63 sh0 sl0 rfl dd_X8_watch_49 rfl ?_
          refine hb_callVi (q := 55) (vs := []) (st := []) hc mv_X8_226 h sh34 sl34 rfl rfl rfl (Nat.le_of_ble_eq_true rfl) ⟨Nat.le_refl _, Nat.le_refl _⟩ ⟨Nat.le_refl _, Nat.le_refl _⟩ dd_X8_watch_52 rfl (fun r6 M6 h => ?_)
          exact hb_iret hc rfl dd_X8_watch_55 h
      · replace h := h.2 z
        refine hb_bipush (q := 18) (v := (-3)) hc dd_X8_watch_16 rfl bp_m3 ?_
        exact hb_iret hc rfl dd_X8_watch_18 h
theorem w_X8_see {d : Nat} {M : Mm} {v1 : Int32} {K : Int32 → Mm → Prop}  (h : (v1 < 0 → (K (-3) M)) ∧ (¬ v1 < 0 → ((v1 ≤ 1 → ((¬ (M.1 34 0) = 0 → (ACl d X2_pairsThatFlash [.ref 13, .ref 3] M (fun r1 M1 => ACv d X7_takeBeat [.ref 34, .int v1, .long r1, .int (M1.1 3 0)] M1 (fun M2 => ACi d X7_size [.ref 34] M2 (fun r3 M3 => K r3 M3))))) ∧ ((M.1 34 0) = 0 → (K (-4) M)))) ∧ (¬ v1 ≤ 1 → (K (-3) M))))) : ACi (d + 1) X8_see [.ref 0, .int v1] M K := by
  refine AC.ofW (lv := [some (.ref 0), some (.int v1)]) pn_X8 (Nat.le_of_ble_eq_true rfl) (show lvLe _ [some (.ref 0), some (.int v1)] from (lvs (lvs lvz))) ?_
  intro p l e s m args below meth c G hc
  refine hb_iload_n (q := 1) hc dd_X8_see_0 rfl rfl ?_
  refine hb_if_lt (q := 4) (tg := 9) hc dd_X8_see_1 rfl (by decide) (fun z => ?_) (fun z => ?_)
  · replace h := h.1 z
    refine hb_bipush (q := 11) (v := (-3)) hc dd_X8_see_9 rfl bp_m3 ?_
    exact hb_iret hc rfl dd_X8_see_11 h
  · replace h := h.2 z
    refine hb_iload_n (q := 5) hc dd_X8_see_4 rfl rfl ?_
    refine hb_iconst (q := 6) (v := 1) hc dd_X8_see_5 rfl ic_1 ?_
    refine hb_icmp_le (q := 9) (tg := 12) hc dd_X8_see_6 rfl (by decide) (fun z => ?_) (fun z => ?_)
    · replace h := h.1 z
      refine hb_aload_n (q := 13) hc dd_X8_see_12 rfl rfl ?_
      refine hb_getR (q := 16) hc fl_X8_63 sh0 sl0 rfl dd_X8_see_13 rfl ?_
      refine hb_getI (q := 19) (v := M.1 34 0) hc fl_X8_228 sh34 sl34 rfl rfl dd_X8_see_16 rfl ?_
      refine hb_if_ne (q := 22) (tg := 25) hc dd_X8_see_19 rfl (by decide) (fun z => ?_) (fun z => ?_)
      · replace h := h.1 z
        refine hb_aload_n (q := 26) hc dd_X8_see_25 rfl rfl ?_
        refine hb_getR (q := 29) hc fl_X8_63 sh0 sl0 rfl dd_X8_see_26 rfl ?_
        refine hb_iload_n (q := 30) hc dd_X8_see_29 rfl rfl ?_
        refine hb_aload_n (q := 31) hc dd_X8_see_30 rfl rfl ?_
        refine hb_getR (q := 34) hc fl_X8_29 sh0 sl0 rfl dd_X8_see_31 rfl ?_
        refine hb_aload_n (q := 35) hc dd_X8_see_34 rfl rfl ?_
        refine hb_getR (q := 38) hc fl_X8_19 sh0 sl0 rfl dd_X8_see_35 rfl ?_
        refine hb_callVl (q := 41) (vs := [.ref 3]) (st := [.int v1, .ref 34]) hc mv_X8_231 h sh13 sl13 rfl rfl rfl (Nat.le_of_ble_eq_true rfl) ⟨Nat.le_refl _, Nat.le_refl _⟩ ⟨Nat.le_refl _, Nat.le_refl _⟩ dd_X8_see_38 rfl (fun r1 M1 h => ?_)
        refine hb_aload_n (q := 42) hc dd_X8_see_41 rfl rfl ?_
        refine hb_getR (q := 45) hc fl_X8_19 sh0 sl0 rfl dd_X8_see_42 rfl ?_
        refine hb_getI (q := 48) (v := M1.1 3 0) hc fl_X8_201 sh3 sl3 rfl rfl dd_X8_see_45 rfl ?_
        refine hb_callVv (q := 51) (vs := [.int v1, .long r1, .int (M1.1 3 0)]) (st := []) hc mv_X8_235 h sh34 sl34 rfl rfl rfl (Nat.le_of_ble_eq_true rfl) ⟨Nat.le_refl _, Nat.le_refl _⟩ ⟨Nat.le_refl _, Nat.le_refl _⟩ dd_X8_see_48 rfl (fun M2 h => ?_)
        refine hb_aload_n (q := 52) hc dd_X8_see_51 rfl rfl ?_
        refine hb_getR (q := 55) hc fl_X8_63 sh0 sl0 rfl dd_X8_see_52 rfl ?_
        refine hb_callVi (q := 58) (vs := []) (st := []) hc mv_X8_226 h sh34 sl34 rfl rfl rfl (Nat.le_of_ble_eq_true rfl) ⟨Nat.le_refl _, Nat.le_refl _⟩ ⟨Nat.le_refl _, Nat.le_refl _⟩ dd_X8_see_55 rfl (fun r3 M3 h => ?_)
        exact hb_iret hc rfl dd_X8_see_58 h
      · replace h := h.2 z
        refine hb_bipush (q := 24) (v := (-4)) hc dd_X8_see_22 rfl bp_m4 ?_
        exact hb_iret hc rfl dd_X8_see_24 h
    · replace h := h.2 z
      refine hb_bipush (q := 11) (v := (-3)) hc dd_X8_see_9 rfl bp_m3 ?_
      exact hb_iret hc rfl dd_X8_see_11 h
theorem w_X8_left {d : Nat} {M : Mm} {v1 : Int32} {v2 : Int32} {K : Int32 → Mm → Prop}  (h : (v1 < 0 → (K (-3) M)) ∧ (¬ v1 < 0 → ((1 < v1 → (K (-3) M)) ∧ (¬ 1 < v1 → ((0 ≤ v2 → ((¬ (M.1 34 0) = 0 → ((¬ v1 = 0 → (ACi d X7_pairAt [.ref 34, .int v2, .int (M.1 3 0)] M (fun r1 M1 => K r1 M1))) ∧ (v1 = 0 → (ACi d X7_lights [.ref 34] M (fun r2 M2 => K r2 M2))))) ∧ ((M.1 34 0) = 0 → (K (-4) M)))) ∧ (¬ 0 ≤ v2 → (K (-3) M))))))) : ACi (d + 1) X8_left [.ref 0, .int v1, .int v2] M K := by
  refine AC.ofW (lv := [some (.ref 0), some (.int v1), some (.int v2)]) pn_X8 (Nat.le_of_ble_eq_true rfl) (show lvLe _ [some (.ref 0), some (.int v1), some (.int v2)] from (lvs (lvs (lvs lvz)))) ?_
  intro p l e s m args below meth c G hc
  refine hb_iload_n (q := 1) hc dd_X8_left_0 rfl rfl ?_
  refine hb_if_lt (q := 4) (tg := 13) hc dd_X8_left_1 rfl (by decide) (fun z => ?_) (fun z => ?_)
  · replace h := h.1 z
    refine hb_bipush (q := 15) (v := (-3)) hc dd_X8_left_13 rfl bp_m3 ?_
    exact hb_iret hc rfl dd_X8_left_15 h
  · replace h := h.2 z
    refine hb_iload_n (q := 5) hc dd_X8_left_4 rfl rfl ?_
    refine hb_iconst (q := 6) (v := 1) hc dd_X8_left_5 rfl ic_1 ?_
    refine hb_icmp_gt (q := 9) (tg := 13) hc dd_X8_left_6 rfl (by decide) (fun z => ?_) (fun z => ?_)
    · replace h := h.1 z
      refine hb_bipush (q := 15) (v := (-3)) hc dd_X8_left_13 rfl bp_m3 ?_
      exact hb_iret hc rfl dd_X8_left_15 h
    · replace h := h.2 z
      refine hb_iload_n (q := 10) hc dd_X8_left_9 rfl rfl ?_
      refine hb_if_ge (q := 13) (tg := 16) hc dd_X8_left_10 rfl (by decide) (fun z => ?_) (fun z => ?_)
      · replace h := h.1 z
        refine hb_aload_n (q := 17) hc dd_X8_left_16 rfl rfl ?_
        refine hb_getR (q := 20) hc fl_X8_63 sh0 sl0 rfl dd_X8_left_17 rfl ?_
        refine hb_getI (q := 23) (v := M.1 34 0) hc fl_X8_228 sh34 sl34 rfl rfl dd_X8_left_20 rfl ?_
        refine hb_if_ne (q := 26) (tg := 29) hc dd_X8_left_23 rfl (by decide) (fun z => ?_) (fun z => ?_)
        · replace h := h.1 z
          refine hb_iload_n (q := 30) hc dd_X8_left_29 rfl rfl ?_
          refine hb_if_ne (q := 33) (tg := 43) hc dd_X8_left_30 rfl (by decide) (fun z => ?_) (fun z => ?_)
          · replace h := h.1 z
            refine hb_aload_n (q := 44) hc dd_X8_left_43 rfl rfl ?_
            refine hb_getR (q := 47) hc fl_X8_63 sh0 sl0 rfl dd_X8_left_44 rfl ?_
            refine hb_iload_n (q := 48) hc dd_X8_left_47 rfl rfl ?_
            refine hb_aload_n (q := 49) hc dd_X8_left_48 rfl rfl ?_
            refine hb_getR (q := 52) hc fl_X8_19 sh0 sl0 rfl dd_X8_left_49 rfl ?_
            refine hb_getI (q := 55) (v := M.1 3 0) hc fl_X8_201 sh3 sl3 rfl rfl dd_X8_left_52 rfl ?_
            refine hb_callVi (q := 58) (vs := [.int v2, .int (M.1 3 0)]) (st := []) hc mv_X8_241 h sh34 sl34 rfl rfl rfl (Nat.le_of_ble_eq_true rfl) ⟨Nat.le_refl _, Nat.le_refl _⟩ ⟨Nat.le_refl _, Nat.le_refl _⟩ dd_X8_left_55 rfl (fun r1 M1 h => ?_)
            exact hb_iret hc rfl dd_X8_left_58 h
          · replace h := h.2 z
            refine hb_aload_n (q := 34) hc dd_X8_left_33 rfl rfl ?_
            refine hb_getR (q := 37) hc fl_X8_63 sh0 sl0 rfl dd_X8_left_34 rfl ?_
            refine hb_callVi (q := 40) (vs := []) (st := []) hc mv_X8_239 h sh34 sl34 rfl rfl rfl (Nat.le_of_ble_eq_true rfl) ⟨Nat.le_refl _, Nat.le_refl _⟩ ⟨Nat.le_refl _, Nat.le_refl _⟩ dd_X8_left_37 rfl (fun r2 M2 h => ?_)
            refine hb_goto (tg := 58) hc dd_X8_left_40 (by decide) ?_
            exact hb_iret hc rfl dd_X8_left_58 h
        · replace h := h.2 z
          refine hb_bipush (q := 28) (v := (-4)) hc dd_X8_left_26 rfl bp_m4 ?_
          exact hb_iret hc rfl dd_X8_left_28 h
      · replace h := h.2 z
        refine hb_bipush (q := 15) (v := (-3)) hc dd_X8_left_13 rfl bp_m3 ?_
        exact hb_iret hc rfl dd_X8_left_15 h
theorem w_X8_tape {d : Nat} {M : Mm} {v1 : Int32} {K : Int32 → Mm → Prop}  (h : ACr d X8_tapeAt [.ref 0, .int v1] M (fun r1 M1 => (r1 = none → (K (-2) M1)) ∧ (∀ a1 : Nat, r1 = some a1 → isTp a1 ∧ (ACv d X5_begin [.ref a1] M1 (fun M2 => K 0 M2))))) : ACi (d + 1) X8_tape [.ref 0, .int v1] M K := by
  refine AC.ofW (lv := [some (.ref 0), some (.int v1), none]) pn_X8 (Nat.le_of_ble_eq_true rfl) (show lvLe _ [some (.ref 0), some (.int v1)] from (lvs (lvs (lve lvz)))) ?_
  intro p l e s m args below meth c G hc
  refine hb_aload_n (q := 1) hc dd_X8_tape_0 rfl rfl ?_
  refine hb_iload_n (q := 2) hc dd_X8_tape_1 rfl rfl ?_
  refine hb_callVr (q := 5) (vs := [.int v1]) (st := []) hc mv_X8_112 h sh0 sl0 rfl rfl rfl (Nat.le_of_ble_eq_true rfl) ⟨Nat.le_refl _, Nat.le_refl _⟩ ⟨Nat.le_refl _, Nat.le_refl _⟩ dd_X8_tape_2 rfl (fun M1 h => ?_) (fun a1 M1 h => ?_)
  · replace h := h.1 rfl
    refine hb_astore_nN (q := 6) (lv' := [some (.ref 0), some (.int v1), some (.null)]) hc dd_X8_tape_5 rfl (Nat.le_of_ble_eq_true rfl) rfl ?_
    refine hb_aload_nN (q := 7) hc dd_X8_tape_6 rfl rfl ?_
    refine hb_ifnonnullN (q := 10) hc dd_X8_tape_7 rfl ?_
    refine hb_bipush (q := 12) (v := (-2)) hc dd_X8_tape_10 rfl bp_m2 ?_
    exact hb_iret hc rfl dd_X8_tape_12 h
  · obtain ⟨ha1, h⟩ := h.2 a1 rfl
    refine hb_astore_n (q := 6) (lv' := [some (.ref 0), some (.int v1), some (.ref a1)]) hc dd_X8_tape_5 rfl (Nat.le_of_ble_eq_true rfl) rfl ?_
    refine hb_aload_n (q := 7) hc dd_X8_tape_6 rfl rfl ?_
    refine hb_ifnonnull (tg := 13) hc dd_X8_tape_7 (by decide) ?_
    refine hb_aload_n (q := 14) hc dd_X8_tape_13 rfl rfl ?_
    refine hb_callVv (q := 17) (vs := []) (st := []) hc mv_X8_244 h (tp_s ha1) (tp_l ha1) rfl rfl rfl (Nat.le_of_ble_eq_true rfl) ⟨Nat.le_refl _, Nat.le_refl _⟩ ⟨Nat.le_refl _, Nat.le_refl _⟩ dd_X8_tape_14 rfl (fun M2 h => ?_)
    refine hb_iconst (q := 18) (v := 0) hc dd_X8_tape_17 rfl ic_0 ?_
    exact hb_iret hc rfl dd_X8_tape_18 h
theorem w_X8_put {d : Nat} {M : Mm} {v1 : Int32} {v2 : Int32} {v3 : Int32} {K : Int32 → Mm → Prop}  (h : ACr d X8_tapeAt [.ref 0, .int v1] M (fun r1 M1 => (r1 = none → (K (-2) M1)) ∧ (∀ a1 : Nat, r1 = some a1 → isTp a1 ∧ (ACi d X8_isEnd [.int v2] M1 (fun r2 M2 => (r2 = 0 → (K (-3) M2)) ∧ (¬ r2 = 0 → (ACi d X8_isNumber [.int v3] M2 (fun r3 M3 => (¬ r3 = 0 → ((¬ (M3.1 a1 0) = 0 → (((M3.1 a1 1) < 12 → ((¬ v2 = 0 → (ACv d X5_addBehind [.ref a1, .int v3] M3 (fun M4 => K (M4.1 a1 1) M4))) ∧ (v2 = 0 → (ACv d X5_addInFront [.ref a1, .int v3] M3 (fun M5 => K (M5.1 a1 1) M5))))) ∧ (¬ (M3.1 a1 1) < 12 → (K (-13) M3)))) ∧ ((M3.1 a1 0) = 0 → (K (-11) M3)))) ∧ (r3 = 0 → (K (-3) M3)))))))))) : ACi (d + 1) X8_put [.ref 0, .int v1, .int v2, .int v3] M K := by
  refine AC.ofW (lv := [some (.ref 0), some (.int v1), some (.int v2), some (.int v3), none]) pn_X8 (Nat.le_of_ble_eq_true rfl) (show lvLe _ [some (.ref 0), some (.int v1), some (.int v2), some (.int v3)] from (lvs (lvs (lvs (lvs (lve lvz)))))) ?_
  intro p l e s m args below meth c G hc
  refine hb_aload_n (q := 1) hc dd_X8_put_0 rfl rfl ?_
  refine hb_iload_n (q := 2) hc dd_X8_put_1 rfl rfl ?_
  refine hb_callVr (q := 5) (vs := [.int v1]) (st := []) hc mv_X8_112 h sh0 sl0 rfl rfl rfl (Nat.le_of_ble_eq_true rfl) ⟨Nat.le_refl _, Nat.le_refl _⟩ ⟨Nat.le_refl _, Nat.le_refl _⟩ dd_X8_put_2 rfl (fun M1 h => ?_) (fun a1 M1 h => ?_)
  · replace h := h.1 rfl
    refine hb_astoreN (q := 7) (lv' := [some (.ref 0), some (.int v1), some (.int v2), some (.int v3), some (.null)]) hc dd_X8_put_5 rfl (Nat.le_of_ble_eq_true rfl) rfl ?_
    refine hb_aloadN (q := 9) hc dd_X8_put_7 rfl rfl ?_
    refine hb_ifnonnullN (q := 12) hc dd_X8_put_9 rfl ?_
    refine hb_bipush (q := 14) (v := (-2)) hc dd_X8_put_12 rfl bp_m2 ?_
    exact hb_iret hc rfl dd_X8_put_14 h
  · obtain ⟨ha1, h⟩ := h.2 a1 rfl
    refine hb_astore (q := 7) (lv' := [some (.ref 0), some (.int v1), some (.int v2), some (.int v3), some (.ref a1)]) hc dd_X8_put_5 rfl (Nat.le_of_ble_eq_true rfl) rfl ?_
    refine hb_aload (q := 9) hc dd_X8_put_7 rfl rfl ?_
    refine hb_ifnonnull (tg := 15) hc dd_X8_put_9 (by decide) ?_
    refine hb_iload_n (q := 16) hc dd_X8_put_15 rfl rfl ?_
    refine hb_callSi (q := 19) (vs := [.int v2]) (st := []) hc mv_X8_246 h rfl rfl (Nat.le_of_ble_eq_true rfl) ⟨Nat.le_refl _, Nat.le_refl _⟩ ⟨Nat.le_refl _, Nat.le_refl _⟩ dd_X8_put_16 rfl (fun r2 M2 h => ?_)
    refine hb_if_eq (q := 22) (tg := 29) hc dd_X8_put_19 rfl (by decide) (fun z => ?_) (fun z => ?_)
    · replace h := h.1 z
      refine hb_bipush (q := 31) (v := (-3)) hc dd_X8_put_29 rfl bp_m3 ?_
      exact hb_iret hc rfl dd_X8_put_31 h
    · replace h := h.2 z
      refine hb_iload_n (q := 23) hc dd_X8_put_22 rfl rfl ?_
      refine hb_callSi (q := 26) (vs := [.int v3]) (st := []) hc mv_X8_249 h rfl rfl (Nat.le_of_ble_eq_true rfl) ⟨Nat.le_refl _, Nat.le_refl _⟩ ⟨Nat.le_refl _, Nat.le_refl _⟩ dd_X8_put_23 rfl (fun r3 M3 h => ?_)
      refine hb_if_ne (q := 29) (tg := 32) hc dd_X8_put_26 rfl (by decide) (fun z => ?_) (fun z => ?_)
      · replace h := h.1 z
        refine hb_aload (q := 34) hc dd_X8_put_32 rfl rfl ?_
        refine hb_getI (q := 37) (v := M3.1 a1 0) hc fl_X8_252 (tp_s ha1) (tp_l ha1) rfl rfl dd_X8_put_34 rfl ?_
        refine hb_if_ne (q := 40) (tg := 43) hc dd_X8_put_37 rfl (by decide) (fun z => ?_) (fun z => ?_)
        · replace h := h.1 z
          refine hb_aload (q := 45) hc dd_X8_put_43 rfl rfl ?_
          refine hb_getI (q := 48) (v := M3.1 a1 1) hc fl_X8_255 (tp_s ha1) (tp_l ha1) rfl rfl dd_X8_put_45 rfl ?_
          refine hb_bipush (q := 50) (v := 12) hc dd_X8_put_48 rfl bp_12 ?_
          refine hb_icmp_lt (q := 53) (tg := 56) hc dd_X8_put_50 rfl (by decide) (fun z => ?_) (fun z => ?_)
          · replace h := h.1 z
            refine hb_iload_n (q := 57) hc dd_X8_put_56 rfl rfl ?_
            refine hb_if_ne (q := 60) (tg := 69) hc dd_X8_put_57 rfl (by decide) (fun z => ?_) (fun z => ?_)
            · replace h := h.1 z
              refine hb_aload (q := 71) hc dd_X8_put_69 rfl rfl ?_
              refine hb_iload_n (q := 72) hc dd_X8_put_71 rfl rfl ?_
              refine hb_callVv (q := 75) (vs := [.int v3]) (st := []) hc mv_X8_259 h (tp_s ha1) (tp_l ha1) rfl rfl rfl (Nat.le_of_ble_eq_true rfl) ⟨Nat.le_refl _, Nat.le_refl _⟩ ⟨Nat.le_refl _, Nat.le_refl _⟩ dd_X8_put_72 rfl (fun M4 h => ?_)
              refine hb_aload (q := 77) hc dd_X8_put_75 rfl rfl ?_
              refine hb_getI (q := 80) (v := M4.1 a1 1) hc fl_X8_255 (tp_s ha1) (tp_l ha1) rfl rfl dd_X8_put_77 rfl ?_
              exact hb_iret hc rfl dd_X8_put_80 h
            · replace h := h.2 z
              refine hb_aload (q := 62) hc dd_X8_put_60 rfl rfl ?_
              refine hb_iload_n (q := 63) hc dd_X8_put_62 rfl rfl ?_
              refine hb_callVv (q := 66) (vs := [.int v3]) (st := []) hc mv_X8_256 h (tp_s ha1) (tp_l ha1) rfl rfl rfl (Nat.le_of_ble_eq_true rfl) ⟨Nat.le_refl _, Nat.le_refl _⟩ ⟨Nat.le_refl _, Nat.le_refl _⟩ dd_X8_put_63 rfl (fun M5 h => ?_)
              refine hb_goto (tg := 75) hc dd_X8_put_66 (by decide) ?_
              refine hb_aload (q := 77) hc dd_X8_put_75 rfl rfl ?_
              refine hb_getI (q := 80) (v := M5.1 a1 1) hc fl_X8_255 (tp_s ha1) (tp_l ha1) rfl rfl dd_X8_put_77 rfl ?_
              exact hb_iret hc rfl dd_X8_put_80 h
          · replace h := h.2 z
            refine hb_bipush (q := 55) (v := (-13)) hc dd_X8_put_53 rfl bp_m13 ?_
            exact hb_iret hc rfl dd_X8_put_55 h
        · replace h := h.2 z
          refine hb_bipush (q := 42) (v := (-11)) hc dd_X8_put_40 rfl bp_m11 ?_
          exact hb_iret hc rfl dd_X8_put_42 h
      · replace h := h.2 z
        refine hb_bipush (q := 31) (v := (-3)) hc dd_X8_put_29 rfl bp_m3 ?_
        exact hb_iret hc rfl dd_X8_put_31 h
theorem w_X8_draw {d : Nat} {M : Mm} {v1 : Int32} {v2 : Int32} {K : Int32 → Mm → Prop}  (h : ACr d X8_tapeAt [.ref 0, .int v1] M (fun r1 M1 => (r1 = none → (K (-2) M1)) ∧ (∀ a1 : Nat, r1 = some a1 → isTp a1 ∧ (ACi d X8_isEnd [.int v2] M1 (fun r2 M2 => (¬ r2 = 0 → ((¬ (M2.1 a1 0) = 0 → ((¬ (M2.1 a1 1) = 0 → ((¬ v2 = 0 → (ACi d X5_takeLast [.ref a1] M2 (fun r3 M3 => K (r3 + 50000) M3))) ∧ (v2 = 0 → (ACi d X5_takeFirst [.ref a1] M2 (fun r4 M4 => K (r4 + 50000) M4))))) ∧ ((M2.1 a1 1) = 0 → (K (-12) M2)))) ∧ ((M2.1 a1 0) = 0 → (K (-11) M2)))) ∧ (r2 = 0 → (K (-3) M2))))))) : ACi (d + 1) X8_draw [.ref 0, .int v1, .int v2] M K := by
  refine AC.ofW (lv := [some (.ref 0), some (.int v1), some (.int v2), none, none]) pn_X8 (Nat.le_of_ble_eq_true rfl) (show lvLe _ [some (.ref 0), some (.int v1), some (.int v2)] from (lvs (lvs (lvs (lve (lve lvz)))))) ?_
  intro p l e s m args below meth c G hc
  refine hb_aload_n (q := 1) hc dd_X8_draw_0 rfl rfl ?_
  refine hb_iload_n (q := 2) hc dd_X8_draw_1 rfl rfl ?_
  refine hb_callVr (q := 5) (vs := [.int v1]) (st := []) hc mv_X8_112 h sh0 sl0 rfl rfl rfl (Nat.le_of_ble_eq_true rfl) ⟨Nat.le_refl _, Nat.le_refl _⟩ ⟨Nat.le_refl _, Nat.le_refl _⟩ dd_X8_draw_2 rfl (fun M1 h => ?_) (fun a1 M1 h => ?_)
  · replace h := h.1 rfl
    refine hb_astore_nN (q := 6) (lv' := [some (.ref 0), some (.int v1), some (.int v2), some (.null), none]) hc dd_X8_draw_5 rfl (Nat.le_of_ble_eq_true rfl) rfl ?_
    refine hb_aload_nN (q := 7) hc dd_X8_draw_6 rfl rfl ?_
    refine hb_ifnonnullN (q := 10) hc dd_X8_draw_7 rfl ?_
    refine hb_bipush (q := 12) (v := (-2)) hc dd_X8_draw_10 rfl bp_m2 ?_
    exact hb_iret hc rfl dd_X8_draw_12 h
  · obtain ⟨ha1, h⟩ := h.2 a1 rfl
    refine hb_astore_n (q := 6) (lv' := [some (.ref 0), some (.int v1), some (.int v2), some (.ref a1), none]) hc dd_X8_draw_5 rfl (Nat.le_of_ble_eq_true rfl) rfl ?_
    refine hb_aload_n (q := 7) hc dd_X8_draw_6 rfl rfl ?_
    refine hb_ifnonnull (tg := 13) hc dd_X8_draw_7 (by decide) ?_
    refine hb_iload_n (q := 14) hc dd_X8_draw_13 rfl rfl ?_
    refine hb_callSi (q := 17) (vs := [.int v2]) (st := []) hc mv_X8_246 h rfl rfl (Nat.le_of_ble_eq_true rfl) ⟨Nat.le_refl _, Nat.le_refl _⟩ ⟨Nat.le_refl _, Nat.le_refl _⟩ dd_X8_draw_14 rfl (fun r2 M2 h => ?_)
    refine hb_if_ne (q := 20) (tg := 23) hc dd_X8_draw_17 rfl (by decide) (fun z => ?_) (fun z => ?_)
    · replace h := h.1 z
      refine hb_aload_n (q := 24) hc dd_X8_draw_23 rfl rfl ?_
      refine hb_getI (q := 27) (v := M2.1 a1 0) hc fl_X8_252 (tp_s ha1) (tp_l ha1) rfl rfl dd_X8_draw_24 rfl ?_
      refine hb_if_ne (q := 30) (tg := 33) hc dd_X8_draw_27 rfl (by decide) (fun z => ?_) (fun z => ?_)
      · replace h := h.1 z
        refine hb_aload_n (q := 34) hc dd_X8_draw_33 rfl rfl ?_
        refine hb_getI (q := 37) (v := M2.1 a1 1) hc fl_X8_255 (tp_s ha1) (tp_l ha1) rfl rfl dd_X8_draw_34 rfl ?_
        refine hb_if_ne (q := 40) (tg := 43) hc dd_X8_draw_37 rfl (by decide) (fun z => ?_) (fun z => ?_)
        · replace h := h.1 z
          refine hb_iload_n (q := 44) hc dd_X8_draw_43 rfl rfl ?_
          refine hb_if_ne (q := 47) (tg := 54) hc dd_X8_draw_44 rfl (by decide) (fun z => ?_) (fun z => ?_)
          · replace h := h.1 z
            refine hb_aload_n (q := 55) hc dd_X8_draw_54 rfl rfl ?_
            refine hb_callVi (q := 58) (vs := []) (st := []) hc mv_X8_265 h (tp_s ha1) (tp_l ha1) rfl rfl rfl (Nat.le_of_ble_eq_true rfl) ⟨Nat.le_refl _, Nat.le_refl _⟩ ⟨Nat.le_refl _, Nat.le_refl _⟩ dd_X8_draw_55 rfl (fun r3 M3 h => ?_)
            refine hb_istore (q := 60) (lv' := [some (.ref 0), some (.int v1), some (.int v2), some (.ref a1), some (.int r3)]) hc dd_X8_draw_58 rfl (Nat.le_of_ble_eq_true rfl) rfl ?_
            refine hb_iload (q := 62) hc dd_X8_draw_60 rfl rfl ?_
            refine hb_ldcw (q := 65) (v := 50000) hc dd_X8_draw_62 rfl iw_806 ?_
            refine hb_iadd (q := 66) hc dd_X8_draw_65 rfl ?_
            exact hb_iret hc rfl dd_X8_draw_66 h
          · replace h := h.2 z
            refine hb_aload_n (q := 48) hc dd_X8_draw_47 rfl rfl ?_
            refine hb_callVi (q := 51) (vs := []) (st := []) hc mv_X8_262 h (tp_s ha1) (tp_l ha1) rfl rfl rfl (Nat.le_of_ble_eq_true rfl) ⟨Nat.le_refl _, Nat.le_refl _⟩ ⟨Nat.le_refl _, Nat.le_refl _⟩ dd_X8_draw_48 rfl (fun r4 M4 h => ?_)
            refine hb_goto (tg := 58) hc dd_X8_draw_51 (by decide) ?_
            refine hb_istore (q := 60) (lv' := [some (.ref 0), some (.int v1), some (.int v2), some (.ref a1), some (.int r4)]) hc dd_X8_draw_58 rfl (Nat.le_of_ble_eq_true rfl) rfl ?_
            refine hb_iload (q := 62) hc dd_X8_draw_60 rfl rfl ?_
            refine hb_ldcw (q := 65) (v := 50000) hc dd_X8_draw_62 rfl iw_806 ?_
            refine hb_iadd (q := 66) hc dd_X8_draw_65 rfl ?_
            exact hb_iret hc rfl dd_X8_draw_66 h
        · replace h := h.2 z
          refine hb_bipush (q := 42) (v := (-12)) hc dd_X8_draw_40 rfl bp_m12 ?_
          exact hb_iret hc rfl dd_X8_draw_42 h
      · replace h := h.2 z
        refine hb_bipush (q := 32) (v := (-11)) hc dd_X8_draw_30 rfl bp_m11 ?_
        exact hb_iret hc rfl dd_X8_draw_32 h
    · replace h := h.2 z
      refine hb_bipush (q := 22) (v := (-3)) hc dd_X8_draw_20 rfl bp_m3 ?_
      exact hb_iret hc rfl dd_X8_draw_22 h
def lp_X8_turn_49 (d : Nat) (M : Mm) (v2 : Int32) (v3 : Nat) (v4 : Int32) (K : Int32 → Mm → Prop) : Prop := AW (d + 1) X8_turn M 49 [none, none, some (.int v2), some (.ref v3), some (.int v4)] [] (QI K)
theorem z_X8_turn_49 {d : Nat} {M : Mm} {v2 : Int32} {v3 : Nat} {v4 : Int32} {K : Int32 → Mm → Prop} (hv3 : isTp v3) (h : (v2 ≤ v4 → (K (M.1 v3 1) M)) ∧ (¬ v2 ≤ v4 → (ACi d X5_takeFirst [.ref v3] M (fun r1 M1 => ACv d X5_addBehind [.ref v3, .int r1] M1 (fun M2 => lp_X8_turn_49 d M2 v2 v3 (v4 + 1) K))))) : lp_X8_turn_49 d M v2 v3 v4 K := by
  intro p l e s m args below meth c G hc
  refine hb_iload (q := 51) hc dd_X8_turn_49 rfl rfl ?_
  refine hb_iload_n (q := 52) hc dd_X8_turn_51 rfl rfl ?_
  refine hb_icmp_ge (q := 55) (tg := 69) hc dd_X8_turn_52 rfl (by decide) (fun z => ?_) (fun z => ?_)
  · replace h := h.1 z
    refine hb_aload_n (q := 70) hc dd_X8_turn_69 rfl rfl ?_
    refine hb_getI (q := 73) (v := M.1 v3 1) hc fl_X8_255 (tp_s hv3) (tp_l hv3) rfl rfl dd_X8_turn_70 rfl ?_
    exact hb_iret hc rfl dd_X8_turn_73 h
  · replace h := h.2 z
    refine hb_aload_n (q := 56) hc dd_X8_turn_55 rfl rfl ?_
    refine hb_aload_n (q := 57) hc dd_X8_turn_56 rfl rfl ?_
    refine hb_callVi (q := 60) (vs := []) (st := [.ref v3]) hc mv_X8_262 h (tp_s hv3) (tp_l hv3) rfl rfl rfl (Nat.le_of_ble_eq_true rfl) ⟨Nat.le_refl _, Nat.le_refl _⟩ ⟨Nat.le_refl _, Nat.le_refl _⟩ dd_X8_turn_57 rfl (fun r1 M1 h => ?_)
    refine hb_callVv (q := 63) (vs := [.int r1]) (st := []) hc mv_X8_259 h (tp_s hv3) (tp_l hv3) rfl rfl rfl (Nat.le_of_ble_eq_true rfl) ⟨Nat.le_refl _, Nat.le_refl _⟩ ⟨Nat.le_refl _, Nat.le_refl _⟩ dd_X8_turn_60 rfl (fun M2 h => ?_)
    refine hb_iinc (q := 66) (v := v4 + 1) (lv' := [none, none, some (.int v2), some (.ref v3), some (.int (v4 + 1))]) hc dd_X8_turn_63 rfl rfl rfl (Nat.le_of_ble_eq_true rfl) rfl ?_
    refine hb_goto (tg := 49) hc dd_X8_turn_66 (by decide) ?_
    exact hb_weak (lvn (lvn (lvs (lvs (lvs lvz))))) (h p l e s m args below meth c G hc)
theorem w_X8_turn {d : Nat} {M : Mm} {v1 : Int32} {v2 : Int32} {K : Int32 → Mm → Prop}  (h : ACr d X8_tapeAt [.ref 0, .int v1] M (fun r1 M1 => (r1 = none → (K (-2) M1)) ∧ (∀ a1 : Nat, r1 = some a1 → isTp a1 ∧ ((v2 < 0 → (K (-3) M1)) ∧ (¬ v2 < 0 → ((v2 ≤ 99 → ((¬ (M1.1 a1 0) = 0 → ((¬ (M1.1 a1 1) = 0 → (lp_X8_turn_49 d M1 v2 a1 0 K)) ∧ ((M1.1 a1 1) = 0 → (K (-12) M1)))) ∧ ((M1.1 a1 0) = 0 → (K (-11) M1)))) ∧ (¬ v2 ≤ 99 → (K (-3) M1)))))))) : ACi (d + 1) X8_turn [.ref 0, .int v1, .int v2] M K := by
  refine AC.ofW (lv := [some (.ref 0), some (.int v1), some (.int v2), none, none]) pn_X8 (Nat.le_of_ble_eq_true rfl) (show lvLe _ [some (.ref 0), some (.int v1), some (.int v2)] from (lvs (lvs (lvs (lve (lve lvz)))))) ?_
  intro p l e s m args below meth c G hc
  refine hb_aload_n (q := 1) hc dd_X8_turn_0 rfl rfl ?_
  refine hb_iload_n (q := 2) hc dd_X8_turn_1 rfl rfl ?_
  refine hb_callVr (q := 5) (vs := [.int v1]) (st := []) hc mv_X8_112 h sh0 sl0 rfl rfl rfl (Nat.le_of_ble_eq_true rfl) ⟨Nat.le_refl _, Nat.le_refl _⟩ ⟨Nat.le_refl _, Nat.le_refl _⟩ dd_X8_turn_2 rfl (fun M1 h => ?_) (fun a1 M1 h => ?_)
  · replace h := h.1 rfl
    refine hb_astore_nN (q := 6) (lv' := [some (.ref 0), some (.int v1), some (.int v2), some (.null), none]) hc dd_X8_turn_5 rfl (Nat.le_of_ble_eq_true rfl) rfl ?_
    refine hb_aload_nN (q := 7) hc dd_X8_turn_6 rfl rfl ?_
    refine hb_ifnonnullN (q := 10) hc dd_X8_turn_7 rfl ?_
    refine hb_bipush (q := 12) (v := (-2)) hc dd_X8_turn_10 rfl bp_m2 ?_
    exact hb_iret hc rfl dd_X8_turn_12 h
  · obtain ⟨ha1, h⟩ := h.2 a1 rfl
    refine hb_astore_n (q := 6) (lv' := [some (.ref 0), some (.int v1), some (.int v2), some (.ref a1), none]) hc dd_X8_turn_5 rfl (Nat.le_of_ble_eq_true rfl) rfl ?_
    refine hb_aload_n (q := 7) hc dd_X8_turn_6 rfl rfl ?_
    refine hb_ifnonnull (tg := 13) hc dd_X8_turn_7 (by decide) ?_
    refine hb_iload_n (q := 14) hc dd_X8_turn_13 rfl rfl ?_
    refine hb_if_lt (q := 17) (tg := 23) hc dd_X8_turn_14 rfl (by decide) (fun z => ?_) (fun z => ?_)
    · replace h := h.1 z
      refine hb_bipush (q := 25) (v := (-3)) hc dd_X8_turn_23 rfl bp_m3 ?_
      exact hb_iret hc rfl dd_X8_turn_25 h
    · replace h := h.2 z
      refine hb_iload_n (q := 18) hc dd_X8_turn_17 rfl rfl ?_
      refine hb_bipush (q := 20) (v := 99) hc dd_X8_turn_18 rfl bp_99 ?_
      refine hb_icmp_le (q := 23) (tg := 26) hc dd_X8_turn_20 rfl (by decide) (fun z => ?_) (fun z => ?_)
      · replace h := h.1 z
        refine hb_aload_n (q := 27) hc dd_X8_turn_26 rfl rfl ?_
        refine hb_getI (q := 30) (v := M1.1 a1 0) hc fl_X8_252 (tp_s ha1) (tp_l ha1) rfl rfl dd_X8_turn_27 rfl ?_
        refine hb_if_ne (q := 33) (tg := 36) hc dd_X8_turn_30 rfl (by decide) (fun z => ?_) (fun z => ?_)
        · replace h := h.1 z
          refine hb_aload_n (q := 37) hc dd_X8_turn_36 rfl rfl ?_
          refine hb_getI (q := 40) (v := M1.1 a1 1) hc fl_X8_255 (tp_s ha1) (tp_l ha1) rfl rfl dd_X8_turn_37 rfl ?_
          refine hb_if_ne (q := 43) (tg := 46) hc dd_X8_turn_40 rfl (by decide) (fun z => ?_) (fun z => ?_)
          · replace h := h.1 z
            refine hb_iconst (q := 47) (v := 0) hc dd_X8_turn_46 rfl ic_0 ?_
            refine hb_istore (q := 49) (lv' := [some (.ref 0), some (.int v1), some (.int v2), some (.ref a1), some (.int 0)]) hc dd_X8_turn_47 rfl (Nat.le_of_ble_eq_true rfl) rfl ?_
            exact hb_weak (lvn (lvn (lvs (lvs (lvs lvz))))) (h p l e s m args below meth c G hc)
          · replace h := h.2 z
            refine hb_bipush (q := 45) (v := (-12)) hc dd_X8_turn_43 rfl bp_m12 ?_
            exact hb_iret hc rfl dd_X8_turn_45 h
        · replace h := h.2 z
          refine hb_bipush (q := 35) (v := (-11)) hc dd_X8_turn_33 rfl bp_m11 ?_
          exact hb_iret hc rfl dd_X8_turn_35 h
      · replace h := h.2 z
        refine hb_bipush (q := 25) (v := (-3)) hc dd_X8_turn_23 rfl bp_m3 ?_
        exact hb_iret hc rfl dd_X8_turn_25 h
theorem w_X8_find {d : Nat} {M : Mm} {v1 : Int32} {v2 : Int32} {v3 : Int32} {K : Int32 → Mm → Prop}  (h : ACr d X8_tapeAt [.ref 0, .int v1] M (fun r1 M1 => (r1 = none → (K (-2) M1)) ∧ (∀ a1 : Nat, r1 = some a1 → isTp a1 ∧ ((v2 < 0 → (K (-3) M1)) ∧ (¬ v2 < 0 → ((2 < v2 → (K (-3) M1)) ∧ (¬ 2 < v2 → (ACi d X8_isNumber [.int v3] M1 (fun r2 M2 => (¬ r2 = 0 → ((¬ (M2.1 a1 0) = 0 → ((¬ v2 = 2 → ((¬ (M2.1 a1 1) = 0 → ((¬ v2 = 0 → (ACi d X5_least [.ref a1] M2 (fun r3 M3 => K (r3 + 50000) M3))) ∧ (v2 = 0 → (ACi d X5_greatest [.ref a1] M2 (fun r4 M4 => K (r4 + 50000) M4))))) ∧ ((M2.1 a1 1) = 0 → (K (-12) M2)))) ∧ (v2 = 2 → (ACi d X5_howMany [.ref a1, .int v3] M2 (fun r5 M5 => K r5 M5))))) ∧ ((M2.1 a1 0) = 0 → (K (-11) M2)))) ∧ (r2 = 0 → (K (-3) M2))))))))))) : ACi (d + 1) X8_find [.ref 0, .int v1, .int v2, .int v3] M K := by
  refine AC.ofW (lv := [some (.ref 0), some (.int v1), some (.int v2), some (.int v3), none, none]) pn_X8 (Nat.le_of_ble_eq_true rfl) (show lvLe _ [some (.ref 0), some (.int v1), some (.int v2), some (.int v3)] from (lvs (lvs (lvs (lvs (lve (lve lvz))))))) ?_
  intro p l e s m args below meth c G hc
  refine hb_aload_n (q := 1) hc dd_X8_find_0 rfl rfl ?_
  refine hb_iload_n (q := 2) hc dd_X8_find_1 rfl rfl ?_
  refine hb_callVr (q := 5) (vs := [.int v1]) (st := []) hc mv_X8_112 h sh0 sl0 rfl rfl rfl (Nat.le_of_ble_eq_true rfl) ⟨Nat.le_refl _, Nat.le_refl _⟩ ⟨Nat.le_refl _, Nat.le_refl _⟩ dd_X8_find_2 rfl (fun M1 h => ?_) (fun a1 M1 h => ?_)
  · replace h := h.1 rfl
    refine hb_astoreN (q := 7) (lv' := [some (.ref 0), some (.int v1), some (.int v2), some (.int v3), some (.null), none]) hc dd_X8_find_5 rfl (Nat.le_of_ble_eq_true rfl) rfl ?_
    refine hb_aloadN (q := 9) hc dd_X8_find_7 rfl rfl ?_
    refine hb_ifnonnullN (q := 12) hc dd_X8_find_9 rfl ?_
    refine hb_bipush (q := 14) (v := (-2)) hc dd_X8_find_12 rfl bp_m2 ?_
    exact hb_iret hc rfl dd_X8_find_14 h
  · obtain ⟨ha1, h⟩ := h.2 a1 rfl
    refine hb_astore (q := 7) (lv' := [some (.ref 0), some (.int v1), some (.int v2), some (.int v3), some (.ref a1), none]) hc dd_X8_find_5 rfl (Nat.le_of_ble_eq_true rfl) rfl ?_
    refine hb_aload (q := 9) hc dd_X8_find_7 rfl rfl ?_
    refine hb_ifnonnull (tg := 15) hc dd_X8_find_9 (by decide) ?_
    refine hb_iload_n (q := 16) hc dd_X8_find_15 rfl rfl ?_
    refine hb_if_lt (q := 19) (tg := 31) hc dd_X8_find_16 rfl (by decide) (fun z => ?_) (fun z => ?_)
    · replace h := h.1 z
      refine hb_bipush (q := 33) (v := (-3)) hc dd_X8_find_31 rfl bp_m3 ?_
      exact hb_iret hc rfl dd_X8_find_33 h
    · replace h := h.2 z
      refine hb_iload_n (q := 20) hc dd_X8_find_19 rfl rfl ?_
      refine hb_iconst (q := 21) (v := 2) hc dd_X8_find_20 rfl ic_2 ?_
      refine hb_icmp_gt (q := 24) (tg := 31) hc dd_X8_find_21 rfl (by decide) (fun z => ?_) (fun z => ?_)
      · replace h := h.1 z
        refine hb_bipush (q := 33) (v := (-3)) hc dd_X8_find_31 rfl bp_m3 ?_
        exact hb_iret hc rfl dd_X8_find_33 h
      · replace h := h.2 z
        refine hb_iload_n (q := 25) hc dd_X8_find_24 rfl rfl ?_
        refine hb_callSi (q := 28) (vs := [.int v3]) (st := []) hc mv_X8_249 h rfl rfl (Nat.le_of_ble_eq_true rfl) ⟨Nat.le_refl _, Nat.le_refl _⟩ ⟨Nat.le_refl _, Nat.le_refl _⟩ dd_X8_find_25 rfl (fun r2 M2 h => ?_)
        refine hb_if_ne (q := 31) (tg := 34) hc dd_X8_find_28 rfl (by decide) (fun z => ?_) (fun z => ?_)
        · replace h := h.1 z
          refine hb_aload (q := 36) hc dd_X8_find_34 rfl rfl ?_
          refine hb_getI (q := 39) (v := M2.1 a1 0) hc fl_X8_252 (tp_s ha1) (tp_l ha1) rfl rfl dd_X8_find_36 rfl ?_
          refine hb_if_ne (q := 42) (tg := 45) hc dd_X8_find_39 rfl (by decide) (fun z => ?_) (fun z => ?_)
          · replace h := h.1 z
            refine hb_iload_n (q := 46) hc dd_X8_find_45 rfl rfl ?_
            refine hb_iconst (q := 47) (v := 2) hc dd_X8_find_46 rfl ic_2 ?_
            refine hb_icmp_ne (q := 50) (tg := 57) hc dd_X8_find_47 rfl (by decide) (fun z => ?_) (fun z => ?_)
            · replace h := h.1 z
              refine hb_aload (q := 59) hc dd_X8_find_57 rfl rfl ?_
              refine hb_getI (q := 62) (v := M2.1 a1 1) hc fl_X8_255 (tp_s ha1) (tp_l ha1) rfl rfl dd_X8_find_59 rfl ?_
              refine hb_if_ne (q := 65) (tg := 68) hc dd_X8_find_62 rfl (by decide) (fun z => ?_) (fun z => ?_)
              · replace h := h.1 z
                refine hb_iload_n (q := 69) hc dd_X8_find_68 rfl rfl ?_
                refine hb_if_ne (q := 72) (tg := 80) hc dd_X8_find_69 rfl (by decide) (fun z => ?_) (fun z => ?_)
                · replace h := h.1 z
                  refine hb_aload (q := 82) hc dd_X8_find_80 rfl rfl ?_
                  refine hb_callVi (q := 85) (vs := []) (st := []) hc mv_X8_275 h (tp_s ha1) (tp_l ha1) rfl rfl rfl (Nat.le_of_ble_eq_true rfl) ⟨Nat.le_refl _, Nat.le_refl _⟩ ⟨Nat.le_refl _, Nat.le_refl _⟩ dd_X8_find_82 rfl (fun r3 M3 h => ?_)
                  refine hb_istore (q := 87) (lv' := [some (.ref 0), some (.int v1), some (.int v2), some (.int v3), some (.ref a1), some (.int r3)]) hc dd_X8_find_85 rfl (Nat.le_of_ble_eq_true rfl) rfl ?_
                  refine hb_iload (q := 89) hc dd_X8_find_87 rfl rfl ?_
                  refine hb_ldcw (q := 92) (v := 50000) hc dd_X8_find_89 rfl iw_806 ?_
                  refine hb_iadd (q := 93) hc dd_X8_find_92 rfl ?_
                  exact hb_iret hc rfl dd_X8_find_93 h
                · replace h := h.2 z
                  refine hb_aload (q := 74) hc dd_X8_find_72 rfl rfl ?_
                  refine hb_callVi (q := 77) (vs := []) (st := []) hc mv_X8_272 h (tp_s ha1) (tp_l ha1) rfl rfl rfl (Nat.le_of_ble_eq_true rfl) ⟨Nat.le_refl _, Nat.le_refl _⟩ ⟨Nat.le_refl _, Nat.le_refl _⟩ dd_X8_find_74 rfl (fun r4 M4 h => ?_)
                  refine hb_goto (tg := 85) hc dd_X8_find_77 (by decide) ?_
                  refine hb_istore (q := 87) (lv' := [some (.ref 0), some (.int v1), some (.int v2), some (.int v3), some (.ref a1), some (.int r4)]) hc dd_X8_find_85 rfl (Nat.le_of_ble_eq_true rfl) rfl ?_
                  refine hb_iload (q := 89) hc dd_X8_find_87 rfl rfl ?_
                  refine hb_ldcw (q := 92) (v := 50000) hc dd_X8_find_89 rfl iw_806 ?_
                  refine hb_iadd (q := 93) hc dd_X8_find_92 rfl ?_
                  exact hb_iret hc rfl dd_X8_find_93 h
              · replace h := h.2 z
                refine hb_bipush (q := 67) (v := (-12)) hc dd_X8_find_65 rfl bp_m12 ?_
                exact hb_iret hc rfl dd_X8_find_67 h
            · replace h := h.2 z
              refine hb_aload (q := 52) hc dd_X8_find_50 rfl rfl ?_
              refine hb_iload_n (q := 53) hc dd_X8_find_52 rfl rfl ?_
              refine hb_callVi (q := 56) (vs := [.int v3]) (st := []) hc mv_X8_269 h (tp_s ha1) (tp_l ha1) rfl rfl rfl (Nat.le_of_ble_eq_true rfl) ⟨Nat.le_refl _, Nat.le_refl _⟩ ⟨Nat.le_refl _, Nat.le_refl _⟩ dd_X8_find_53 rfl (fun r5 M5 h => ?_)
              exact hb_iret hc rfl dd_X8_find_56 h
          · replace h := h.2 z
            refine hb_bipush (q := 44) (v := (-11)) hc dd_X8_find_42 rfl bp_m11 ?_
            exact hb_iret hc rfl dd_X8_find_44 h
        · replace h := h.2 z
          refine hb_bipush (q := 33) (v := (-3)) hc dd_X8_find_31 rfl bp_m3 ?_
          exact hb_iret hc rfl dd_X8_find_33 h
theorem w_X8_strike {d : Nat} {M : Mm} {v1 : Int32} {v2 : Int32} {K : Int32 → Mm → Prop}  (h : ACr d X8_tapeAt [.ref 0, .int v1] M (fun r1 M1 => (r1 = none → (K (-2) M1)) ∧ (∀ a1 : Nat, r1 = some a1 → isTp a1 ∧ (ACi d X8_isNumber [.int v2] M1 (fun r2 M2 => (¬ r2 = 0 → ((¬ (M2.1 a1 0) = 0 → (ACi d X5_removeAll [.ref a1, .int v2] M2 (fun r3 M3 => K r3 M3))) ∧ ((M2.1 a1 0) = 0 → (K (-11) M2)))) ∧ (r2 = 0 → (K (-3) M2))))))) : ACi (d + 1) X8_strike [.ref 0, .int v1, .int v2] M K := by
  refine AC.ofW (lv := [some (.ref 0), some (.int v1), some (.int v2), none]) pn_X8 (Nat.le_of_ble_eq_true rfl) (show lvLe _ [some (.ref 0), some (.int v1), some (.int v2)] from (lvs (lvs (lvs (lve lvz))))) ?_
  intro p l e s m args below meth c G hc
  refine hb_aload_n (q := 1) hc dd_X8_strike_0 rfl rfl ?_
  refine hb_iload_n (q := 2) hc dd_X8_strike_1 rfl rfl ?_
  refine hb_callVr (q := 5) (vs := [.int v1]) (st := []) hc mv_X8_112 h sh0 sl0 rfl rfl rfl (Nat.le_of_ble_eq_true rfl) ⟨Nat.le_refl _, Nat.le_refl _⟩ ⟨Nat.le_refl _, Nat.le_refl _⟩ dd_X8_strike_2 rfl (fun M1 h => ?_) (fun a1 M1 h => ?_)
  · replace h := h.1 rfl
    refine hb_astore_nN (q := 6) (lv' := [some (.ref 0), some (.int v1), some (.int v2), some (.null)]) hc dd_X8_strike_5 rfl (Nat.le_of_ble_eq_true rfl) rfl ?_
    refine hb_aload_nN (q := 7) hc dd_X8_strike_6 rfl rfl ?_
    refine hb_ifnonnullN (q := 10) hc dd_X8_strike_7 rfl ?_
    refine hb_bipush (q := 12) (v := (-2)) hc dd_X8_strike_10 rfl bp_m2 ?_
    exact hb_iret hc rfl dd_X8_strike_12 h
  · obtain ⟨ha1, h⟩ := h.2 a1 rfl
    refine hb_astore_n (q := 6) (lv' := [some (.ref 0), some (.int v1), some (.int v2), some (.ref a1)]) hc dd_X8_strike_5 rfl (Nat.le_of_ble_eq_true rfl) rfl ?_
    refine hb_aload_n (q := 7) hc dd_X8_strike_6 rfl rfl ?_
    refine hb_ifnonnull (tg := 13) hc dd_X8_strike_7 (by decide) ?_
    refine hb_iload_n (q := 14) hc dd_X8_strike_13 rfl rfl ?_
    refine hb_callSi (q := 17) (vs := [.int v2]) (st := []) hc mv_X8_249 h rfl rfl (Nat.le_of_ble_eq_true rfl) ⟨Nat.le_refl _, Nat.le_refl _⟩ ⟨Nat.le_refl _, Nat.le_refl _⟩ dd_X8_strike_14 rfl (fun r2 M2 h => ?_)
    refine hb_if_ne (q := 20) (tg := 23) hc dd_X8_strike_17 rfl (by decide) (fun z => ?_) (fun z => ?_)
    · replace h := h.1 z
      refine hb_aload_n (q := 24) hc dd_X8_strike_23 rfl rfl ?_
      refine hb_getI (q := 27) (v := M2.1 a1 0) hc fl_X8_252 (tp_s ha1) (tp_l ha1) rfl rfl dd_X8_strike_24 rfl ?_
      refine hb_if_ne (q := 30) (tg := 33) hc dd_X8_strike_27 rfl (by decide) (fun z => ?_) (fun z => ?_)
      · replace h := h.1 z
        refine hb_aload_n (q := 34) hc dd_X8_strike_33 rfl rfl ?_
        refine hb_iload_n (q := 35) hc dd_X8_strike_34 rfl rfl ?_
        refine hb_callVi (q := 38) (vs := [.int v2]) (st := []) hc mv_X8_278 h (tp_s ha1) (tp_l ha1) rfl rfl rfl (Nat.le_of_ble_eq_true rfl) ⟨Nat.le_refl _, Nat.le_refl _⟩ ⟨Nat.le_refl _, Nat.le_refl _⟩ dd_X8_strike_35 rfl (fun r3 M3 h => ?_)
        exact hb_iret hc rfl dd_X8_strike_38 h
      · replace h := h.2 z
        refine hb_bipush (q := 32) (v := (-11)) hc dd_X8_strike_30 rfl bp_m11 ?_
        exact hb_iret hc rfl dd_X8_strike_32 h
    · replace h := h.2 z
      refine hb_bipush (q := 22) (v := (-3)) hc dd_X8_strike_20 rfl bp_m3 ?_
      exact hb_iret hc rfl dd_X8_strike_22 h
def lp_X8_load_98 (d : Nat) (M : Mm) (v4 : Nat) (v5 : Int32) (v6 : Int32) (K : Int32 → Mm → Prop) : Prop := AW (d + 1) X8_load M 98 [none, none, none, none, some (.ref v4), some (.int v5), some (.int v6)] [] (QI K)
theorem z_X8_load_98 {d : Nat} {M : Mm} {v4 : Nat} {v5 : Int32} {v6 : Int32} {K : Int32 → Mm → Prop} (hv4 : isTp v4) (h : (v6 < 0 → (K (M.1 v4 1) M)) ∧ (¬ v6 < 0 → (ACv d X5_addBehind [.ref v4, .int ((v5 >>> (v6 &&& 31)) &&& 1)] M (fun M1 => lp_X8_load_98 d M1 v4 v5 (v6 + (-1)) K)))) : lp_X8_load_98 d M v4 v5 v6 K := by
  intro p l e s m args below meth c G hc
  refine hb_iload (q := 100) hc dd_X8_load_98 rfl rfl ?_
  refine hb_if_lt (q := 103) (tg := 121) hc dd_X8_load_100 rfl (by decide) (fun z => ?_) (fun z => ?_)
  · replace h := h.1 z
    refine hb_aload (q := 123) hc dd_X8_load_121 rfl rfl ?_
    refine hb_getI (q := 126) (v := M.1 v4 1) hc fl_X8_255 (tp_s hv4) (tp_l hv4) rfl rfl dd_X8_load_123 rfl ?_
    exact hb_iret hc rfl dd_X8_load_126 h
  · replace h := h.2 z
    refine hb_aload (q := 105) hc dd_X8_load_103 rfl rfl ?_
    refine hb_iload (q := 107) hc dd_X8_load_105 rfl rfl ?_
    refine hb_iload (q := 109) hc dd_X8_load_107 rfl rfl ?_
    refine hb_ishr (q := 110) hc dd_X8_load_109 rfl ?_
    refine hb_iconst (q := 111) (v := 1) hc dd_X8_load_110 rfl ic_1 ?_
    refine hb_iand (q := 112) hc dd_X8_load_111 rfl ?_
    refine hb_callVv (q := 115) (vs := [.int ((v5 >>> (v6 &&& 31)) &&& 1)]) (st := []) hc mv_X8_259 h (tp_s hv4) (tp_l hv4) rfl rfl rfl (Nat.le_of_ble_eq_true rfl) ⟨Nat.le_refl _, Nat.le_refl _⟩ ⟨Nat.le_refl _, Nat.le_refl _⟩ dd_X8_load_112 rfl (fun M1 h => ?_)
    refine hb_iinc (q := 118) (v := v6 + (-1)) (lv' := [none, none, none, none, some (.ref v4), some (.int v5), some (.int (v6 + (-1)))]) hc dd_X8_load_115 rfl rfl rfl (Nat.le_of_ble_eq_true rfl) rfl ?_
    refine hb_goto (tg := 98) hc dd_X8_load_118 (by decide) ?_
    exact hb_weak (lvn (lvn (lvn (lvn (lvs (lvs (lvs lvz))))))) (h p l e s m args below meth c G hc)
theorem w_X8_load {d : Nat} {M : Mm} {v1 : Int32} {v2 : Int32} {v3 : Int32} {K : Int32 → Mm → Prop}  (h : ACr d X8_tapeAt [.ref 0, .int v1] M (fun r1 M1 => (r1 = none → (K (-2) M1)) ∧ (∀ a1 : Nat, r1 = some a1 → isTp a1 ∧ (ACi d X0_hasRhythm [.ref 3, .int v2] M1 (fun r2 M2 => (¬ r2 = 0 → ((v3 < 0 → (K (-3) M2)) ∧ (¬ v3 < 0 → ((v3 < (M2.1 3 0) → ((¬ (M2.1 a1 0) = 0 → ((((M2.1 a1 1) + (M2.1 3 0)) ≤ 12 → (ACi d X0_turned [.ref 3, .int v2, .int v3] M2 (fun r3 M3 => lp_X8_load_98 d M3 a1 r3 ((M3.1 3 0) - 1) K))) ∧ (¬ ((M2.1 a1 1) + (M2.1 3 0)) ≤ 12 → (K (-13) M2)))) ∧ ((M2.1 a1 0) = 0 → (K (-11) M2)))) ∧ (¬ v3 < (M2.1 3 0) → (K (-3) M2)))))) ∧ (r2 = 0 → (K (-2) M2))))))) : ACi (d + 1) X8_load [.ref 0, .int v1, .int v2, .int v3] M K := by
  refine AC.ofW (lv := [some (.ref 0), some (.int v1), some (.int v2), some (.int v3), none, none, none]) pn_X8 (Nat.le_of_ble_eq_true rfl) (show lvLe _ [some (.ref 0), some (.int v1), some (.int v2), some (.int v3)] from (lvs (lvs (lvs (lvs (lve (lve (lve lvz)))))))) ?_
  intro p l e s m args below meth c G hc
  refine hb_aload_n (q := 1) hc dd_X8_load_0 rfl rfl ?_
  refine hb_iload_n (q := 2) hc dd_X8_load_1 rfl rfl ?_
  refine hb_callVr (q := 5) (vs := [.int v1]) (st := []) hc mv_X8_112 h sh0 sl0 rfl rfl rfl (Nat.le_of_ble_eq_true rfl) ⟨Nat.le_refl _, Nat.le_refl _⟩ ⟨Nat.le_refl _, Nat.le_refl _⟩ dd_X8_load_2 rfl (fun M1 h => ?_) (fun a1 M1 h => ?_)
  · replace h := h.1 rfl
    refine hb_astoreN (q := 7) (lv' := [some (.ref 0), some (.int v1), some (.int v2), some (.int v3), some (.null), none, none]) hc dd_X8_load_5 rfl (Nat.le_of_ble_eq_true rfl) rfl ?_
    refine hb_aloadN (q := 9) hc dd_X8_load_7 rfl rfl ?_
    refine hb_ifnullN (tg := 23) hc dd_X8_load_9 (by decide) ?_
    refine hb_bipush (q := 25) (v := (-2)) hc dd_X8_load_23 rfl bp_m2 ?_
    exact hb_iret hc rfl dd_X8_load_25 h
  · obtain ⟨ha1, h⟩ := h.2 a1 rfl
    refine hb_astore (q := 7) (lv' := [some (.ref 0), some (.int v1), some (.int v2), some (.int v3), some (.ref a1), none, none]) hc dd_X8_load_5 rfl (Nat.le_of_ble_eq_true rfl) rfl ?_
    refine hb_aload (q := 9) hc dd_X8_load_7 rfl rfl ?_
    refine hb_ifnull (q := 12) hc dd_X8_load_9 rfl ?_
    refine hb_aload_n (q := 13) hc dd_X8_load_12 rfl rfl ?_
    refine hb_getR (q := 16) hc fl_X8_19 sh0 sl0 rfl dd_X8_load_13 rfl ?_
    refine hb_iload_n (q := 17) hc dd_X8_load_16 rfl rfl ?_
    refine hb_callVi (q := 20) (vs := [.int v2]) (st := []) hc mv_X8_119 h sh3 sl3 rfl rfl rfl (Nat.le_of_ble_eq_true rfl) ⟨Nat.le_refl _, Nat.le_refl _⟩ ⟨Nat.le_refl _, Nat.le_refl _⟩ dd_X8_load_17 rfl (fun r2 M2 h => ?_)
    refine hb_if_ne (q := 23) (tg := 26) hc dd_X8_load_20 rfl (by decide) (fun z => ?_) (fun z => ?_)
    · replace h := h.1 z
      refine hb_iload_n (q := 27) hc dd_X8_load_26 rfl rfl ?_
      refine hb_if_lt (q := 30) (tg := 41) hc dd_X8_load_27 rfl (by decide) (fun z => ?_) (fun z => ?_)
      · replace h := h.1 z
        refine hb_bipush (q := 43) (v := (-3)) hc dd_X8_load_41 rfl bp_m3 ?_
        exact hb_iret hc rfl dd_X8_load_43 h
      · replace h := h.2 z
        refine hb_iload_n (q := 31) hc dd_X8_load_30 rfl rfl ?_
        refine hb_aload_n (q := 32) hc dd_X8_load_31 rfl rfl ?_
        refine hb_getR (q := 35) hc fl_X8_19 sh0 sl0 rfl dd_X8_load_32 rfl ?_
        refine hb_getI (q := 38) (v := M2.1 3 0) hc fl_X8_201 sh3 sl3 rfl rfl dd_X8_load_35 rfl ?_
        refine hb_icmp_lt (q := 41) (tg := 44) hc dd_X8_load_38 rfl (by decide) (fun z => ?_) (fun z => ?_)
        · replace h := h.1 z
          refine hb_aload (q := 46) hc dd_X8_load_44 rfl rfl ?_
          refine hb_getI (q := 49) (v := M2.1 a1 0) hc fl_X8_252 (tp_s ha1) (tp_l ha1) rfl rfl dd_X8_load_46 rfl ?_
          refine hb_if_ne (q := 52) (tg := 55) hc dd_X8_load_49 rfl (by decide) (fun z => ?_) (fun z => ?_)
          · replace h := h.1 z
            refine hb_aload (q := 57) hc dd_X8_load_55 rfl rfl ?_
            refine hb_getI (q := 60) (v := M2.1 a1 1) hc fl_X8_255 (tp_s ha1) (tp_l ha1) rfl rfl dd_X8_load_57 rfl ?_
            refine hb_aload_n (q := 61) hc dd_X8_load_60 rfl rfl ?_
            refine hb_getR (q := 64) hc fl_X8_19 sh0 sl0 rfl dd_X8_load_61 rfl ?_
            refine hb_getI (q := 67) (v := M2.1 3 0) hc fl_X8_201 sh3 sl3 rfl rfl dd_X8_load_64 rfl ?_
            refine hb_iadd (q := 68) hc dd_X8_load_67 rfl ?_
            refine hb_bipush (q := 70) (v := 12) hc dd_X8_load_68 rfl bp_12 ?_
            refine hb_icmp_le (q := 73) (tg := 76) hc dd_X8_load_70 rfl (by decide) (fun z => ?_) (fun z => ?_)
            · replace h := h.1 z
              refine hb_aload_n (q := 77) hc dd_X8_load_76 rfl rfl ?_
              refine hb_getR (q := 80) hc fl_X8_19 sh0 sl0 rfl dd_X8_load_77 rfl ?_
              refine hb_iload_n (q := 81) hc dd_X8_load_80 rfl rfl ?_
              refine hb_iload_n (q := 82) hc dd_X8_load_81 rfl rfl ?_
              refine hb_callVi (q := 85) (vs := [.int v2, .int v3]) (st := []) hc mv_X8_131 h sh3 sl3 rfl rfl rfl (Nat.le_of_ble_eq_true rfl) ⟨Nat.le_refl _, Nat.le_refl _⟩ ⟨Nat.le_refl _, Nat.le_refl _⟩ dd_X8_load_82 rfl (fun r3 M3 h => ?_)
              refine hb_istore (q := 87) (lv' := [some (.ref 0), some (.int v1), some (.int v2), some (.int v3), some (.ref a1), some (.int r3), none]) hc dd_X8_load_85 rfl (Nat.le_of_ble_eq_true rfl) rfl ?_
              refine hb_aload_n (q := 88) hc dd_X8_load_87 rfl rfl ?_
              refine hb_getR (q := 91) hc fl_X8_19 sh0 sl0 rfl dd_X8_load_88 rfl ?_
              refine hb_getI (q := 94) (v := M3.1 3 0) hc fl_X8_201 sh3 sl3 rfl rfl dd_X8_load_91 rfl ?_
              refine hb_iconst (q := 95) (v := 1) hc dd_X8_load_94 rfl ic_1 ?_
              refine hb_isub (q := 96) hc dd_X8_load_95 rfl ?_
              refine hb_istore (q := 98) (lv' := [some (.ref 0), some (.int v1), some (.int v2), some (.int v3), some (.ref a1), some (.int r3), some (.int ((M3.1 3 0) - 1))]) hc dd_X8_load_96 rfl (Nat.le_of_ble_eq_true rfl) rfl ?_
              exact hb_weak (lvn (lvn (lvn (lvn (lvs (lvs (lvs lvz))))))) (h p l e s m args below meth c G hc)
            · replace h := h.2 z
              refine hb_bipush (q := 75) (v := (-13)) hc dd_X8_load_73 rfl bp_m13 ?_
              exact hb_iret hc rfl dd_X8_load_75 h
          · replace h := h.2 z
            refine hb_bipush (q := 54) (v := (-11)) hc dd_X8_load_52 rfl bp_m11 ?_
            exact hb_iret hc rfl dd_X8_load_54 h
        · replace h := h.2 z
          refine hb_bipush (q := 43) (v := (-3)) hc dd_X8_load_41 rfl bp_m3 ?_
          exact hb_iret hc rfl dd_X8_load_43 h
    · replace h := h.2 z
      refine hb_bipush (q := 25) (v := (-2)) hc dd_X8_load_23 rfl bp_m2 ?_
      exact hb_iret hc rfl dd_X8_load_25 h
theorem w_X8_drop {d : Nat} {M : Mm} {v1 : Int32} {K : Int32 → Mm → Prop}  (h : ACr d X8_tapeAt [.ref 0, .int v1] M (fun r1 M1 => (r1 = none → (K (-2) M1)) ∧ (∀ a1 : Nat, r1 = some a1 → isTp a1 ∧ ((¬ (M1.1 a1 0) = 0 → (ACv d X5_vanish [.ref a1] M1 (fun M2 => K (M1.1 a1 1) M2))) ∧ ((M1.1 a1 0) = 0 → (K (-11) M1)))))) : ACi (d + 1) X8_drop [.ref 0, .int v1] M K := by
  refine AC.ofW (lv := [some (.ref 0), some (.int v1), none, none]) pn_X8 (Nat.le_of_ble_eq_true rfl) (show lvLe _ [some (.ref 0), some (.int v1)] from (lvs (lvs (lve (lve lvz))))) ?_
  intro p l e s m args below meth c G hc
  refine hb_aload_n (q := 1) hc dd_X8_drop_0 rfl rfl ?_
  refine hb_iload_n (q := 2) hc dd_X8_drop_1 rfl rfl ?_
  refine hb_callVr (q := 5) (vs := [.int v1]) (st := []) hc mv_X8_112 h sh0 sl0 rfl rfl rfl (Nat.le_of_ble_eq_true rfl) ⟨Nat.le_refl _, Nat.le_refl _⟩ ⟨Nat.le_refl _, Nat.le_refl _⟩ dd_X8_drop_2 rfl (fun M1 h => ?_) (fun a1 M1 h => ?_)
  · replace h := h.1 rfl
    refine hb_astore_nN (q := 6) (lv' := [some (.ref 0), some (.int v1), some (.null), none]) hc dd_X8_drop_5 rfl (Nat.le_of_ble_eq_true rfl) rfl ?_
    refine hb_aload_nN (q := 7) hc dd_X8_drop_6 rfl rfl ?_
    refine hb_ifnonnullN (q := 10) hc dd_X8_drop_7 rfl ?_
    refine hb_bipush (q := 12) (v := (-2)) hc dd_X8_drop_10 rfl bp_m2 ?_
    exact hb_iret hc rfl dd_X8_drop_12 h
  · obtain ⟨ha1, h⟩ := h.2 a1 rfl
    refine hb_astore_n (q := 6) (lv' := [some (.ref 0), some (.int v1), some (.ref a1), none]) hc dd_X8_drop_5 rfl (Nat.le_of_ble_eq_true rfl) rfl ?_
    refine hb_aload_n (q := 7) hc dd_X8_drop_6 rfl rfl ?_
    refine hb_ifnonnull (tg := 13) hc dd_X8_drop_7 (by decide) ?_
    refine hb_aload_n (q := 14) hc dd_X8_drop_13 rfl rfl ?_
    refine hb_getI (q := 17) (v := M1.1 a1 0) hc fl_X8_252 (tp_s ha1) (tp_l ha1) rfl rfl dd_X8_drop_14 rfl ?_
    refine hb_if_ne (q := 20) (tg := 23) hc dd_X8_drop_17 rfl (by decide) (fun z => ?_) (fun z => ?_)
    · replace h := h.1 z
      refine hb_aload_n (q := 24) hc dd_X8_drop_23 rfl rfl ?_
      refine hb_getI (q := 27) (v := M1.1 a1 1) hc fl_X8_255 (tp_s ha1) (tp_l ha1) rfl rfl dd_X8_drop_24 rfl ?_
      refine hb_istore_n (q := 28) (lv' := [some (.ref 0), some (.int v1), some (.ref a1), some (.int (M1.1 a1 1))]) hc dd_X8_drop_27 rfl (Nat.le_of_ble_eq_true rfl) rfl ?_
      refine hb_aload_n (q := 29) hc dd_X8_drop_28 rfl rfl ?_
      refine hb_callVv (q := 32) (vs := []) (st := []) hc mv_X8_116 h (tp_s ha1) (tp_l ha1) rfl rfl rfl (Nat.le_of_ble_eq_true rfl) ⟨Nat.le_refl _, Nat.le_refl _⟩ ⟨Nat.le_refl _, Nat.le_refl _⟩ dd_X8_drop_29 rfl (fun M2 h => ?_)
      refine hb_iload_n (q := 33) hc dd_X8_drop_32 rfl rfl ?_
      exact hb_iret hc rfl dd_X8_drop_33 h
    · replace h := h.2 z
      refine hb_bipush (q := 22) (v := (-11)) hc dd_X8_drop_20 rfl bp_m11 ?_
      exact hb_iret hc rfl dd_X8_drop_22 h
theorem w_X8_count {d : Nat} {M : Mm} {v1 : Int32} {K : Int32 → Mm → Prop}  (h : (v1 = 0 → (K (M.1 3 0) M)) ∧ (v1 = 1 → (K (M.1 3 1) M)) ∧ (v1 = 2 → (K (M.1 3 2) M)) ∧ (v1 = 3 → (K (M.1 3 3) M)) ∧ (v1 = 4 → (K (M.1 13 0) M)) ∧ (v1 = 5 → (ACi d X2_litOnes [.ref 13] M (fun r1 M1 => K r1 M1))) ∧ (v1 = 6 → (ACi d X8_clashes [.ref 0] M (fun r2 M2 => K r2 M2))) ∧ (v1 = 7 → (ACi d X7_size [.ref 34] M (fun r3 M3 => K r3 M3))) ∧ (v1 = 8 → (ACi d X8_numbersOnTapes [.ref 0] M (fun r4 M4 => K r4 M4))) ∧ (v1 = 9 → (K (M.1 22 0) M)) ∧ (v1 = 10 → (K (M.1 1 0) M)) ∧ (v1 < 0 ∨ nI 10 < v1 → (K (-3) M))) : ACi (d + 1) X8_count [.ref 0, .int v1] M K := by
  refine AC.ofW (lv := [some (.ref 0), some (.int v1)]) pn_X8 (Nat.le_of_ble_eq_true rfl) (show lvLe _ [some (.ref 0), some (.int v1)] from (lvs (lvs lvz))) ?_
  intro p l e s m args below meth c G hc
  refine hb_iload_n (q := 1) hc dd_X8_count_0 rfl rfl ?_
  by_cases zo : v1 < 0 ∨ nI 10 < v1
  · replace h := h.2.2.2.2.2.2.2.2.2.2.2 zo
    refine hb_tableOut (tg := 142) hc dd_X8_count_1 (sw_out (k := 10) (by decide) zo) (by decide) ?_
    refine hb_bipush (q := 144) (v := (-3)) hc dd_X8_count_142 rfl bp_m3 ?_
    exact hb_iret hc rfl dd_X8_count_144 h
  · have zi := sw_in10 zo
    rcases zi with z | z | z | z | z | z | z | z | z | z | z
    · replace h := h.1 z
      refine hb_tableIn (off := 59) (tg := 60) hc dd_X8_count_1 (by rw [z]; decide) (by rw [z]; decide) (by rw [z]; rfl) (by decide) ?_
      refine hb_aload_n (q := 61) hc dd_X8_count_60 rfl rfl ?_
      refine hb_getR (q := 64) hc fl_X8_19 sh0 sl0 rfl dd_X8_count_61 rfl ?_
      refine hb_getI (q := 67) (v := M.1 3 0) hc fl_X8_201 sh3 sl3 rfl rfl dd_X8_count_64 rfl ?_
      exact hb_iret hc rfl dd_X8_count_67 h
    · replace h := h.2.1 z
      refine hb_tableIn (off := 67) (tg := 68) hc dd_X8_count_1 (by rw [z]; decide) (by rw [z]; decide) (by rw [z]; rfl) (by decide) ?_
      refine hb_aload_n (q := 69) hc dd_X8_count_68 rfl rfl ?_
      refine hb_getR (q := 72) hc fl_X8_19 sh0 sl0 rfl dd_X8_count_69 rfl ?_
      refine hb_getI (q := 75) (v := M.1 3 1) hc fl_X8_281 sh3 sl3 rfl rfl dd_X8_count_72 rfl ?_
      exact hb_iret hc rfl dd_X8_count_75 h
    · replace h := h.2.2.1 z
      refine hb_tableIn (off := 75) (tg := 76) hc dd_X8_count_1 (by rw [z]; decide) (by rw [z]; decide) (by rw [z]; rfl) (by decide) ?_
      refine hb_aload_n (q := 77) hc dd_X8_count_76 rfl rfl ?_
      refine hb_getR (q := 80) hc fl_X8_19 sh0 sl0 rfl dd_X8_count_77 rfl ?_
      refine hb_getI (q := 83) (v := M.1 3 2) hc fl_X8_152 sh3 sl3 rfl rfl dd_X8_count_80 rfl ?_
      exact hb_iret hc rfl dd_X8_count_83 h
    · replace h := h.2.2.2.1 z
      refine hb_tableIn (off := 83) (tg := 84) hc dd_X8_count_1 (by rw [z]; decide) (by rw [z]; decide) (by rw [z]; rfl) (by decide) ?_
      refine hb_aload_n (q := 85) hc dd_X8_count_84 rfl rfl ?_
      refine hb_getR (q := 88) hc fl_X8_19 sh0 sl0 rfl dd_X8_count_85 rfl ?_
      refine hb_getI (q := 91) (v := M.1 3 3) hc fl_X8_284 sh3 sl3 rfl rfl dd_X8_count_88 rfl ?_
      exact hb_iret hc rfl dd_X8_count_91 h
    · replace h := h.2.2.2.2.1 z
      refine hb_tableIn (off := 91) (tg := 92) hc dd_X8_count_1 (by rw [z]; decide) (by rw [z]; decide) (by rw [z]; rfl) (by decide) ?_
      refine hb_aload_n (q := 93) hc dd_X8_count_92 rfl rfl ?_
      refine hb_getR (q := 96) hc fl_X8_29 sh0 sl0 rfl dd_X8_count_93 rfl ?_
      refine hb_getI (q := 99) (v := M.1 13 0) hc fl_X8_161 sh13 sl13 rfl rfl dd_X8_count_96 rfl ?_
      exact hb_iret hc rfl dd_X8_count_99 h
    · replace h := h.2.2.2.2.2.1 z
      refine hb_tableIn (off := 99) (tg := 100) hc dd_X8_count_1 (by rw [z]; decide) (by rw [z]; decide) (by rw [z]; rfl) (by decide) ?_
      refine hb_aload_n (q := 101) hc dd_X8_count_100 rfl rfl ?_
      refine hb_getR (q := 104) hc fl_X8_29 sh0 sl0 rfl dd_X8_count_101 rfl ?_
      refine hb_callVi (q := 107) (vs := []) (st := []) hc mv_X8_183 h sh13 sl13 rfl rfl rfl (Nat.le_of_ble_eq_true rfl) ⟨Nat.le_refl _, Nat.le_refl _⟩ ⟨Nat.le_refl _, Nat.le_refl _⟩ dd_X8_count_104 rfl (fun r1 M1 h => ?_)
      exact hb_iret hc rfl dd_X8_count_107 h
    · replace h := h.2.2.2.2.2.2.1 z
      refine hb_tableIn (off := 107) (tg := 108) hc dd_X8_count_1 (by rw [z]; decide) (by rw [z]; decide) (by rw [z]; rfl) (by decide) ?_
      refine hb_aload_n (q := 109) hc dd_X8_count_108 rfl rfl ?_
      refine hb_callVi (q := 112) (vs := []) (st := []) hc mv_X8_285 h sh0 sl0 rfl rfl rfl (Nat.le_of_ble_eq_true rfl) ⟨Nat.le_refl _, Nat.le_refl _⟩ ⟨Nat.le_refl _, Nat.le_refl _⟩ dd_X8_count_109 rfl (fun r2 M2 h => ?_)
      exact hb_iret hc rfl dd_X8_count_112 h
    · replace h := h.2.2.2.2.2.2.2.1 z
      refine hb_tableIn (off := 112) (tg := 113) hc dd_X8_count_1 (by rw [z]; decide) (by rw [z]; decide) (by rw [z]; rfl) (by decide) ?_
      refine hb_aload_n (q := 114) hc dd_X8_count_113 rfl rfl ?_
      refine hb_getR (q := 117) hc fl_X8_63 sh0 sl0 rfl dd_X8_count_114 rfl ?_
      refine hb_callVi (q := 120) (vs := []) (st := []) hc mv_X8_226 h sh34 sl34 rfl rfl rfl (Nat.le_of_ble_eq_true rfl) ⟨Nat.le_refl _, Nat.le_refl _⟩ ⟨Nat.le_refl _, Nat.le_refl _⟩ dd_X8_count_117 rfl (fun r3 M3 h => ?_)
      exact hb_iret hc rfl dd_X8_count_120 h
    · replace h := h.2.2.2.2.2.2.2.2.1 z
      refine hb_tableIn (off := 120) (tg := 121) hc dd_X8_count_1 (by rw [z]; decide) (by rw [z]; decide) (by rw [z]; rfl) (by decide) ?_
      refine hb_aload_n (q := 122) hc dd_X8_count_121 rfl rfl ?_
      refine hb_callVi (q := 125) (vs := []) (st := []) hc mv_X8_288 h sh0 sl0 rfl rfl rfl (Nat.le_of_ble_eq_true rfl) ⟨Nat.le_refl _, Nat.le_refl _⟩ ⟨Nat.le_refl _, Nat.le_refl _⟩ dd_X8_count_122 rfl (fun r4 M4 h => ?_)
      exact hb_iret hc rfl dd_X8_count_125 h
    · replace h := h.2.2.2.2.2.2.2.2.2.1 z
      refine hb_tableIn (off := 125) (tg := 126) hc dd_X8_count_1 (by rw [z]; decide) (by rw [z]; decide) (by rw [z]; rfl) (by decide) ?_
      refine hb_aload_n (q := 127) hc dd_X8_count_126 rfl rfl ?_
      refine hb_getR (q := 130) hc fl_X8_36 sh0 sl0 rfl dd_X8_count_127 rfl ?_
      refine hb_getI (q := 133) (v := M.1 22 0) hc fl_X8_105 sh22 sl22 rfl rfl dd_X8_count_130 rfl ?_
      exact hb_iret hc rfl dd_X8_count_133 h
    · replace h := h.2.2.2.2.2.2.2.2.2.2.1 z
      refine hb_tableIn (off := 133) (tg := 134) hc dd_X8_count_1 (by rw [z]; decide) (by rw [z]; decide) (by rw [z]; rfl) (by decide) ?_
      refine hb_aload_n (q := 135) hc dd_X8_count_134 rfl rfl ?_
      refine hb_getR (q := 138) hc fl_X8_12 sh0 sl0 rfl dd_X8_count_135 rfl ?_
      refine hb_getI (q := 141) (v := M.1 1 0) hc fl_X8_74 sh1 sl1 rfl rfl dd_X8_count_138 rfl ?_
      exact hb_iret hc rfl dd_X8_count_141 h
