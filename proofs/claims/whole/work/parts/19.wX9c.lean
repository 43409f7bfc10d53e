/-! WALKS, by program (wip/whole/gen6.py). -/
def lp_X9_repeats_2 (d : Nat) (M : Mm) (v1 : Int32) (v2 : Int32) (K : Int32 → Mm → Prop) : Prop := AW (d + 1) X9_repeats M 2 [some (.ref 42), some (.int v1), some (.int v2)] [] (QI K)
theorem z_X9_repeats_2 {d : Nat} {M : Mm} {v1 : Int32} {v2 : Int32} {K : Int32 → Mm → Prop}  (h : ACi d X9_rowOf [.ref 42, .int v1, .int v2, .int (M.1 42 1)] M (fun r1 M1 => vp_in v1 8 ∧ ((r1 = (M1.1 44 v1.toNatClampNeg) → (K v2 M1)) ∧ (¬ r1 = (M1.1 44 v1.toNatClampNeg) → (lp_X9_repeats_2 d M1 v1 (v2 + 1) K))))) : lp_X9_repeats_2 d M v1 v2 K := by
  intro p l e s m args below meth c G hc
  refine hb_aload_n (q := 3) hc dd_X9_repeats_2 rfl rfl ?_
  refine hb_iload_n (q := 4) hc dd_X9_repeats_3 rfl rfl ?_
  refine hb_iload_n (q := 5) hc dd_X9_repeats_4 rfl rfl ?_
  refine hb_aload_n (q := 6) hc dd_X9_repeats_5 rfl rfl ?_
  refine hb_getI (q := 9) (v := M.1 42 1) hc fl_X9_86 sh42 sl42 rfl rfl dd_X9_repeats_6 rfl ?_
  refine hb_callVi (q := 12) (vs := [.int v1, .int v2, .int (M.1 42 1)]) (st := []) hc mv_X9_194 h sh42 sl42 rfl rfl rfl (Nat.le_of_ble_eq_true rfl) ⟨Nat.le_refl _, Nat.le_refl _⟩ ⟨Nat.le_refl _, Nat.le_refl _⟩ dd_X9_repeats_9 rfl (fun r1 M1 h => ?_)
  refine hb_aload_n (q := 13) hc dd_X9_repeats_12 rfl rfl ?_
  refine hb_getR (q := 16) hc fl_X9_13 sh42 sl42 rfl dd_X9_repeats_13 rfl ?_
  refine hb_iload_n (q := 17) hc dd_X9_repeats_16 rfl rfl ?_
  obtain ⟨hi, h⟩ := h
  refine hb_iald (q := 18) (v := M1.1 44 v1.toNatClampNeg) hc sh44 sl44 hi rfl rfl dd_X9_repeats_17 rfl ?_
  refine hb_icmp_eq (q := 21) (tg := 27) hc dd_X9_repeats_18 rfl (by decide) (fun z => ?_) (fun z => ?_)
  · replace h := h.1 z
    refine hb_iload_n (q := 28) hc dd_X9_repeats_27 rfl rfl ?_
    exact hb_iret hc rfl dd_X9_repeats_28 h
  · replace h := h.2 z
    refine hb_iinc (q := 24) (v := v2 + 1) (lv' := [some (.ref 42), some (.int v1), some (.int (v2 + 1))]) hc dd_X9_repeats_21 rfl rfl rfl (Nat.le_of_ble_eq_true rfl) rfl ?_
    refine hb_goto (tg := 2) hc dd_X9_repeats_24 (by decide) ?_
    exact hb_weak (lvs (lvs (lvs lvz))) (h p l e s m args below meth c G hc)
theorem w_X9_repeats {d : Nat} {M : Mm} {v1 : Int32} {K : Int32 → Mm → Prop}  (h : lp_X9_repeats_2 d M v1 1 K) : ACi (d + 1) X9_repeats [.ref 42, .int v1] M K := by
  refine AC.ofW (lv := [some (.ref 42), some (.int v1), none]) pn_X9 (Nat.le_of_ble_eq_true rfl) (show lvLe _ [some (.ref 42), some (.int v1)] from (lvs (lvs (lve lvz)))) ?_
  intro p l e s m args below meth c G hc
  refine hb_iconst (q := 1) (v := 1) hc dd_X9_repeats_0 rfl ic_1 ?_
  refine hb_istore_n (q := 2) (lv' := [some (.ref 42), some (.int v1), some (.int 1)]) hc dd_X9_repeats_1 rfl (Nat.le_of_ble_eq_true rfl) rfl ?_
  exact hb_weak (lvs (lvs (lvs lvz))) (h p l e s m args below meth c G hc)
theorem w_X9_rhythm {d : Nat} {M : Mm} {v1 : Int32} {v2 : Int32} {K : Int32 → Mm → Prop}  (h : ACi d X9_isRhythm [.ref 42, .int v1] M (fun r1 M1 => (¬ r1 = 0 → ((v2 = 0 → (vp_in v1 8 ∧ (K (M1.1 44 v1.toNatClampNeg) M1))) ∧ (v2 = 1 → (ACi d X9_leastTurn [.ref 42, .int v1] M1 (fun r2 M2 => ACi d X9_rowOf [.ref 42, .int v1, .int r2, .int (M2.1 42 1)] M2 (fun r3 M3 => K r3 M3)))) ∧ (v2 = 2 → (ACi d X9_repeats [.ref 42, .int v1] M1 (fun r4 M4 => K r4 M4))) ∧ (v2 = 3 → (ACi d X9_flashes [.ref 42, .int v1] M1 (fun r5 M5 => K r5 M5))) ∧ (v2 = 4 → (ACi d X9_leastTurn [.ref 42, .int v1] M1 (fun r6 M6 => K r6 M6))) ∧ (v2 < 0 ∨ nI 4 < v2 → (K (-3) M1)))) ∧ (r1 = 0 → (K (-2) M1)))) : ACi (d + 1) X9_rhythm [.ref 42, .int v1, .int v2] M K := by
  refine AC.ofW (lv := [some (.ref 42), some (.int v1), some (.int v2)]) pn_X9 (Nat.le_of_ble_eq_true rfl) (show lvLe _ [some (.ref 42), some (.int v1), some (.int v2)] from (lvs (lvs (lvs lvz)))) ?_
  intro p l e s m args below meth c G hc
  refine hb_aload_n (q := 1) hc dd_X9_rhythm_0 rfl rfl ?_
  refine hb_iload_n (q := 2) hc dd_X9_rhythm_1 rfl rfl ?_
  refine hb_callVi (q := 5) (vs := [.int v1]) (st := []) hc mv_X9_198 h sh42 sl42 rfl rfl rfl (Nat.le_of_ble_eq_true rfl) ⟨Nat.le_refl _, Nat.le_refl _⟩ ⟨Nat.le_refl _, Nat.le_refl _⟩ dd_X9_rhythm_2 rfl (fun r1 M1 h => ?_)
  refine hb_if_ne (q := 8) (tg := 11) hc dd_X9_rhythm_5 rfl (by decide) (fun z => ?_) (fun z => ?_)
  · replace h := h.1 z
    refine hb_iload_n (q := 12) hc dd_X9_rhythm_11 rfl rfl ?_
    by_cases zo : v2 < 0 ∨ nI 4 < v2
    · replace h := h.2.2.2.2.2 zo
      refine hb_tableOut (tg := 88) hc dd_X9_rhythm_12 (sw_out (k := 4) (by decide) zo) (by decide) ?_
      refine hb_bipush (q := 90) (v := (-3)) hc dd_X9_rhythm_88 rfl bp_m3 ?_
      exact hb_iret hc rfl dd_X9_rhythm_90 h
    · have zi := sw_in4 zo
      rcases zi with z | z | z | z | z
      · replace h := h.1 z
        refine hb_tableIn (off := 36) (tg := 48) hc dd_X9_rhythm_12 (by rw [z]; decide) (by rw [z]; decide) (by rw [z]; rfl) (by decide) ?_
        refine hb_aload_n (q := 49) hc dd_X9_rhythm_48 rfl rfl ?_
        refine hb_getR (q := 52) hc fl_X9_13 sh42 sl42 rfl dd_X9_rhythm_49 rfl ?_
        refine hb_iload_n (q := 53) hc dd_X9_rhythm_52 rfl rfl ?_
        obtain ⟨hi, h⟩ := h
        refine hb_iald (q := 54) (v := M1.1 44 v1.toNatClampNeg) hc sh44 sl44 hi rfl rfl dd_X9_rhythm_53 rfl ?_
        exact hb_iret hc rfl dd_X9_rhythm_54 h
      · replace h := h.2.1 z
        refine hb_tableIn (off := 43) (tg := 55) hc dd_X9_rhythm_12 (by rw [z]; decide) (by rw [z]; decide) (by rw [z]; rfl) (by decide) ?_
        refine hb_aload_n (q := 56) hc dd_X9_rhythm_55 rfl rfl ?_
        refine hb_iload_n (q := 57) hc dd_X9_rhythm_56 rfl rfl ?_
        refine hb_aload_n (q := 58) hc dd_X9_rhythm_57 rfl rfl ?_
        refine hb_iload_n (q := 59) hc dd_X9_rhythm_58 rfl rfl ?_
        refine hb_callVi (q := 62) (vs := [.int v1]) (st := [.int v1, .ref 42]) hc mv_X9_201 h sh42 sl42 rfl rfl rfl (Nat.le_of_ble_eq_true rfl) ⟨Nat.le_refl _, Nat.le_refl _⟩ ⟨Nat.le_refl _, Nat.le_refl _⟩ dd_X9_rhythm_59 rfl (fun r2 M2 h => ?_)
        refine hb_aload_n (q := 63) hc dd_X9_rhythm_62 rfl rfl ?_
        refine hb_getI (q := 66) (v := M2.1 42 1) hc fl_X9_86 sh42 sl42 rfl rfl dd_X9_rhythm_63 rfl ?_
        refine hb_callVi (q := 69) (vs := [.int v1, .int r2, .int (M2.1 42 1)]) (st := []) hc mv_X9_194 h sh42 sl42 rfl rfl rfl (Nat.le_of_ble_eq_true rfl) ⟨Nat.le_refl _, Nat.le_refl _⟩ ⟨Nat.le_refl _, Nat.le_refl _⟩ dd_X9_rhythm_66 rfl (fun r3 M3 h => ?_)
        exact hb_iret hc rfl dd_X9_rhythm_69 h
      · replace h := h.2.2.1 z
        refine hb_tableIn (off := 58) (tg := 70) hc dd_X9_rhythm_12 (by rw [z]; decide) (by rw [z]; decide) (by rw [z]; rfl) (by decide) ?_
        refine hb_aload_n (q := 71) hc dd_X9_rhythm_70 rfl rfl ?_
        refine hb_iload_n (q := 72) hc dd_X9_rhythm_71 rfl rfl ?_
        refine hb_callVi (q := 75) (vs := [.int v1]) (st := []) hc mv_X9_204 h sh42 sl42 rfl rfl rfl (Nat.le_of_ble_eq_true rfl) ⟨Nat.le_refl _, Nat.le_refl _⟩ ⟨Nat.le_refl _, Nat.le_refl _⟩ dd_X9_rhythm_72 rfl (fun r4 M4 h => ?_)
        exact hb_iret hc rfl dd_X9_rhythm_75 h
      · replace h := h.2.2.2.1 z
        refine hb_tableIn (off := 64) (tg := 76) hc dd_X9_rhythm_12 (by rw [z]; decide) (by rw [z]; decide) (by rw [z]; rfl) (by decide) ?_
        refine hb_aload_n (q := 77) hc dd_X9_rhythm_76 rfl rfl ?_
        refine hb_iload_n (q := 78) hc dd_X9_rhythm_77 rfl rfl ?_
        refine hb_callVi (q := 81) (vs := [.int v1]) (st := []) hc mv_X9_207 h sh42 sl42 rfl rfl rfl (Nat.le_of_ble_eq_true rfl) ⟨Nat.le_refl _, Nat.le_refl _⟩ ⟨Nat.le_refl _, Nat.le_refl _⟩ dd_X9_rhythm_78 rfl (fun r5 M5 h => ?_)
        exact hb_iret hc rfl dd_X9_rhythm_81 h
      · replace h := h.2.2.2.2.1 z
        refine hb_tableIn (off := 70) (tg := 82) hc dd_X9_rhythm_12 (by rw [z]; decide) (by rw [z]; decide) (by rw [z]; rfl) (by decide) ?_
        refine hb_aload_n (q := 83) hc dd_X9_rhythm_82 rfl rfl ?_
        refine hb_iload_n (q := 84) hc dd_X9_rhythm_83 rfl rfl ?_
        refine hb_callVi (q := 87) (vs := [.int v1]) (st := []) hc mv_X9_201 h sh42 sl42 rfl rfl rfl (Nat.le_of_ble_eq_true rfl) ⟨Nat.le_refl _, Nat.le_refl _⟩ ⟨Nat.le_refl _, Nat.le_refl _⟩ dd_X9_rhythm_84 rfl (fun r6 M6 h => ?_)
        exact hb_iret hc rfl dd_X9_rhythm_87 h
  · replace h := h.2 z
    refine hb_bipush (q := 10) (v := (-2)) hc dd_X9_rhythm_8 rfl bp_m2 ?_
    exact hb_iret hc rfl dd_X9_rhythm_10 h
theorem w_X9_isDimmed {d : Nat} {M : Mm} {v0 : Int32} {v1 : Int32} {K : Int32 → Mm → Prop}  (h : (¬ (v1 &&& (v0 ^^^ (-1))) = 0 → (K 0 M)) ∧ ((v1 &&& (v0 ^^^ (-1))) = 0 → ((¬ ((v0 &&& (v1 ^^^ (-1))) &&& ((v0 &&& (v1 ^^^ (-1))) - 1)) = 0 → (K 0 M)) ∧ (((v0 &&& (v1 ^^^ (-1))) &&& ((v0 &&& (v1 ^^^ (-1))) - 1)) = 0 → (K 1 M))))) : ACi (d + 1) X9_isDimmed [.int v0, .int v1] M K := by
  refine AC.ofW (lv := [some (.int v0), some (.int v1), none]) pn_X9 (Nat.le_of_ble_eq_true rfl) (show lvLe _ [some (.int v0), some (.int v1)] from (lvs (lvs (lve lvz)))) ?_
  intro p l e s m args below meth c G hc
  refine hb_iload_n (q := 1) hc dd_X9_isDimmed_0 rfl rfl ?_
  refine hb_iload_n (q := 2) hc dd_X9_isDimmed_1 rfl rfl ?_
  refine hb_iconst (q := 3) (v := (-1)) hc dd_X9_isDimmed_2 rfl ic_m1 ?_
  refine hb_ixor (q := 4) hc dd_X9_isDimmed_3 rfl ?_
  refine hb_iand (q := 5) hc dd_X9_isDimmed_4 rfl ?_
  refine hb_istore_n (q := 6) (lv' := [some (.int v0), some (.int v1), some (.int (v0 &&& (v1 ^^^ (-1))))]) hc dd_X9_isDimmed_5 rfl (Nat.le_of_ble_eq_true rfl) rfl ?_
  refine hb_iload_n (q := 7) hc dd_X9_isDimmed_6 rfl rfl ?_
  refine hb_iload_n (q := 8) hc dd_X9_isDimmed_7 rfl rfl ?_
  refine hb_iconst (q := 9) (v := (-1)) hc dd_X9_isDimmed_8 rfl ic_m1 ?_
  refine hb_ixor (q := 10) hc dd_X9_isDimmed_9 rfl ?_
  refine hb_iand (q := 11) hc dd_X9_isDimmed_10 rfl ?_
  refine hb_if_ne (q := 14) (tg := 26) hc dd_X9_isDimmed_11 rfl (by decide) (fun z => ?_) (fun z => ?_)
  · replace h := h.1 z
    refine hb_iconst (q := 27) (v := 0) hc dd_X9_isDimmed_26 rfl ic_0 ?_
    exact hb_zret hc rfl (by decide) dd_X9_isDimmed_27 h
  · replace h := h.2 z
    refine hb_iload_n (q := 15) hc dd_X9_isDimmed_14 rfl rfl ?_
    refine hb_iload_n (q := 16) hc dd_X9_isDimmed_15 rfl rfl ?_
    refine hb_iconst (q := 17) (v := 1) hc dd_X9_isDimmed_16 rfl ic_1 ?_
    refine hb_isub (q := 18) hc dd_X9_isDimmed_17 rfl ?_
    refine hb_iand (q := 19) hc dd_X9_isDimmed_18 rfl ?_
    refine hb_if_ne (q := 22) (tg := 26) hc dd_X9_isDimmed_19 rfl (by decide) (fun z => ?_) (fun z => ?_)
    · replace h := h.1 z
      refine hb_iconst (q := 27) (v := 0) hc dd_X9_isDimmed_26 rfl ic_0 ?_
      exact hb_zret hc rfl (by decide) dd_X9_isDimmed_27 h
    · replace h := h.2 z
      refine hb_iconst (q := 23) (v := 1) hc dd_X9_isDimmed_22 rfl ic_1 ?_
      refine hb_goto (tg := 27) hc dd_X9_isDimmed_23 (by decide) ?_
      exact hb_zret hc rfl (by decide) dd_X9_isDimmed_27 h
def lp_X9_areLike_6 (d : Nat) (M : Mm) (v1 : Int32) (v2 : Int32) (v3 : Int32) (v4 : Int32) (v5 : Int32) (v6 : Int32) (K : Int32 → Mm → Prop) : Prop := AW (d + 1) X9_areLike M 6 [some (.ref 42), some (.int v1), some (.int v2), some (.int v3), some (.int v4), some (.int v5), some (.int v6), none, none] [] (QI K)
theorem z_X9_areLike_6 {d : Nat} {M : Mm} {v1 : Int32} {v2 : Int32} {v3 : Int32} {v4 : Int32} {v5 : Int32} {v6 : Int32} {K : Int32 → Mm → Prop}  (h : (((M.1 42 1) * (M.1 42 1)) ≤ v6 → ((v5 = 0 ∨ v5 = 1) ∧ K v5 M)) ∧ (¬ ((M.1 42 1) * (M.1 42 1)) ≤ v6 → (¬ (M.1 42 1) = 0 ∧ (ACi d X9_rowOf [.ref 42, .int v1, .int (v6 / (M.1 42 1)), .int v3] M (fun r1 M1 => ¬ (M1.1 42 1) = 0 ∧ (ACi d X9_rowOf [.ref 42, .int v2, .int (v6 - v6 / (M1.1 42 1) * (M1.1 42 1)), .int v3] M1 (fun r2 M2 => (¬ v5 = 0 → (lp_X9_areLike_6 d M2 v1 v2 v3 v4 1 (v6 + 1) K)) ∧ (v5 = 0 → ((r1 = r2 → (lp_X9_areLike_6 d M2 v1 v2 v3 v4 1 (v6 + 1) K)) ∧ (¬ r1 = r2 → ((v4 = 0 → (lp_X9_areLike_6 d M2 v1 v2 v3 v4 0 (v6 + 1) K)) ∧ (¬ v4 = 0 → (ACi d X9_isDimmed [.int r1, .int r2] M2 (fun r3 M3 => (¬ r3 = 0 → (lp_X9_areLike_6 d M3 v1 v2 v3 v4 1 (v6 + 1) K)) ∧ (r3 = 0 → (ACi d X9_isDimmed [.int r2, .int r1] M3 (fun r4 M4 => (r4 = 0 → (lp_X9_areLike_6 d M4 v1 v2 v3 v4 0 (v6 + 1) K)) ∧ (¬ r4 = 0 → (lp_X9_areLike_6 d M4 v1 v2 v3 v4 1 (v6 + 1) K))))))))))))))))))) : lp_X9_areLike_6 d M v1 v2 v3 v4 v5 v6 K := by
  intro p l e s m args below meth c G hc
  refine hb_iload (q := 8) hc dd_X9_areLike_6 rfl rfl ?_
  refine hb_aload_n (q := 9) hc dd_X9_areLike_8 rfl rfl ?_
  refine hb_getI (q := 12) (v := M.1 42 1) hc fl_X9_86 sh42 sl42 rfl rfl dd_X9_areLike_9 rfl ?_
  refine hb_aload_n (q := 13) hc dd_X9_areLike_12 rfl rfl ?_
  refine hb_getI (q := 16) (v := M.1 42 1) hc fl_X9_86 sh42 sl42 rfl rfl dd_X9_areLike_13 rfl ?_
  refine hb_imul (q := 17) hc dd_X9_areLike_16 rfl ?_
  refine hb_icmp_ge (q := 20) (tg := 100) hc dd_X9_areLike_17 rfl (by decide) (fun z => ?_) (fun z => ?_)
  · replace h := h.1 z
    refine hb_iload (q := 102) hc dd_X9_areLike_100 rfl rfl ?_
    exact hb_zret hc rfl h.1 dd_X9_areLike_102 h.2
  · replace h := h.2 z
    refine hb_aload_n (q := 21) hc dd_X9_areLike_20 rfl rfl ?_
    refine hb_iload_n (q := 22) hc dd_X9_areLike_21 rfl rfl ?_
    refine hb_iload (q := 24) hc dd_X9_areLike_22 rfl rfl ?_
    refine hb_aload_n (q := 25) hc dd_X9_areLike_24 rfl rfl ?_
    refine hb_getI (q := 28) (v := M.1 42 1) hc fl_X9_86 sh42 sl42 rfl rfl dd_X9_areLike_25 rfl ?_
    obtain ⟨hn, h⟩ := h
    refine hb_idiv (q := 29) hc dd_X9_areLike_28 rfl hn ?_
    refine hb_iload_n (q := 30) hc dd_X9_areLike_29 rfl rfl ?_
    refine hb_callVi (q := 33) (vs := [.int v1, .int (v6 / (M.1 42 1)), .int v3]) (st := []) hc mv_X9_194 h sh42 sl42 rfl rfl rfl (Nat.le_of_ble_eq_true rfl) ⟨Nat.le_refl _, Nat.le_refl _⟩ ⟨Nat.le_refl _, Nat.le_refl _⟩ dd_X9_areLike_30 rfl (fun r1 M1 h => ?_)
    refine hb_istore (q := 35) (lv' := [some (.ref 42), some (.int v1), some (.int v2), some (.int v3), some (.int v4), some (.int v5), some (.int v6), some (.int r1), none]) hc dd_X9_areLike_33 rfl (Nat.le_of_ble_eq_true rfl) rfl ?_
    refine hb_aload_n (q := 36) hc dd_X9_areLike_35 rfl rfl ?_
    refine hb_iload_n (q := 37) hc dd_X9_areLike_36 rfl rfl ?_
    refine hb_iload (q := 39) hc dd_X9_areLike_37 rfl rfl ?_
    refine hb_aload_n (q := 40) hc dd_X9_areLike_39 rfl rfl ?_
    refine hb_getI (q := 43) (v := M1.1 42 1) hc fl_X9_86 sh42 sl42 rfl rfl dd_X9_areLike_40 rfl ?_
    obtain ⟨hn, h⟩ := h
    refine hb_irem (q := 44) hc dd_X9_areLike_43 rfl hn ?_
    refine hb_iload_n (q := 45) hc dd_X9_areLike_44 rfl rfl ?_
    refine hb_callVi (q := 48) (vs := [.int v2, .int (v6 - v6 / (M1.1 42 1) * (M1.1 42 1)), .int v3]) (st := []) hc mv_X9_194 h sh42 sl42 rfl rfl rfl (Nat.le_of_ble_eq_true rfl) ⟨Nat.le_refl _, Nat.le_refl _⟩ ⟨Nat.le_refl _, Nat.le_refl _⟩ dd_X9_areLike_45 rfl (fun r2 M2 h => ?_)
    refine hb_istore (q := 50) (lv' := [some (.ref 42), some (.int v1), some (.int v2), some (.int v3), some (.int v4), some (.int v5), some (.int v6), some (.int r1), some (.int r2)]) hc dd_X9_areLike_48 rfl (Nat.le_of_ble_eq_true rfl) rfl ?_
    refine hb_iload (q := 52) hc dd_X9_areLike_50 rfl rfl ?_
    refine hb_if_ne (q := 55) (tg := 87) hc dd_X9_areLike_52 rfl (by decide) (fun z => ?_) (fun z => ?_)
    · replace h := h.1 z
      refine hb_iconst (q := 88) (v := 1) hc dd_X9_areLike_87 rfl ic_1 ?_
      refine hb_goto (tg := 92) hc dd_X9_areLike_88 (by decide) ?_
      refine hb_istore (q := 94) (lv' := [some (.ref 42), some (.int v1), some (.int v2), some (.int v3), some (.int v4), some (.int 1), some (.int v6), some (.int r1), some (.int r2)]) hc dd_X9_areLike_92 rfl (Nat.le_of_ble_eq_true rfl) rfl ?_
      refine hb_iinc (q := 97) (v := v6 + 1) (lv' := [some (.ref 42), some (.int v1), some (.int v2), some (.int v3), some (.int v4), some (.int 1), some (.int (v6 + 1)), some (.int r1), some (.int r2)]) hc dd_X9_areLike_94 rfl rfl rfl (Nat.le_of_ble_eq_true rfl) rfl ?_
      refine hb_goto (tg := 6) hc dd_X9_areLike_97 (by decide) ?_
      exact hb_weak (lvs (lvs (lvs (lvs (lvs (lvs (lvs (lvn (lvn lvz))))))))) (h p l e s m args below meth c G hc)
    · replace h := h.2 z
      refine hb_iload (q := 57) hc dd_X9_areLike_55 rfl rfl ?_
      refine hb_iload (q := 59) hc dd_X9_areLike_57 rfl rfl ?_
      refine hb_icmp_eq (q := 62) (tg := 87) hc dd_X9_areLike_59 rfl (by decide) (fun z => ?_) (fun z => ?_)
      · replace h := h.1 z
        refine hb_iconst (q := 88) (v := 1) hc dd_X9_areLike_87 rfl ic_1 ?_
        refine hb_goto (tg := 92) hc dd_X9_areLike_88 (by decide) ?_
        refine hb_istore (q := 94) (lv' := [some (.ref 42), some (.int v1), some (.int v2), some (.int v3), some (.int v4), some (.int 1), some (.int v6), some (.int r1), some (.int r2)]) hc dd_X9_areLike_92 rfl (Nat.le_of_ble_eq_true rfl) rfl ?_
        refine hb_iinc (q := 97) (v := v6 + 1) (lv' := [some (.ref 42), some (.int v1), some (.int v2), some (.int v3), some (.int v4), some (.int 1), some (.int (v6 + 1)), some (.int r1), some (.int r2)]) hc dd_X9_areLike_94 rfl rfl rfl (Nat.le_of_ble_eq_true rfl) rfl ?_
        refine hb_goto (tg := 6) hc dd_X9_areLike_97 (by decide) ?_
        exact hb_weak (lvs (lvs (lvs (lvs (lvs (lvs (lvs (lvn (lvn lvz))))))))) (h p l e s m args below meth c G hc)
      · replace h := h.2 z
        refine hb_iload (q := 64) hc dd_X9_areLike_62 rfl rfl ?_
        refine hb_if_eq (q := 67) (tg := 91) hc dd_X9_areLike_64 rfl (by decide) (fun z => ?_) (fun z => ?_)
        · replace h := h.1 z
          refine hb_iconst (q := 92) (v := 0) hc dd_X9_areLike_91 rfl ic_0 ?_
          refine hb_istore (q := 94) (lv' := [some (.ref 42), some (.int v1), some (.int v2), some (.int v3), some (.int v4), some (.int 0), some (.int v6), some (.int r1), some (.int r2)]) hc dd_X9_areLike_92 rfl (Nat.le_of_ble_eq_true rfl) rfl ?_
          refine hb_iinc (q := 97) (v := v6 + 1) (lv' := [some (.ref 42), some (.int v1), some (.int v2), some (.int v3), some (.int v4), some (.int 0), some (.int (v6 + 1)), some (.int r1), some (.int r2)]) hc dd_X9_areLike_94 rfl rfl rfl (Nat.le_of_ble_eq_true rfl) rfl ?_
          refine hb_goto (tg := 6) hc dd_X9_areLike_97 (by decide) ?_
          exact hb_weak (lvs (lvs (lvs (lvs (lvs (lvs (lvs (lvn (lvn lvz))))))))) (h p l e s m args below meth c G hc)
        · replace h := h.2 z
          refine hb_iload (q := 69) hc dd_X9_areLike_67 rfl rfl ?_
          refine hb_iload (q := 71) hc dd_X9_areLike_69 rfl rfl ?_
          refine hb_callSi (q := 74) (vs := [.int r1, .int r2]) (st := []) hc mv_X9_210 h rfl rfl (Nat.le_of_ble_eq_true rfl) ⟨Nat.le_refl _, Nat.le_refl _⟩ ⟨Nat.le_refl _, Nat.le_refl _⟩ dd_X9_areLike_71 rfl (fun r3 M3 h => ?_)
          refine hb_if_ne (q := 77) (tg := 87) hc dd_X9_areLike_74 rfl (by decide) (fun z => ?_) (fun z => ?_)
          · replace h := h.1 z
            refine hb_iconst (q := 88) (v := 1) hc dd_X9_areLike_87 rfl ic_1 ?_
            refine hb_goto (tg := 92) hc dd_X9_areLike_88 (by decide) ?_
            refine hb_istore (q := 94) (lv' := [some (.ref 42), some (.int v1), some (.int v2), some (.int v3), some (.int v4), some (.int 1), some (.int v6), some (.int r1), some (.int r2)]) hc dd_X9_areLike_92 rfl (Nat.le_of_ble_eq_true rfl) rfl ?_
            refine hb_iinc (q := 97) (v := v6 + 1) (lv' := [some (.ref 42), some (.int v1), some (.int v2), some (.int v3), some (.int v4), some (.int 1), some (.int (v6 + 1)), some (.int r1), some (.int r2)]) hc dd_X9_areLike_94 rfl rfl rfl (Nat.le_of_ble_eq_true rfl) rfl ?_
            refine hb_goto (tg := 6) hc dd_X9_areLike_97 (by decide) ?_
            exact hb_weak (lvs (lvs (lvs (lvs (lvs (lvs (lvs (lvn (lvn lvz))))))))) (h p l e s m args below meth c G hc)
          · replace h := h.2 z
            refine hb_iload (q := 79) hc dd_X9_areLike_77 rfl rfl ?_
            refine hb_iload (q := 81) hc dd_X9_areLike_79 rfl rfl ?_
            refine hb_callSi (q := 84) (vs := [.int r2, .int r1]) (st := []) hc mv_X9_210 h rfl rfl (Nat.le_of_ble_eq_true rfl) ⟨Nat.le_refl _, Nat.le_refl _⟩ ⟨Nat.le_refl _, Nat.le_refl _⟩ dd_X9_areLike_81 rfl (fun r4 M4 h => ?_)
            refine hb_if_eq (q := 87) (tg := 91) hc dd_X9_areLike_84 rfl (by decide) (fun z => ?_) (fun z => ?_)
            · replace h := h.1 z
              refine hb_iconst (q := 92) (v := 0) hc dd_X9_areLike_91 rfl ic_0 ?_
              refine hb_istore (q := 94) (lv' := [some (.ref 42), some (.int v1), some (.int v2), some (.int v3), some (.int v4), some (.int 0), some (.int v6), some (.int r1), some (.int r2)]) hc dd_X9_areLike_92 rfl (Nat.le_of_ble_eq_true rfl) rfl ?_
              refine hb_iinc (q := 97) (v := v6 + 1) (lv' := [some (.ref 42), some (.int v1), some (.int v2), some (.int v3), some (.int v4), some (.int 0), some (.int (v6 + 1)), some (.int r1), some (.int r2)]) hc dd_X9_areLike_94 rfl rfl rfl (Nat.le_of_ble_eq_true rfl) rfl ?_
              refine hb_goto (tg := 6) hc dd_X9_areLike_97 (by decide) ?_
              exact hb_weak (lvs (lvs (lvs (lvs (lvs (lvs (lvs (lvn (lvn lvz))))))))) (h p l e s m args below meth c G hc)
            · replace h := h.2 z
              refine hb_iconst (q := 88) (v := 1) hc dd_X9_areLike_87 rfl ic_1 ?_
              refine hb_goto (tg := 92) hc dd_X9_areLike_88 (by decide) ?_
              refine hb_istore (q := 94) (lv' := [some (.ref 42), some (.int v1), some (.int v2), some (.int v3), some (.int v4), some (.int 1), some (.int v6), some (.int r1), some (.int r2)]) hc dd_X9_areLike_92 rfl (Nat.le_of_ble_eq_true rfl) rfl ?_
              refine hb_iinc (q := 97) (v := v6 + 1) (lv' := [some (.ref 42), some (.int v1), some (.int v2), some (.int v3), some (.int v4), some (.int 1), some (.int (v6 + 1)), some (.int r1), some (.int r2)]) hc dd_X9_areLike_94 rfl rfl rfl (Nat.le_of_ble_eq_true rfl) rfl ?_
              refine hb_goto (tg := 6) hc dd_X9_areLike_97 (by decide) ?_
              exact hb_weak (lvs (lvs (lvs (lvs (lvs (lvs (lvs (lvn (lvn lvz))))))))) (h p l e s m args below meth c G hc)
theorem w_X9_areLike {d : Nat} {M : Mm} {v1 : Int32} {v2 : Int32} {v3 : Int32} {v4 : Int32} {K : Int32 → Mm → Prop}  (h : lp_X9_areLike_6 d M v1 v2 v3 v4 0 0 K) : ACi (d + 1) X9_areLike [.ref 42, .int v1, .int v2, .int v3, .int v4] M K := by
  refine AC.ofW (lv := [some (.ref 42), some (.int v1), some (.int v2), some (.int v3), some (.int v4), none, none, none, none]) pn_X9 (Nat.le_of_ble_eq_true rfl) (show lvLe _ [some (.ref 42), some (.int v1), some (.int v2), some (.int v3), some (.int v4)] from (lvs (lvs (lvs (lvs (lvs (lve (lve (lve (lve lvz)))))))))) ?_
  intro p l e s m args below meth c G hc
  refine hb_iconst (q := 1) (v := 0) hc dd_X9_areLike_0 rfl ic_0 ?_
  refine hb_istore (q := 3) (lv' := [some (.ref 42), some (.int v1), some (.int v2), some (.int v3), some (.int v4), some (.int 0), none, none, none]) hc dd_X9_areLike_1 rfl (Nat.le_of_ble_eq_true rfl) rfl ?_
  refine hb_iconst (q := 4) (v := 0) hc dd_X9_areLike_3 rfl ic_0 ?_
  refine hb_istore (q := 6) (lv' := [some (.ref 42), some (.int v1), some (.int v2), some (.int v3), some (.int v4), some (.int 0), some (.int 0), none, none]) hc dd_X9_areLike_4 rfl (Nat.le_of_ble_eq_true rfl) rfl ?_
  exact hb_weak (lvs (lvs (lvs (lvs (lvs (lvs (lvs (lvn (lvn lvz))))))))) (h p l e s m args below meth c G hc)
theorem w_X9_like {d : Nat} {M : Mm} {v1 : Int32} {v2 : Int32} {v3 : Int32} {K : Int32 → Mm → Prop}  (h : ACi d X9_isRhythm [.ref 42, .int v1] M (fun r1 M1 => (r1 = 0 → (K (-2) M1)) ∧ (¬ r1 = 0 → (ACi d X9_isRhythm [.ref 42, .int v2] M1 (fun r2 M2 => (¬ r2 = 0 → (ACi d X9_in [.long v3.toInt64, .long 0, .long 1] M2 (fun r3 M3 => (¬ r3 = 0 → ((¬ v3 = 1 → (ACi d X9_areLike [.ref 42, .int v1, .int v2, .int (M3.1 42 2), .int 0] M3 (fun r4 M4 => (r4 = 0 → (K 0 M4)) ∧ (¬ r4 = 0 → (K 1 M4))))) ∧ (v3 = 1 → (ACi d X9_areLike [.ref 42, .int v1, .int v2, .int (M3.1 42 2), .int 1] M3 (fun r5 M5 => (r5 = 0 → (K 0 M5)) ∧ (¬ r5 = 0 → (K 1 M5))))))) ∧ (r3 = 0 → (K (-3) M3))))) ∧ (r2 = 0 → (K (-2) M2))))))) : ACi (d + 1) X9_like [.ref 42, .int v1, .int v2, .int v3] M K := by
  refine AC.ofW (lv := [some (.ref 42), some (.int v1), some (.int v2), some (.int v3)]) pn_X9 (Nat.le_of_ble_eq_true rfl) (show lvLe _ [some (.ref 42), some (.int v1), some (.int v2), some (.int v3)] from (lvs (lvs (lvs (lvs lvz))))) ?_
  intro p l e s m args below meth c G hc
  refine hb_aload_n (q := 1) hc dd_X9_like_0 rfl rfl ?_
  refine hb_iload_n (q := 2) hc dd_X9_like_1 rfl rfl ?_
  refine hb_callVi (q := 5) (vs := [.int v1]) (st := []) hc mv_X9_198 h sh42 sl42 rfl rfl rfl (Nat.le_of_ble_eq_true rfl) ⟨Nat.le_refl _, Nat.le_refl _⟩ ⟨Nat.le_refl _, Nat.le_refl _⟩ dd_X9_like_2 rfl (fun r1 M1 h => ?_)
  refine hb_if_eq (q := 8) (tg := 16) hc dd_X9_like_5 rfl (by decide) (fun z => ?_) (fun z => ?_)
  · replace h := h.1 z
    refine hb_bipush (q := 18) (v := (-2)) hc dd_X9_like_16 rfl bp_m2 ?_
    exact hb_iret hc rfl dd_X9_like_18 h
  · replace h := h.2 z
    refine hb_aload_n (q := 9) hc dd_X9_like_8 rfl rfl ?_
    refine hb_iload_n (q := 10) hc dd_X9_like_9 rfl rfl ?_
    refine hb_callVi (q := 13) (vs := [.int v2]) (st := []) hc mv_X9_198 h sh42 sl42 rfl rfl rfl (Nat.le_of_ble_eq_true rfl) ⟨Nat.le_refl _, Nat.le_refl _⟩ ⟨Nat.le_refl _, Nat.le_refl _⟩ dd_X9_like_10 rfl (fun r2 M2 h => ?_)
    refine hb_if_ne (q := 16) (tg := 19) hc dd_X9_like_13 rfl (by decide) (fun z => ?_) (fun z => ?_)
    · replace h := h.1 z
      refine hb_iload_n (q := 20) hc dd_X9_like_19 rfl rfl ?_
      refine hb_i2l (q := 21) hc dd_X9_like_20 rfl ?_
      refine hb_lconst (q := 22) (v := 0) hc dd_X9_like_21 rfl lc_0 ?_
      refine hb_lconst (q := 23) (v := 1) hc dd_X9_like_22 rfl lc_1 ?_
      refine hb_callSi (q := 26) (vs := [.long v3.toInt64, .long 0, .long 1]) (st := []) hc mv_X9_104 h rfl rfl (Nat.le_of_ble_eq_true rfl) ⟨Nat.le_refl _, Nat.le_refl _⟩ ⟨Nat.le_refl _, Nat.le_refl _⟩ dd_X9_like_23 rfl (fun r3 M3 h => ?_)
      refine hb_if_ne (q := 29) (tg := 34) hc dd_X9_like_26 rfl (by decide) (fun z => ?_) (fun z => ?_)
      · replace h := h.1 z
        refine hb_aload_n (q := 35) hc dd_X9_like_34 rfl rfl ?_
        refine hb_iload_n (q := 36) hc dd_X9_like_35 rfl rfl ?_
        refine hb_iload_n (q := 37) hc dd_X9_like_36 rfl rfl ?_
        refine hb_aload_n (q := 38) hc dd_X9_like_37 rfl rfl ?_
        refine hb_getI (q := 41) (v := M3.1 42 2) hc fl_X9_90 sh42 sl42 rfl rfl dd_X9_like_38 rfl ?_
        refine hb_iload_n (q := 42) hc dd_X9_like_41 rfl rfl ?_
        refine hb_iconst (q := 43) (v := 1) hc dd_X9_like_42 rfl ic_1 ?_
        refine hb_icmp_ne (q := 46) (tg := 50) hc dd_X9_like_43 rfl (by decide) (fun z => ?_) (fun z => ?_)
        · replace h := h.1 z
          refine hb_iconst (q := 51) (v := 0) hc dd_X9_like_50 rfl ic_0 ?_
          refine hb_callVi (q := 54) (vs := [.int v1, .int v2, .int (M3.1 42 2), .int 0]) (st := []) hc mv_X9_214 h sh42 sl42 rfl rfl rfl (Nat.le_of_ble_eq_true rfl) ⟨Nat.le_refl _, Nat.le_refl _⟩ ⟨Nat.le_refl _, Nat.le_refl _⟩ dd_X9_like_51 rfl (fun r4 M4 h => ?_)
          refine hb_if_eq (q := 57) (tg := 61) hc dd_X9_like_54 rfl (by decide) (fun z => ?_) (fun z => ?_)
          · replace h := h.1 z
            refine hb_iconst (q := 62) (v := 0) hc dd_X9_like_61 rfl ic_0 ?_
            exact hb_iret hc rfl dd_X9_like_62 h
          · replace h := h.2 z
            refine hb_iconst (q := 58) (v := 1) hc dd_X9_like_57 rfl ic_1 ?_
            refine hb_goto (tg := 62) hc dd_X9_like_58 (by decide) ?_
            exact hb_iret hc rfl dd_X9_like_62 h
        · replace h := h.2 z
          refine hb_iconst (q := 47) (v := 1) hc dd_X9_like_46 rfl ic_1 ?_
          refine hb_goto (tg := 51) hc dd_X9_like_47 (by decide) ?_
          refine hb_callVi (q := 54) (vs := [.int v1, .int v2, .int (M3.1 42 2), .int 1]) (st := []) hc mv_X9_214 h sh42 sl42 rfl rfl rfl (Nat.le_of_ble_eq_true rfl) ⟨Nat.le_refl _, Nat.le_refl _⟩ ⟨Nat.le_refl _, Nat.le_refl _⟩ dd_X9_like_51 rfl (fun r5 M5 h => ?_)
          refine hb_if_eq (q := 57) (tg := 61) hc dd_X9_like_54 rfl (by decide) (fun z => ?_) (fun z => ?_)
          · replace h := h.1 z
            refine hb_iconst (q := 62) (v := 0) hc dd_X9_like_61 rfl ic_0 ?_
            exact hb_iret hc rfl dd_X9_like_62 h
          · replace h := h.2 z
            refine hb_iconst (q := 58) (v := 1) hc dd_X9_like_57 rfl ic_1 ?_
            refine hb_goto (tg := 62) hc dd_X9_like_58 (by decide) ?_
            exact hb_iret hc rfl dd_X9_like_62 h
      · replace h := h.2 z
        refine hb_bipush (q := 31) (v := (-3)) hc dd_X9_like_29 rfl bp_m3 ?_
        refine hb_goto (tg := 62) hc dd_X9_like_31 (by decide) ?_
        exact hb_iret hc rfl dd_X9_like_62 h
    · replace h := h.2 z
      refine hb_bipush (q := 18) (v := (-2)) hc dd_X9_like_16 rfl bp_m2 ?_
      exact hb_iret hc rfl dd_X9_like_18 h
theorem w_X9_areNeighbours {d : Nat} {M : Mm} {v1 : Int32} {v2 : Int32} {K : Int32 → Mm → Prop}  (h : (v1 = v2 → (K 0 M)) ∧ (¬ v1 = v2 → (vp_in (0 + v1) 144 ∧ (vp_in (0 + v2) 144 ∧ (ACi d X9_in [.long (((M.1 43 ((0 + v1).toNatClampNeg)) - (M.1 43 ((0 + v2).toNatClampNeg))).toInt64), .long ((-(M.1 42 3)).toInt64), .long ((M.1 42 3).toInt64)] M (fun r1 M1 => (r1 = 0 → (K 0 M1)) ∧ (¬ r1 = 0 → (K 1 M1)))))))) : ACi (d + 1) X9_areNeighbours [.ref 42, .int v1, .int v2] M K := by
  refine AC.ofW (lv := [some (.ref 42), some (.int v1), some (.int v2)]) pn_X9 (Nat.le_of_ble_eq_true rfl) (show lvLe _ [some (.ref 42), some (.int v1), some (.int v2)] from (lvs (lvs (lvs lvz)))) ?_
  intro p l e s m args below meth c G hc
  refine hb_iload_n (q := 1) hc dd_X9_areNeighbours_0 rfl rfl ?_
  refine hb_iload_n (q := 2) hc dd_X9_areNeighbours_1 rfl rfl ?_
  refine hb_icmp_eq (q := 5) (tg := 44) hc dd_X9_areNeighbours_2 rfl (by decide) (fun z => ?_) (fun z => ?_)
  · replace h := h.1 z
    refine hb_iconst (q := 45) (v := 0) hc dd_X9_areNeighbours_44 rfl ic_0 ?_
    exact hb_zret hc rfl (by decide) dd_X9_areNeighbours_45 h
  · replace h := h.2 z
    refine hb_aload_n (q := 6) hc dd_X9_areNeighbours_5 rfl rfl ?_
    refine hb_getR (q := 9) hc fl_X9_7 sh42 sl42 rfl dd_X9_areNeighbours_6 rfl ?_
    refine hb_iconst (q := 10) (v := 0) hc dd_X9_areNeighbours_9 rfl ic_0 ?_
    refine hb_iload_n (q := 11) hc dd_X9_areNeighbours_10 rfl rfl ?_
    refine hb_iadd (q := 12) hc dd_X9_areNeighbours_11 rfl ?_
    obtain ⟨hi, h⟩ := h
    refine hb_iald (q := 13) (v := M.1 43 ((0 + v1).toNatClampNeg)) hc sh43 sl43 hi rfl rfl dd_X9_areNeighbours_12 rfl ?_
    refine hb_aload_n (q := 14) hc dd_X9_areNeighbours_13 rfl rfl ?_
    refine hb_getR (q := 17) hc fl_X9_7 sh42 sl42 rfl dd_X9_areNeighbours_14 rfl ?_
    refine hb_iconst (q := 18) (v := 0) hc dd_X9_areNeighbours_17 rfl ic_0 ?_
    refine hb_iload_n (q := 19) hc dd_X9_areNeighbours_18 rfl rfl ?_
    refine hb_iadd (q := 20) hc dd_X9_areNeighbours_19 rfl ?_
    obtain ⟨hi, h⟩ := h
    refine hb_iald (q := 21) (v := M.1 43 ((0 + v2).toNatClampNeg)) hc sh43 sl43 hi rfl rfl dd_X9_areNeighbours_20 rfl ?_
    refine hb_isub (q := 22) hc dd_X9_areNeighbours_21 rfl ?_
    refine hb_i2l (q := 23) hc dd_X9_areNeighbours_22 rfl ?_
    refine hb_aload_n (q := 24) hc dd_X9_areNeighbours_23 rfl rfl ?_
    refine hb_getI (q := 27) (v := M.1 42 3) hc fl_X9_93 sh42 sl42 rfl rfl dd_X9_areNeighbours_24 rfl ?_
    refine hb_ineg (q := 28) hc dd_X9_areNeighbours_27 rfl ?_
    refine hb_i2l (q := 29) hc dd_X9_areNeighbours_28 rfl ?_
    refine hb_aload_n (q := 30) hc dd_X9_areNeighbours_29 rfl rfl ?_
    refine hb_getI (q := 33) (v := M.1 42 3) hc fl_X9_93 sh42 sl42 rfl rfl dd_X9_areNeighbours_30 rfl ?_
    refine hb_i2l (q := 34) hc dd_X9_areNeighbours_33 rfl ?_
    refine hb_callSi (q := 37) (vs := [.long (((M.1 43 ((0 + v1).toNatClampNeg)) - (M.1 43 ((0 + v2).toNatClampNeg))).toInt64), .long ((-(M.1 42 3)).toInt64), .long ((M.1 42 3).toInt64)]) (st := []) hc mv_X9_104 h rfl rfl (Nat.le_of_ble_eq_true rfl) ⟨Nat.le_refl _, Nat.le_refl _⟩ ⟨Nat.le_refl _, Nat.le_refl _⟩ dd_X9_areNeighbours_34 rfl (fun r1 M1 h => ?_)
    refine hb_if_eq (q := 40) (tg := 44) hc dd_X9_areNeighbours_37 rfl (by decide) (fun z => ?_) (fun z => ?_)
    · replace h := h.1 z
      refine hb_iconst (q := 45) (v := 0) hc dd_X9_areNeighbours_44 rfl ic_0 ?_
      exact hb_zret hc rfl (by decide) dd_X9_areNeighbours_45 h
    · replace h := h.2 z
      refine hb_iconst (q := 41) (v := 1) hc dd_X9_areNeighbours_40 rfl ic_1 ?_
      refine hb_goto (tg := 45) hc dd_X9_areNeighbours_41 (by decide) ?_
      exact hb_zret hc rfl (by decide) dd_X9_areNeighbours_45 h
theorem w_X9_doClash {d : Nat} {M : Mm} {v1 : Int32} {v2 : Int32} {K : Int32 → Mm → Prop}  (h : ACi d X9_areNeighbours [.ref 42, .int v1, .int v2] M (fun r1 M1 => (r1 = 0 → (K 0 M1)) ∧ (¬ r1 = 0 → (vp_in (6 + v1) 144 ∧ (((M1.1 43 ((6 + v1).toNatClampNeg)) = (-1) → (K 0 M1)) ∧ (¬ (M1.1 43 ((6 + v1).toNatClampNeg)) = (-1) → (vp_in (6 + v2) 144 ∧ (((M1.1 43 ((6 + v2).toNatClampNeg)) = (-1) → (K 0 M1)) ∧ (¬ (M1.1 43 ((6 + v2).toNatClampNeg)) = (-1) → (vp_in (6 + v1) 144 ∧ (vp_in (6 + v2) 144 ∧ (ACi d X9_areLike [.ref 42, .int (M1.1 43 ((6 + v1).toNatClampNeg)), .int (M1.1 43 ((6 + v2).toNatClampNeg)), .int (M1.1 42 2), .int 0] M1 (fun r2 M2 => (r2 = 0 → (K 0 M2)) ∧ (¬ r2 = 0 → (K 1 M2))))))))))))))) : ACi (d + 1) X9_doClash [.ref 42, .int v1, .int v2] M K := by
  refine AC.ofW (lv := [some (.ref 42), some (.int v1), some (.int v2)]) pn_X9 (Nat.le_of_ble_eq_true rfl) (show lvLe _ [some (.ref 42), some (.int v1), some (.int v2)] from (lvs (lvs (lvs lvz)))) ?_
  intro p l e s m args below meth c G hc
  refine hb_aload_n (q := 1) hc dd_X9_doClash_0 rfl rfl ?_
  refine hb_iload_n (q := 2) hc dd_X9_doClash_1 rfl rfl ?_
  refine hb_iload_n (q := 3) hc dd_X9_doClash_2 rfl rfl ?_
  refine hb_callVi (q := 6) (vs := [.int v1, .int v2]) (st := []) hc mv_X9_218 h sh42 sl42 rfl rfl rfl (Nat.le_of_ble_eq_true rfl) ⟨Nat.le_refl _, Nat.le_refl _⟩ ⟨Nat.le_refl _, Nat.le_refl _⟩ dd_X9_doClash_3 rfl (fun r1 M1 h => ?_)
  refine hb_if_eq (q := 9) (tg := 69) hc dd_X9_doClash_6 rfl (by decide) (fun z => ?_) (fun z => ?_)
  · replace h := h.1 z
    refine hb_iconst (q := 70) (v := 0) hc dd_X9_doClash_69 rfl ic_0 ?_
    exact hb_zret hc rfl (by decide) dd_X9_doClash_70 h
  · replace h := h.2 z
    refine hb_aload_n (q := 10) hc dd_X9_doClash_9 rfl rfl ?_
    refine hb_getR (q := 13) hc fl_X9_7 sh42 sl42 rfl dd_X9_doClash_10 rfl ?_
    refine hb_bipush (q := 15) (v := 6) hc dd_X9_doClash_13 rfl bp_6 ?_
    refine hb_iload_n (q := 16) hc dd_X9_doClash_15 rfl rfl ?_
    refine hb_iadd (q := 17) hc dd_X9_doClash_16 rfl ?_
    obtain ⟨hi, h⟩ := h
    refine hb_iald (q := 18) (v := M1.1 43 ((6 + v1).toNatClampNeg)) hc sh43 sl43 hi rfl rfl dd_X9_doClash_17 rfl ?_
    refine hb_iconst (q := 19) (v := (-1)) hc dd_X9_doClash_18 rfl ic_m1 ?_
    refine hb_icmp_eq (q := 22) (tg := 69) hc dd_X9_doClash_19 rfl (by decide) (fun z => ?_) (fun z => ?_)
    · replace h := h.1 z
      refine hb_iconst (q := 70) (v := 0) hc dd_X9_doClash_69 rfl ic_0 ?_
      exact hb_zret hc rfl (by decide) dd_X9_doClash_70 h
    · replace h := h.2 z
      refine hb_aload_n (q := 23) hc dd_X9_doClash_22 rfl rfl ?_
      refine hb_getR (q := 26) hc fl_X9_7 sh42 sl42 rfl dd_X9_doClash_23 rfl ?_
      refine hb_bipush (q := 28) (v := 6) hc dd_X9_doClash_26 rfl bp_6 ?_
      refine hb_iload_n (q := 29) hc dd_X9_doClash_28 rfl rfl ?_
      refine hb_iadd (q := 30) hc dd_X9_doClash_29 rfl ?_
      obtain ⟨hi, h⟩ := h
      refine hb_iald (q := 31) (v := M1.1 43 ((6 + v2).toNatClampNeg)) hc sh43 sl43 hi rfl rfl dd_X9_doClash_30 rfl ?_
      refine hb_iconst (q := 32) (v := (-1)) hc dd_X9_doClash_31 rfl ic_m1 ?_
      refine hb_icmp_eq (q := 35) (tg := 69) hc dd_X9_doClash_32 rfl (by decide) (fun z => ?_) (fun z => ?_)
      · replace h := h.1 z
        refine hb_iconst (q := 70) (v := 0) hc dd_X9_doClash_69 rfl ic_0 ?_
        exact hb_zret hc rfl (by decide) dd_X9_doClash_70 h
      · replace h := h.2 z
        refine hb_aload_n (q := 36) hc dd_X9_doClash_35 rfl rfl ?_
        refine hb_aload_n (q := 37) hc dd_X9_doClash_36 rfl rfl ?_
        refine hb_getR (q := 40) hc fl_X9_7 sh42 sl42 rfl dd_X9_doClash_37 rfl ?_
        refine hb_bipush (q := 42) (v := 6) hc dd_X9_doClash_40 rfl bp_6 ?_
        refine hb_iload_n (q := 43) hc dd_X9_doClash_42 rfl rfl ?_
        refine hb_iadd (q := 44) hc dd_X9_doClash_43 rfl ?_
        obtain ⟨hi, h⟩ := h
        refine hb_iald (q := 45) (v := M1.1 43 ((6 + v1).toNatClampNeg)) hc sh43 sl43 hi rfl rfl dd_X9_doClash_44 rfl ?_
        refine hb_aload_n (q := 46) hc dd_X9_doClash_45 rfl rfl ?_
        refine hb_getR (q := 49) hc fl_X9_7 sh42 sl42 rfl dd_X9_doClash_46 rfl ?_
        refine hb_bipush (q := 51) (v := 6) hc dd_X9_doClash_49 rfl bp_6 ?_
        refine hb_iload_n (q := 52) hc dd_X9_doClash_51 rfl rfl ?_
        refine hb_iadd (q := 53) hc dd_X9_doClash_52 rfl ?_
        obtain ⟨hi, h⟩ := h
        refine hb_iald (q := 54) (v := M1.1 43 ((6 + v2).toNatClampNeg)) hc sh43 sl43 hi rfl rfl dd_X9_doClash_53 rfl ?_
        refine hb_aload_n (q := 55) hc dd_X9_doClash_54 rfl rfl ?_
        refine hb_getI (q := 58) (v := M1.1 42 2) hc fl_X9_90 sh42 sl42 rfl rfl dd_X9_doClash_55 rfl ?_
        refine hb_iconst (q := 59) (v := 0) hc dd_X9_doClash_58 rfl ic_0 ?_
        refine hb_callVi (q := 62) (vs := [.int (M1.1 43 ((6 + v1).toNatClampNeg)), .int (M1.1 43 ((6 + v2).toNatClampNeg)), .int (M1.1 42 2), .int 0]) (st := []) hc mv_X9_214 h sh42 sl42 rfl rfl rfl (Nat.le_of_ble_eq_true rfl) ⟨Nat.le_refl _, Nat.le_refl _⟩ ⟨Nat.le_refl _, Nat.le_refl _⟩ dd_X9_doClash_59 rfl (fun r2 M2 h => ?_)
        refine hb_if_eq (q := 65) (tg := 69) hc dd_X9_doClash_62 rfl (by decide) (fun z => ?_) (fun z => ?_)
        · replace h := h.1 z
          refine hb_iconst (q := 70) (v := 0) hc dd_X9_doClash_69 rfl ic_0 ?_
          exact hb_zret hc rfl (by decide) dd_X9_doClash_70 h
        · replace h := h.2 z
          refine hb_iconst (q := 66) (v := 1) hc dd_X9_doClash_65 rfl ic_1 ?_
          refine hb_goto (tg := 70) hc dd_X9_doClash_66 (by decide) ?_
          exact hb_zret hc rfl (by decide) dd_X9_doClash_70 h
def lp_X9_thoseOf_5 (d : Nat) (M : Mm) (v1 : Int32) (v2 : Int32) (v3 : Int32) (v4 : Int32) (K : Int32 → Mm → Prop) : Prop := AW (d + 1) X9_thoseOf M 5 [some (.ref 42), some (.int v1), some (.int v2), some (.int v3), some (.int v4)] [] (QI K)
theorem z_X9_thoseOf_5 {d : Nat} {M : Mm} {v1 : Int32} {v2 : Int32} {v3 : Int32} {v4 : Int32} {K : Int32 → Mm → Prop}  (h : ((M.1 42 5) ≤ v4 → (K v3 M)) ∧ (¬ (M.1 42 5) ≤ v4 → ((v2 = 0 → (ACi d X9_areNeighbours [.ref 42, .int v1, .int v4] M (fun r1 M1 => (r1 = 0 → (lp_X9_thoseOf_5 d M1 v1 v2 (v3 ||| 0) (v4 + 1) K)) ∧ (¬ r1 = 0 → (lp_X9_thoseOf_5 d M1 v1 v2 (v3 ||| (1 <<< (v4 &&& 31))) (v4 + 1) K))))) ∧ (¬ v2 = 0 → (ACi d X9_doClash [.ref 42, .int v1, .int v4] M (fun r2 M2 => (r2 = 0 → (lp_X9_thoseOf_5 d M2 v1 v2 (v3 ||| 0) (v4 + 1) K)) ∧ (¬ r2 = 0 → (lp_X9_thoseOf_5 d M2 v1 v2 (v3 ||| (1 <<< (v4 &&& 31))) (v4 + 1) K)))))))) : lp_X9_thoseOf_5 d M v1 v2 v3 v4 K := by
  intro p l e s m args below meth c G hc
  refine hb_iload (q := 7) hc dd_X9_thoseOf_5 rfl rfl ?_
  refine hb_aload_n (q := 8) hc dd_X9_thoseOf_7 rfl rfl ?_
  refine hb_getI (q := 11) (v := M.1 42 5) hc fl_X9_99 sh42 sl42 rfl rfl dd_X9_thoseOf_8 rfl ?_
  refine hb_icmp_ge (q := 14) (tg := 58) hc dd_X9_thoseOf_11 rfl (by decide) (fun z => ?_) (fun z => ?_)
  · replace h := h.1 z
    refine hb_iload_n (q := 59) hc dd_X9_thoseOf_58 rfl rfl ?_
    exact hb_iret hc rfl dd_X9_thoseOf_59 h
  · replace h := h.2 z
    refine hb_iload_n (q := 15) hc dd_X9_thoseOf_14 rfl rfl ?_
    refine hb_iload_n (q := 16) hc dd_X9_thoseOf_15 rfl rfl ?_
    refine hb_if_eq (q := 19) (tg := 32) hc dd_X9_thoseOf_16 rfl (by decide) (fun z => ?_) (fun z => ?_)
    · replace h := h.1 z
      refine hb_aload_n (q := 33) hc dd_X9_thoseOf_32 rfl rfl ?_
      refine hb_iload_n (q := 34) hc dd_X9_thoseOf_33 rfl rfl ?_
      refine hb_iload (q := 36) hc dd_X9_thoseOf_34 rfl rfl ?_
      refine hb_callVi (q := 39) (vs := [.int v1, .int v4]) (st := [.int v3]) hc mv_X9_218 h sh42 sl42 rfl rfl rfl (Nat.le_of_ble_eq_true rfl) ⟨Nat.le_refl _, Nat.le_refl _⟩ ⟨Nat.le_refl _, Nat.le_refl _⟩ dd_X9_thoseOf_36 rfl (fun r1 M1 h => ?_)
      refine hb_if_eq (q := 42) (tg := 49) hc dd_X9_thoseOf_39 rfl (by decide) (fun z => ?_) (fun z => ?_)
      · replace h := h.1 z
        refine hb_iconst (q := 50) (v := 0) hc dd_X9_thoseOf_49 rfl ic_0 ?_
        refine hb_ior (q := 51) hc dd_X9_thoseOf_50 rfl ?_
        refine hb_istore_n (q := 52) (lv' := [some (.ref 42), some (.int v1), some (.int v2), some (.int (v3 ||| 0)), some (.int v4)]) hc dd_X9_thoseOf_51 rfl (Nat.le_of_ble_eq_true rfl) rfl ?_
        refine hb_iinc (q := 55) (v := v4 + 1) (lv' := [some (.ref 42), some (.int v1), some (.int v2), some (.int (v3 ||| 0)), some (.int (v4 + 1))]) hc dd_X9_thoseOf_52 rfl rfl rfl (Nat.le_of_ble_eq_true rfl) rfl ?_
        refine hb_goto (tg := 5) hc dd_X9_thoseOf_55 (by decide) ?_
        exact hb_weak (lvs (lvs (lvs (lvs (lvs lvz))))) (h p l e s m args below meth c G hc)
      · replace h := h.2 z
        refine hb_iconst (q := 43) (v := 1) hc dd_X9_thoseOf_42 rfl ic_1 ?_
        refine hb_iload (q := 45) hc dd_X9_thoseOf_43 rfl rfl ?_
        refine hb_ishl (q := 46) hc dd_X9_thoseOf_45 rfl ?_
        refine hb_goto (tg := 50) hc dd_X9_thoseOf_46 (by decide) ?_
        refine hb_ior (q := 51) hc dd_X9_thoseOf_50 rfl ?_
        refine hb_istore_n (q := 52) (lv' := [some (.ref 42), some (.int v1), some (.int v2), some (.int (v3 ||| (1 <<< (v4 &&& 31)))), some (.int v4)]) hc dd_X9_thoseOf_51 rfl (Nat.le_of_ble_eq_true rfl) rfl ?_
        refine hb_iinc (q := 55) (v := v4 + 1) (lv' := [some (.ref 42), some (.int v1), some (.int v2), some (.int (v3 ||| (1 <<< (v4 &&& 31)))), some (.int (v4 + 1))]) hc dd_X9_thoseOf_52 rfl rfl rfl (Nat.le_of_ble_eq_true rfl) rfl ?_
        refine hb_goto (tg := 5) hc dd_X9_thoseOf_55 (by decide) ?_
        exact hb_weak (lvs (lvs (lvs (lvs (lvs lvz))))) (h p l e s m args below meth c G hc)
    · replace h := h.2 z
      refine hb_aload_n (q := 20) hc dd_X9_thoseOf_19 rfl rfl ?_
      refine hb_iload_n (q := 21) hc dd_X9_thoseOf_20 rfl rfl ?_
      refine hb_iload (q := 23) hc dd_X9_thoseOf_21 rfl rfl ?_
      refine hb_callVi (q := 26) (vs := [.int v1, .int v4]) (st := [.int v3]) hc mv_X9_221 h sh42 sl42 rfl rfl rfl (Nat.le_of_ble_eq_true rfl) ⟨Nat.le_refl _, Nat.le_refl _⟩ ⟨Nat.le_refl _, Nat.le_refl _⟩ dd_X9_thoseOf_23 rfl (fun r2 M2 h => ?_)
      refine hb_if_eq (q := 29) (tg := 49) hc dd_X9_thoseOf_26 rfl (by decide) (fun z => ?_) (fun z => ?_)
      · replace h := h.1 z
        refine hb_iconst (q := 50) (v := 0) hc dd_X9_thoseOf_49 rfl ic_0 ?_
        refine hb_ior (q := 51) hc dd_X9_thoseOf_50 rfl ?_
        refine hb_istore_n (q := 52) (lv' := [some (.ref 42), some (.int v1), some (.int v2), some (.int (v3 ||| 0)), some (.int v4)]) hc dd_X9_thoseOf_51 rfl (Nat.le_of_ble_eq_true rfl) rfl ?_
        refine hb_iinc (q := 55) (v := v4 + 1) (lv' := [some (.ref 42), some (.int v1), some (.int v2), some (.int (v3 ||| 0)), some (.int (v4 + 1))]) hc dd_X9_thoseOf_52 rfl rfl rfl (Nat.le_of_ble_eq_true rfl) rfl ?_
        refine hb_goto (tg := 5) hc dd_X9_thoseOf_55 (by decide) ?_
        exact hb_weak (lvs (lvs (lvs (lvs (lvs lvz))))) (h p l e s m args below meth c G hc)
      · replace h := h.2 z
        refine hb_goto (tg := 42) hc dd_X9_thoseOf_29 (by decide) ?_
        refine hb_iconst (q := 43) (v := 1) hc dd_X9_thoseOf_42 rfl ic_1 ?_
        refine hb_iload (q := 45) hc dd_X9_thoseOf_43 rfl rfl ?_
        refine hb_ishl (q := 46) hc dd_X9_thoseOf_45 rfl ?_
        refine hb_goto (tg := 50) hc dd_X9_thoseOf_46 (by decide) ?_
        refine hb_ior (q := 51) hc dd_X9_thoseOf_50 rfl ?_
        refine hb_istore_n (q := 52) (lv' := [some (.ref 42), some (.int v1), some (.int v2), some (.int (v3 ||| (1 <<< (v4 &&& 31)))), some (.int v4)]) hc dd_X9_thoseOf_51 rfl (Nat.le_of_ble_eq_true rfl) rfl ?_
        refine hb_iinc (q := 55) (v := v4 + 1) (lv' := [some (.ref 42), some (.int v1), some (.int v2), some (.int (v3 ||| (1 <<< (v4 &&& 31)))), some (.int (v4 + 1))]) hc dd_X9_thoseOf_52 rfl rfl rfl (Nat.le_of_ble_eq_true rfl) rfl ?_
        refine hb_goto (tg := 5) hc dd_X9_thoseOf_55 (by decide) ?_
        exact hb_weak (lvs (lvs (lvs (lvs (lvs lvz))))) (h p l e s m args below meth c G hc)
theorem w_X9_thoseOf {d : Nat} {M : Mm} {v1 : Int32} {v2 : Int32} {K : Int32 → Mm → Prop}  (h : lp_X9_thoseOf_5 d M v1 v2 0 0 K) : ACi (d + 1) X9_thoseOf [.ref 42, .int v1, .int v2] M K := by
  refine AC.ofW (lv := [some (.ref 42), some (.int v1), some (.int v2), none, none]) pn_X9 (Nat.le_of_ble_eq_true rfl) (show lvLe _ [some (.ref 42), some (.int v1), some (.int v2)] from (lvs (lvs (lvs (lve (lve lvz)))))) ?_
  intro p l e s m args below meth c G hc
  refine hb_iconst (q := 1) (v := 0) hc dd_X9_thoseOf_0 rfl ic_0 ?_
  refine hb_istore_n (q := 2) (lv' := [some (.ref 42), some (.int v1), some (.int v2), some (.int 0), none]) hc dd_X9_thoseOf_1 rfl (Nat.le_of_ble_eq_true rfl) rfl ?_
  refine hb_iconst (q := 3) (v := 0) hc dd_X9_thoseOf_2 rfl ic_0 ?_
  refine hb_istore (q := 5) (lv' := [some (.ref 42), some (.int v1), some (.int v2), some (.int 0), some (.int 0)]) hc dd_X9_thoseOf_3 rfl (Nat.le_of_ble_eq_true rfl) rfl ?_
  exact hb_weak (lvs (lvs (lvs (lvs (lvs lvz))))) (h p l e s m args below meth c G hc)
theorem w_X9_light {d : Nat} {M : Mm} {v1 : Int32} {v2 : Int32} {K : Int32 → Mm → Prop}  (h : ACi d X9_isLight [.ref 42, .int v1] M (fun r1 M1 => (¬ r1 = 0 → ((v2 = 0 → (vp_in (0 + v1) 144 ∧ (K (M1.1 43 ((0 + v1).toNatClampNeg)) M1))) ∧ (v2 = 1 → (vp_in (6 + v1) 144 ∧ (K (M1.1 43 ((6 + v1).toNatClampNeg)) M1))) ∧ (v2 = 2 → (ACi d X9_thoseOf [.ref 42, .int v1, .int 0] M1 (fun r2 M2 => K r2 M2))) ∧ (v2 = 3 → (ACi d X9_thoseOf [.ref 42, .int v1, .int 1] M1 (fun r3 M3 => K r3 M3))) ∧ (v2 < 0 ∨ nI 3 < v2 → (K (-3) M1)))) ∧ (r1 = 0 → (K (-2) M1)))) : ACi (d + 1) X9_light [.ref 42, .int v1, .int v2] M K := by
  refine AC.ofW (lv := [some (.ref 42), some (.int v1), some (.int v2)]) pn_X9 (Nat.le_of_ble_eq_true rfl) (show lvLe _ [some (.ref 42), some (.int v1), some (.int v2)] from (lvs (lvs (lvs lvz)))) ?_
  intro p l e s m args below meth c G hc
  refine hb_aload_n (q := 1) hc dd_X9_light_0 rfl rfl ?_
  refine hb_iload_n (q := 2) hc dd_X9_light_1 rfl rfl ?_
  refine hb_callVi (q := 5) (vs := [.int v1]) (st := []) hc mv_X9_224 h sh42 sl42 rfl rfl rfl (Nat.le_of_ble_eq_true rfl) ⟨Nat.le_refl _, Nat.le_refl _⟩ ⟨Nat.le_refl _, Nat.le_refl _⟩ dd_X9_light_2 rfl (fun r1 M1 h => ?_)
  refine hb_if_ne (q := 8) (tg := 11) hc dd_X9_light_5 rfl (by decide) (fun z => ?_) (fun z => ?_)
  · replace h := h.1 z
    refine hb_iload_n (q := 12) hc dd_X9_light_11 rfl rfl ?_
    by_cases zo : v2 < 0 ∨ nI 3 < v2
    · replace h := h.2.2.2.2 zo
      refine hb_tableOut (tg := 77) hc dd_X9_light_12 (sw_out (k := 3) (by decide) zo) (by decide) ?_
      refine hb_bipush (q := 79) (v := (-3)) hc dd_X9_light_77 rfl bp_m3 ?_
      exact hb_iret hc rfl dd_X9_light_79 h
    · have zi := sw_in3 zo
      rcases zi with z | z | z | z
      · replace h := h.1 z
        refine hb_tableIn (off := 32) (tg := 44) hc dd_X9_light_12 (by rw [z]; decide) (by rw [z]; decide) (by rw [z]; rfl) (by decide) ?_
        refine hb_aload_n (q := 45) hc dd_X9_light_44 rfl rfl ?_
        refine hb_getR (q := 48) hc fl_X9_7 sh42 sl42 rfl dd_X9_light_45 rfl ?_
        refine hb_iconst (q := 49) (v := 0) hc dd_X9_light_48 rfl ic_0 ?_
        refine hb_iload_n (q := 50) hc dd_X9_light_49 rfl rfl ?_
        refine hb_iadd (q := 51) hc dd_X9_light_50 rfl ?_
        obtain ⟨hi, h⟩ := h
        refine hb_iald (q := 52) (v := M1.1 43 ((0 + v1).toNatClampNeg)) hc sh43 sl43 hi rfl rfl dd_X9_light_51 rfl ?_
        exact hb_iret hc rfl dd_X9_light_52 h
      · replace h := h.2.1 z
        refine hb_tableIn (off := 41) (tg := 53) hc dd_X9_light_12 (by rw [z]; decide) (by rw [z]; decide) (by rw [z]; rfl) (by decide) ?_
        refine hb_aload_n (q := 54) hc dd_X9_light_53 rfl rfl ?_
        refine hb_getR (q := 57) hc fl_X9_7 sh42 sl42 rfl dd_X9_light_54 rfl ?_
        refine hb_bipush (q := 59) (v := 6) hc dd_X9_light_57 rfl bp_6 ?_
        refine hb_iload_n (q := 60) hc dd_X9_light_59 rfl rfl ?_
        refine hb_iadd (q := 61) hc dd_X9_light_60 rfl ?_
        obtain ⟨hi, h⟩ := h
        refine hb_iald (q := 62) (v := M1.1 43 ((6 + v1).toNatClampNeg)) hc sh43 sl43 hi rfl rfl dd_X9_light_61 rfl ?_
        exact hb_iret hc rfl dd_X9_light_62 h
      · replace h := h.2.2.1 z
        refine hb_tableIn (off := 51) (tg := 63) hc dd_X9_light_12 (by rw [z]; decide) (by rw [z]; decide) (by rw [z]; rfl) (by decide) ?_
        refine hb_aload_n (q := 64) hc dd_X9_light_63 rfl rfl ?_
        refine hb_iload_n (q := 65) hc dd_X9_light_64 rfl rfl ?_
        refine hb_iconst (q := 66) (v := 0) hc dd_X9_light_65 rfl ic_0 ?_
        refine hb_callVi (q := 69) (vs := [.int v1, .int 0]) (st := []) hc mv_X9_227 h sh42 sl42 rfl rfl rfl (Nat.le_of_ble_eq_true rfl) ⟨Nat.le_refl _, Nat.le_refl _⟩ ⟨Nat.le_refl _, Nat.le_refl _⟩ dd_X9_light_66 rfl (fun r2 M2 h => ?_)
        exact hb_iret hc rfl dd_X9_light_69 h
      · replace h := h.2.2.2.1 z
        refine hb_tableIn (off := 58) (tg := 70) hc dd_X9_light_12 (by rw [z]; decide) (by rw [z]; decide) (by rw [z]; rfl) (by decide) ?_
        refine hb_aload_n (q := 71) hc dd_X9_light_70 rfl rfl ?_
        refine hb_iload_n (q := 72) hc dd_X9_light_71 rfl rfl ?_
        refine hb_iconst (q := 73) (v := 1) hc dd_X9_light_72 rfl ic_1 ?_
        refine hb_callVi (q := 76) (vs := [.int v1, .int 1]) (st := []) hc mv_X9_227 h sh42 sl42 rfl rfl rfl (Nat.le_of_ble_eq_true rfl) ⟨Nat.le_refl _, Nat.le_refl _⟩ ⟨Nat.le_refl _, Nat.le_refl _⟩ dd_X9_light_73 rfl (fun r3 M3 h => ?_)
        exact hb_iret hc rfl dd_X9_light_76 h
  · replace h := h.2 z
    refine hb_bipush (q := 10) (v := (-2)) hc dd_X9_light_8 rfl bp_m2 ?_
    exact hb_iret hc rfl dd_X9_light_10 h
def lp_X9_become_2 (d : Nat) (M : Mm) (v1 : Int32) (v2 : Int32) (v3 : Int32) (K : Mm → Prop) : Prop := AW (d + 1) X9_become M 2 [some (.ref 42), some (.int v1), some (.int v2), some (.int v3)] [] (QV K)
theorem z_X9_become_2 {d : Nat} {M : Mm} {v1 : Int32} {v2 : Int32} {v3 : Int32} {K : Mm → Prop}  (h : (84 ≤ v3 → ((¬ (M.1 42 7) = 8 → (ACv d X9_copyRow [.ref 42, .int 0, .int (12 + (12 * ((M.1 42 7) - 0)))] (wI M 42 7 ((M.1 42 7) - 0)) (fun M1 => vp_in v1 144 ∧ (K (wI (wI (wI M1 42 7 ((M1.1 42 7) + 1)) 43 v1.toNatClampNeg v2) 42 11 0))))) ∧ ((M.1 42 7) = 8 → (ACv d X9_copyRow [.ref 42, .int 0, .int (12 + (12 * ((M.1 42 7) - 1)))] (wI M 42 7 ((M.1 42 7) - 1)) (fun M2 => vp_in v1 144 ∧ (K (wI (wI (wI M2 42 7 ((M2.1 42 7) + 1)) 43 v1.toNatClampNeg v2) 42 11 0))))))) ∧ (¬ 84 ≤ v3 → ((¬ (M.1 42 7) = 8 → ((¬ (M.1 42 7) = 8 → (ACv d X9_copyRow [.ref 42, .int 0, .int (12 + (12 * ((M.1 42 7) - 0)))] (wI M 42 7 ((M.1 42 7) - 0)) (fun M3 => vp_in v1 144 ∧ (K (wI (wI (wI M3 42 7 ((M3.1 42 7) + 1)) 43 v1.toNatClampNeg v2) 42 11 0))))) ∧ ((M.1 42 7) = 8 → (ACv d X9_copyRow [.ref 42, .int 0, .int (12 + (12 * ((M.1 42 7) - 1)))] (wI M 42 7 ((M.1 42 7) - 1)) (fun M4 => vp_in v1 144 ∧ (K (wI (wI (wI M4 42 7 ((M4.1 42 7) + 1)) 43 v1.toNatClampNeg v2) 42 11 0))))))) ∧ ((M.1 42 7) = 8 → (vp_in (24 + v3) 144 ∧ (vp_in (12 + v3) 144 ∧ (lp_X9_become_2 d (wI M 43 ((12 + v3).toNatClampNeg) (M.1 43 ((24 + v3).toNatClampNeg))) v1 v2 (v3 + 1) K))))))) : lp_X9_become_2 d M v1 v2 v3 K := by
  intro p l e s m args below meth c G hc
  refine hb_iload_n (q := 3) hc dd_X9_become_2 rfl rfl ?_
  refine hb_bipush (q := 5) (v := 84) hc dd_X9_become_3 rfl bp_84 ?_
  refine hb_icmp_ge (q := 8) (tg := 41) hc dd_X9_become_5 rfl (by decide) (fun z => ?_) (fun z => ?_)
  · replace h := h.1 z
    refine hb_aload_n (q := 42) hc dd_X9_become_41 rfl rfl ?_
    refine hb_dup (q := 43) hc dd_X9_become_42 rfl rfl ?_
    refine hb_getI (q := 46) (v := M.1 42 7) hc fl_X9_180 sh42 sl42 rfl rfl dd_X9_become_43 rfl ?_
    refine hb_aload_n (q := 47) hc dd_X9_become_46 rfl rfl ?_
    refine hb_getI (q := 50) (v := M.1 42 7) hc fl_X9_180 sh42 sl42 rfl rfl dd_X9_become_47 rfl ?_
    refine hb_bipush (q := 52) (v := 8) hc dd_X9_become_50 rfl bp_8 ?_
    refine hb_icmp_ne (q := 55) (tg := 59) hc dd_X9_become_52 rfl (by decide) (fun z => ?_) (fun z => ?_)
    · replace h := h.1 z
      refine hb_iconst (q := 60) (v := 0) hc dd_X9_become_59 rfl ic_0 ?_
      refine hb_isub (q := 61) hc dd_X9_become_60 rfl ?_
      refine hb_putI (q := 64) hc fl_X9_180 sh42 sl42 rfl dd_X9_become_61 rfl ?_
      refine hb_aload_n (q := 65) hc dd_X9_become_64 rfl rfl ?_
      refine hb_iconst (q := 66) (v := 0) hc dd_X9_become_65 rfl ic_0 ?_
      refine hb_bipush (q := 68) (v := 12) hc dd_X9_become_66 rfl bp_12 ?_
      refine hb_bipush (q := 70) (v := 12) hc dd_X9_become_68 rfl bp_12 ?_
      refine hb_aload_n (q := 71) hc dd_X9_become_70 rfl rfl ?_
      refine hb_getI (q := 74) (v := (M.1 42 7) - 0) hc fl_X9_180 sh42 sl42 rfl rfl dd_X9_become_71 rfl ?_
      refine hb_imul (q := 75) hc dd_X9_become_74 rfl ?_
      refine hb_iadd (q := 76) hc dd_X9_become_75 rfl ?_
      refine hb_callVv (q := 79) (vs := [.int 0, .int (12 + (12 * ((M.1 42 7) - 0)))]) (st := []) hc mv_X9_82 h sh42 sl42 rfl rfl rfl (Nat.le_of_ble_eq_true rfl) ⟨Nat.le_refl _, Nat.le_refl _⟩ ⟨Nat.le_refl _, Nat.le_refl _⟩ dd_X9_become_76 rfl (fun M1 h => ?_)
      refine hb_aload_n (q := 80) hc dd_X9_become_79 rfl rfl ?_
      refine hb_dup (q := 81) hc dd_X9_become_80 rfl rfl ?_
      refine hb_getI (q := 84) (v := M1.1 42 7) hc fl_X9_180 sh42 sl42 rfl rfl dd_X9_become_81 rfl ?_
      refine hb_iconst (q := 85) (v := 1) hc dd_X9_become_84 rfl ic_1 ?_
      refine hb_iadd (q := 86) hc dd_X9_become_85 rfl ?_
      refine hb_putI (q := 89) hc fl_X9_180 sh42 sl42 rfl dd_X9_become_86 rfl ?_
      refine hb_aload_n (q := 90) hc dd_X9_become_89 rfl rfl ?_
      refine hb_getR (q := 93) hc fl_X9_7 sh42 sl42 rfl dd_X9_become_90 rfl ?_
      refine hb_iload_n (q := 94) hc dd_X9_become_93 rfl rfl ?_
      refine hb_iload_n (q := 95) hc dd_X9_become_94 rfl rfl ?_
      obtain ⟨hi, h⟩ := h
      refine hb_iast (q := 96) hc sh43 sl43 hi rfl dd_X9_become_95 rfl ?_
      refine hb_aload_n (q := 97) hc dd_X9_become_96 rfl rfl ?_
      refine hb_iconst (q := 98) (v := 0) hc dd_X9_become_97 rfl ic_0 ?_
      refine hb_putZ (q := 101) hc fl_X9_183 sh42 sl42 rfl (by decide) dd_X9_become_98 rfl ?_
      exact hb_vret hc rfl dd_X9_become_101 h
    · replace h := h.2 z
      refine hb_iconst (q := 56) (v := 1) hc dd_X9_become_55 rfl ic_1 ?_
      refine hb_goto (tg := 60) hc dd_X9_become_56 (by decide) ?_
      refine hb_isub (q := 61) hc dd_X9_become_60 rfl ?_
      refine hb_putI (q := 64) hc fl_X9_180 sh42 sl42 rfl dd_X9_become_61 rfl ?_
      refine hb_aload_n (q := 65) hc dd_X9_become_64 rfl rfl ?_
      refine hb_iconst (q := 66) (v := 0) hc dd_X9_become_65 rfl ic_0 ?_
      refine hb_bipush (q := 68) (v := 12) hc dd_X9_become_66 rfl bp_12 ?_
      refine hb_bipush (q := 70) (v := 12) hc dd_X9_become_68 rfl bp_12 ?_
      refine hb_aload_n (q := 71) hc dd_X9_become_70 rfl rfl ?_
      refine hb_getI (q := 74) (v := (M.1 42 7) - 1) hc fl_X9_180 sh42 sl42 rfl rfl dd_X9_become_71 rfl ?_
      refine hb_imul (q := 75) hc dd_X9_become_74 rfl ?_
      refine hb_iadd (q := 76) hc dd_X9_become_75 rfl ?_
      refine hb_callVv (q := 79) (vs := [.int 0, .int (12 + (12 * ((M.1 42 7) - 1)))]) (st := []) hc mv_X9_82 h sh42 sl42 rfl rfl rfl (Nat.le_of_ble_eq_true rfl) ⟨Nat.le_refl _, Nat.le_refl _⟩ ⟨Nat.le_refl _, Nat.le_refl _⟩ dd_X9_become_76 rfl (fun M2 h => ?_)
      refine hb_aload_n (q := 80) hc dd_X9_become_79 rfl rfl ?_
      refine hb_dup (q := 81) hc dd_X9_become_80 rfl rfl ?_
      refine hb_getI (q := 84) (v := M2.1 42 7) hc fl_X9_180 sh42 sl42 rfl rfl dd_X9_become_81 rfl ?_
      refine hb_iconst (q := 85) (v := 1) hc dd_X9_become_84 rfl ic_1 ?_
      refine hb_iadd (q := 86) hc dd_X9_become_85 rfl ?_
      refine hb_putI (q := 89) hc fl_X9_180 sh42 sl42 rfl dd_X9_become_86 rfl ?_
      refine hb_aload_n (q := 90) hc dd_X9_become_89 rfl rfl ?_
      refine hb_getR (q := 93) hc fl_X9_7 sh42 sl42 rfl dd_X9_become_90 rfl ?_
      refine hb_iload_n (q := 94) hc dd_X9_become_93 rfl rfl ?_
      refine hb_iload_n (q := 95) hc dd_X9_become_94 rfl rfl ?_
      obtain ⟨hi, h⟩ := h
      refine hb_iast (q := 96) hc sh43 sl43 hi rfl dd_X9_become_95 rfl ?_
      refine hb_aload_n (q := 97) hc dd_X9_become_96 rfl rfl ?_
      refine hb_iconst (q := 98) (v := 0) hc dd_X9_become_97 rfl ic_0 ?_
      refine hb_putZ (q := 101) hc fl_X9_183 sh42 sl42 rfl (by decide) dd_X9_become_98 rfl ?_
      exact hb_vret hc rfl dd_X9_become_101 h
  · replace h := h.2 z
    refine hb_aload_n (q := 9) hc dd_X9_become_8 rfl rfl ?_
    refine hb_getI (q := 12) (v := M.1 42 7) hc fl_X9_180 sh42 sl42 rfl rfl dd_X9_become_9 rfl ?_
    refine hb_bipush (q := 14) (v := 8) hc dd_X9_become_12 rfl bp_8 ?_
    refine hb_icmp_ne (q := 17) (tg := 41) hc dd_X9_become_14 rfl (by decide) (fun z => ?_) (fun z => ?_)
    · replace h := h.1 z
      refine hb_aload_n (q := 42) hc dd_X9_become_41 rfl rfl ?_
      refine hb_dup (q := 43) hc dd_X9_become_42 rfl rfl ?_
      refine hb_getI (q := 46) (v := M.1 42 7) hc fl_X9_180 sh42 sl42 rfl rfl dd_X9_become_43 rfl ?_
      refine hb_aload_n (q := 47) hc dd_X9_become_46 rfl rfl ?_
      refine hb_getI (q := 50) (v := M.1 42 7) hc fl_X9_180 sh42 sl42 rfl rfl dd_X9_become_47 rfl ?_
      refine hb_bipush (q := 52) (v := 8) hc dd_X9_become_50 rfl bp_8 ?_
      refine hb_icmp_ne (q := 55) (tg := 59) hc dd_X9_become_52 rfl (by decide) (fun z => ?_) (fun z => ?_)
      · replace h := h.1 z
        refine hb_iconst (q := 60) (v := 0) hc dd_X9_become_59 rfl ic_0 ?_
        refine hb_isub (q := 61) hc dd_X9_become_60 rfl ?_
        refine hb_putI (q := 64) hc fl_X9_180 sh42 sl42 rfl dd_X9_become_61 rfl ?_
        refine hb_aload_n (q := 65) hc dd_X9_become_64 rfl rfl ?_
        refine hb_iconst (q := 66) (v := 0) hc dd_X9_become_65 rfl ic_0 ?_
        refine hb_bipush (q := 68) (v := 12) hc dd_X9_become_66 rfl bp_12 ?_
        refine hb_bipush (q := 70) (v := 12) hc dd_X9_become_68 rfl bp_12 ?_
        refine hb_aload_n (q := 71) hc dd_X9_become_70 rfl rfl ?_
        refine hb_getI (q := 74) (v := (M.1 42 7) - 0) hc fl_X9_180 sh42 sl42 rfl rfl dd_X9_become_71 rfl ?_
        refine hb_imul (q := 75) hc dd_X9_become_74 rfl ?_
        refine hb_iadd (q := 76) hc dd_X9_become_75 rfl ?_
        refine hb_callVv (q := 79) (vs := [.int 0, .int (12 + (12 * ((M.1 42 7) - 0)))]) (st := []) hc mv_X9_82 h sh42 sl42 rfl rfl rfl (Nat.le_of_ble_eq_true rfl) ⟨Nat.le_refl _, Nat.le_refl _⟩ ⟨Nat.le_refl _, Nat.le_refl _⟩ dd_X9_become_76 rfl (fun M3 h => ?_)
        refine hb_aload_n (q := 80) hc dd_X9_become_79 rfl rfl ?_
        refine hb_dup (q := 81) hc dd_X9_become_80 rfl rfl ?_
        refine hb_getI (q := 84) (v := M3.1 42 7) hc fl_X9_180 sh42 sl42 rfl rfl dd_X9_become_81 rfl ?_
        refine hb_iconst (q := 85) (v := 1) hc dd_X9_become_84 rfl ic_1 ?_
        refine hb_iadd (q := 86) hc dd_X9_become_85 rfl ?_
        refine hb_putI (q := 89) hc fl_X9_180 sh42 sl42 rfl dd_X9_become_86 rfl ?_
        refine hb_aload_n (q := 90) hc dd_X9_become_89 rfl rfl ?_
        refine hb_getR (q := 93) hc fl_X9_7 sh42 sl42 rfl dd_X9_become_90 rfl ?_
        refine hb_iload_n (q := 94) hc dd_X9_become_93 rfl rfl ?_
        refine hb_iload_n (q := 95) hc dd_X9_become_94 rfl rfl ?_
        obtain ⟨hi, h⟩ := h
        refine hb_iast (q := 96) hc sh43 sl43 hi rfl dd_X9_become_95 rfl ?_
        refine hb_aload_n (q := 97) hc dd_X9_become_96 rfl rfl ?_
        refine hb_iconst (q := 98) (v := 0) hc dd_X9_become_97 rfl ic_0 ?_
        refine hb_putZ (q := 101) hc fl_X9_183 sh42 sl42 rfl (by decide) dd_X9_become_98 rfl ?_
        exact hb_vret hc rfl dd_X9_become_101 h
      · replace h := h.2 z
        refine hb_iconst (q := 56) (v := 1) hc dd_X9_become_55 rfl ic_1 ?_
        refine hb_goto (tg := 60) hc dd_X9_become_56 (by decide) ?_
        refine hb_isub (q := 61) hc dd_X9_become_60 rfl ?_
        refine hb_putI (q := 64) hc fl_X9_180 sh42 sl42 rfl dd_X9_become_61 rfl ?_
        refine hb_aload_n (q := 65) hc dd_X9_become_64 rfl rfl ?_
        refine hb_iconst (q := 66) (v := 0) hc dd_X9_become_65 rfl ic_0 ?_
        refine hb_bipush (q := 68) (v := 12) hc dd_X9_become_66 rfl bp_12 ?_
        refine hb_bipush (q := 70) (v := 12) hc dd_X9_become_68 rfl bp_12 ?_
        refine hb_aload_n (q := 71) hc dd_X9_become_70 rfl rfl ?_
        refine hb_getI (q := 74) (v := (M.1 42 7) - 1) hc fl_X9_180 sh42 sl42 rfl rfl dd_X9_become_71 rfl ?_
        refine hb_imul (q := 75) hc dd_X9_become_74 rfl ?_
        refine hb_iadd (q := 76) hc dd_X9_become_75 rfl ?_
        refine hb_callVv (q := 79) (vs := [.int 0, .int (12 + (12 * ((M.1 42 7) - 1)))]) (st := []) hc mv_X9_82 h sh42 sl42 rfl rfl rfl (Nat.le_of_ble_eq_true rfl) ⟨Nat.le_refl _, Nat.le_refl _⟩ ⟨Nat.le_refl _, Nat.le_refl _⟩ dd_X9_become_76 rfl (fun M4 h => ?_)
        refine hb_aload_n (q := 80) hc dd_X9_become_79 rfl rfl ?_
        refine hb_dup (q := 81) hc dd_X9_become_80 rfl rfl ?_
        refine hb_getI (q := 84) (v := M4.1 42 7) hc fl_X9_180 sh42 sl42 rfl rfl dd_X9_become_81 rfl ?_
        refine hb_iconst (q := 85) (v := 1) hc dd_X9_become_84 rfl ic_1 ?_
        refine hb_iadd (q := 86) hc dd_X9_become_85 rfl ?_
        refine hb_putI (q := 89) hc fl_X9_180 sh42 sl42 rfl dd_X9_become_86 rfl ?_
        refine hb_aload_n (q := 90) hc dd_X9_become_89 rfl rfl ?_
        refine hb_getR (q := 93) hc fl_X9_7 sh42 sl42 rfl dd_X9_become_90 rfl ?_
        refine hb_iload_n (q := 94) hc dd_X9_become_93 rfl rfl ?_
        refine hb_iload_n (q := 95) hc dd_X9_become_94 rfl rfl ?_
        obtain ⟨hi, h⟩ := h
        refine hb_iast (q := 96) hc sh43 sl43 hi rfl dd_X9_become_95 rfl ?_
        refine hb_aload_n (q := 97) hc dd_X9_become_96 rfl rfl ?_
        refine hb_iconst (q := 98) (v := 0) hc dd_X9_become_97 rfl ic_0 ?_
        refine hb_putZ (q := 101) hc fl_X9_183 sh42 sl42 rfl (by decide) dd_X9_become_98 rfl ?_
        exact hb_vret hc rfl dd_X9_become_101 h
    · replace h := h.2 z
      refine hb_aload_n (q := 18) hc dd_X9_become_17 rfl rfl ?_
      refine hb_getR (q := 21) hc fl_X9_7 sh42 sl42 rfl dd_X9_become_18 rfl ?_
      refine hb_bipush (q := 23) (v := 12) hc dd_X9_become_21 rfl bp_12 ?_
      refine hb_iload_n (q := 24) hc dd_X9_become_23 rfl rfl ?_
      refine hb_iadd (q := 25) hc dd_X9_become_24 rfl ?_
      refine hb_aload_n (q := 26) hc dd_X9_become_25 rfl rfl ?_
      refine hb_getR (q := 29) hc fl_X9_7 sh42 sl42 rfl dd_X9_become_26 rfl ?_
      refine hb_bipush (q := 31) (v := 24) hc dd_X9_become_29 rfl bp_24 ?_
      refine hb_iload_n (q := 32) hc dd_X9_become_31 rfl rfl ?_
      refine hb_iadd (q := 33) hc dd_X9_become_32 rfl ?_
      obtain ⟨hi, h⟩ := h
      refine hb_iald (q := 34) (v := M.1 43 ((24 + v3).toNatClampNeg)) hc sh43 sl43 hi rfl rfl dd_X9_become_33 rfl ?_
      obtain ⟨hi, h⟩ := h
      refine hb_iast (q := 35) hc sh43 sl43 hi rfl dd_X9_become_34 rfl ?_
      refine hb_iinc (q := 38) (v := v3 + 1) (lv' := [some (.ref 42), some (.int v1), some (.int v2), some (.int (v3 + 1))]) hc dd_X9_become_35 rfl rfl rfl (Nat.le_of_ble_eq_true rfl) rfl ?_
      refine hb_goto (tg := 2) hc dd_X9_become_38 (by decide) ?_
      exact hb_weak (lvs (lvs (lvs (lvs lvz)))) (h p l e s m args below meth c G hc)
theorem w_X9_become {d : Nat} {M : Mm} {v1 : Int32} {v2 : Int32} {K : Mm → Prop}  (h : lp_X9_become_2 d M v1 v2 0 K) : ACv (d + 1) X9_become [.ref 42, .int v1, .int v2] M K := by
  refine AC.ofW (lv := [some (.ref 42), some (.int v1), some (.int v2), none]) pn_X9 (Nat.le_of_ble_eq_true rfl) (show lvLe _ [some (.ref 42), some (.int v1), some (.int v2)] from (lvs (lvs (lvs (lve lvz))))) ?_
  intro p l e s m args below meth c G hc
  refine hb_iconst (q := 1) (v := 0) hc dd_X9_become_0 rfl ic_0 ?_
  refine hb_istore_n (q := 2) (lv' := [some (.ref 42), some (.int v1), some (.int v2), some (.int 0)]) hc dd_X9_become_1 rfl (Nat.le_of_ble_eq_true rfl) rfl ?_
  exact hb_weak (lvs (lvs (lvs (lvs lvz)))) (h p l e s m args below meth c G hc)
theorem w_X9_lit {d : Nat} {M : Mm} {v1 : Int32} {v2 : Int32} {K : Int32 → Mm → Prop}  (h : ACi d X9_isLight [.ref 42, .int v1] M (fun r1 M1 => (r1 = 0 → (K (-2) M1)) ∧ (¬ r1 = 0 → (ACi d X9_isRhythm [.ref 42, .int v2] M1 (fun r2 M2 => (¬ r2 = 0 → (vp_in (6 + v1) 144 ∧ ((¬ (M2.1 43 ((6 + v1).toNatClampNeg)) = v2 → (ACv d X9_become [.ref 42, .int (6 + v1), .int v2] M2 (fun M3 => K (M2.1 43 ((6 + v1).toNatClampNeg)) M3))) ∧ ((M2.1 43 ((6 + v1).toNatClampNeg)) = v2 → (K (-4) M2))))) ∧ (r2 = 0 → (K (-2) M2))))))) : ACi (d + 1) X9_lit [.ref 42, .int v1, .int v2] M K := by
  refine AC.ofW (lv := [some (.ref 42), some (.int v1), some (.int v2), none]) pn_X9 (Nat.le_of_ble_eq_true rfl) (show lvLe _ [some (.ref 42), some (.int v1), some (.int v2)] from (lvs (lvs (lvs (lve lvz))))) ?_
  intro p l e s m args below meth c G hc
  refine hb_aload_n (q := 1) hc dd_X9_lit_0 rfl rfl ?_
  refine hb_iload_n (q := 2) hc dd_X9_lit_1 rfl rfl ?_
  refine hb_callVi (q := 5) (vs := [.int v1]) (st := []) hc mv_X9_224 h sh42 sl42 rfl rfl rfl (Nat.le_of_ble_eq_true rfl) ⟨Nat.le_refl _, Nat.le_refl _⟩ ⟨Nat.le_refl _, Nat.le_refl _⟩ dd_X9_lit_2 rfl (fun r1 M1 h => ?_)
  refine hb_if_eq (q := 8) (tg := 16) hc dd_X9_lit_5 rfl (by decide) (fun z => ?_) (fun z => ?_)
  · replace h := h.1 z
    refine hb_bipush (q := 18) (v := (-2)) hc dd_X9_lit_16 rfl bp_m2 ?_
    exact hb_iret hc rfl dd_X9_lit_18 h
  · replace h := h.2 z
    refine hb_aload_n (q := 9) hc dd_X9_lit_8 rfl rfl ?_
    refine hb_iload_n (q := 10) hc dd_X9_lit_9 rfl rfl ?_
    refine hb_callVi (q := 13) (vs := [.int v2]) (st := []) hc mv_X9_198 h sh42 sl42 rfl rfl rfl (Nat.le_of_ble_eq_true rfl) ⟨Nat.le_refl _, Nat.le_refl _⟩ ⟨Nat.le_refl _, Nat.le_refl _⟩ dd_X9_lit_10 rfl (fun r2 M2 h => ?_)
    refine hb_if_ne (q := 16) (tg := 19) hc dd_X9_lit_13 rfl (by decide) (fun z => ?_) (fun z => ?_)
    · replace h := h.1 z
      refine hb_aload_n (q := 20) hc dd_X9_lit_19 rfl rfl ?_
      refine hb_getR (q := 23) hc fl_X9_7 sh42 sl42 rfl dd_X9_lit_20 rfl ?_
      refine hb_bipush (q := 25) (v := 6) hc dd_X9_lit_23 rfl bp_6 ?_
      refine hb_iload_n (q := 26) hc dd_X9_lit_25 rfl rfl ?_
      refine hb_iadd (q := 27) hc dd_X9_lit_26 rfl ?_
      obtain ⟨hi, h⟩ := h
      refine hb_iald (q := 28) (v := M2.1 43 ((6 + v1).toNatClampNeg)) hc sh43 sl43 hi rfl rfl dd_X9_lit_27 rfl ?_
      refine hb_istore_n (q := 29) (lv' := [some (.ref 42), some (.int v1), some (.int v2), some (.int (M2.1 43 ((6 + v1).toNatClampNeg)))]) hc dd_X9_lit_28 rfl (Nat.le_of_ble_eq_true rfl) rfl ?_
      refine hb_iload_n (q := 30) hc dd_X9_lit_29 rfl rfl ?_
      refine hb_iload_n (q := 31) hc dd_X9_lit_30 rfl rfl ?_
      refine hb_icmp_ne (q := 34) (tg := 37) hc dd_X9_lit_31 rfl (by decide) (fun z => ?_) (fun z => ?_)
      · replace h := h.1 z
        refine hb_aload_n (q := 38) hc dd_X9_lit_37 rfl rfl ?_
        refine hb_bipush (q := 40) (v := 6) hc dd_X9_lit_38 rfl bp_6 ?_
        refine hb_iload_n (q := 41) hc dd_X9_lit_40 rfl rfl ?_
        refine hb_iadd (q := 42) hc dd_X9_lit_41 rfl ?_
        refine hb_iload_n (q := 43) hc dd_X9_lit_42 rfl rfl ?_
        refine hb_callVv (q := 46) (vs := [.int (6 + v1), .int v2]) (st := []) hc mv_X9_231 h sh42 sl42 rfl rfl rfl (Nat.le_of_ble_eq_true rfl) ⟨Nat.le_refl _, Nat.le_refl _⟩ ⟨Nat.le_refl _, Nat.le_refl _⟩ dd_X9_lit_43 rfl (fun M3 h => ?_)
        refine hb_iload_n (q := 47) hc dd_X9_lit_46 rfl rfl ?_
        exact hb_iret hc rfl dd_X9_lit_47 h
      · replace h := h.2 z
        refine hb_bipush (q := 36) (v := (-4)) hc dd_X9_lit_34 rfl bp_m4 ?_
        exact hb_iret hc rfl dd_X9_lit_36 h
    · replace h := h.2 z
      refine hb_bipush (q := 18) (v := (-2)) hc dd_X9_lit_16 rfl bp_m2 ?_
      exact hb_iret hc rfl dd_X9_lit_18 h
