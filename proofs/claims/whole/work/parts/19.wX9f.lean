/-! WALKS, by program (wip/whole/gen6.py). -/
theorem w_X9_seePair {d : Nat} {M : Mm} {v1 : Int32} {v2 : Int32} {K : Mm → Prop}  (h : vp_in (6 + (v1 / 8)) 144 ∧ (vp_in v1 48 ∧ (ACi d X9_beatOf [.ref 42, .int (M.1 43 ((6 + (v1 / 8)).toNatClampNeg)), .int (M.1 48 v1.toNatClampNeg)] M (fun r1 M1 => (r1 = v2 → (vp_in v1 48 ∧ (¬ (M1.1 42 1) = 0 ∧ (vp_in v1 48 ∧ (K (wI M1 48 v1.toNatClampNeg (((M1.1 48 v1.toNatClampNeg) + 1) - ((M1.1 48 v1.toNatClampNeg) + 1) / (M1.1 42 1) * (M1.1 42 1)))))))) ∧ (¬ r1 = v2 → (((M1.1 42 12) = 0 → (vp_in v1 48 ∧ (vp_in v1 48 ∧ (vp_in v1 48 ∧ (¬ (M1.1 42 1) = 0 ∧ (vp_in v1 48 ∧ (K (wI (wI (wI M1 47 v1.toNatClampNeg 0) 49 v1.toNatClampNeg 1) 48 v1.toNatClampNeg (((M1.1 48 v1.toNatClampNeg) + 1) - ((M1.1 48 v1.toNatClampNeg) + 1) / (M1.1 42 1) * (M1.1 42 1)))))))))) ∧ (¬ (M1.1 42 12) = 0 → ((¬ r1 = 1 → (vp_in v1 48 ∧ (vp_in v1 48 ∧ (vp_in v1 48 ∧ (¬ (M1.1 42 1) = 0 ∧ (vp_in v1 48 ∧ (K (wI (wI (wI M1 47 v1.toNatClampNeg 0) 49 v1.toNatClampNeg 1) 48 v1.toNatClampNeg (((M1.1 48 v1.toNatClampNeg) + 1) - ((M1.1 48 v1.toNatClampNeg) + 1) / (M1.1 42 1) * (M1.1 42 1)))))))))) ∧ (r1 = 1 → (vp_in v1 48 ∧ ((¬ (M1.1 49 v1.toNatClampNeg) = 0 → (vp_in v1 48 ∧ (vp_in v1 48 ∧ (vp_in v1 48 ∧ (¬ (M1.1 42 1) = 0 ∧ (vp_in v1 48 ∧ (K (wI (wI (wI M1 47 v1.toNatClampNeg 0) 49 v1.toNatClampNeg 1) 48 v1.toNatClampNeg (((M1.1 48 v1.toNatClampNeg) + 1) - ((M1.1 48 v1.toNatClampNeg) + 1) / (M1.1 42 1) * (M1.1 42 1)))))))))) ∧ ((M1.1 49 v1.toNatClampNeg) = 0 → (vp_in v1 48 ∧ (vp_in v1 48 ∧ (vp_in v1 48 ∧ (¬ (M1.1 42 1) = 0 ∧ (vp_in v1 48 ∧ (K (wI (wI (wI M1 47 v1.toNatClampNeg 1) 49 v1.toNatClampNeg 1) 48 v1.toNatClampNeg (((M1.1 48 v1.toNatClampNeg) + 1) - ((M1.1 48 v1.toNatClampNeg) + 1) / (M1.1 42 1) * (M1.1 42 1))))))))))))))))))))) : ACv (d + 1) X9_seePair [.ref 42, .int v1, .int v2] M K := by
  refine AC.ofW (lv := [some (.ref 42), some (.int v1), some (.int v2), none]) pn_X9 (Nat.le_of_ble_eq_true rfl) (show lvLe _ [some (.ref 42), some (.int v1), some (.int v2)] from (lvs (lvs (lvs (lve lvz))))) ?_
  intro p l e s m args below meth c G hc
  refine hb_aload_n (q := 1) hc dd_X9_seePair_0 rfl rfl ?_
  refine hb_aload_n (q := 2) hc dd_X9_seePair_1 rfl rfl ?_
  refine hb_getR (q := 5) hc fl_X9_7 sh42 sl42 rfl dd_X9_seePair_2 rfl ?_
  refine hb_bipush (q := 7) (v := 6) hc dd_X9_seePair_5 rfl bp_6 ?_
  refine hb_iload_n (q := 8) hc dd_X9_seePair_7 rfl rfl ?_
  refine hb_bipush (q := 10) (v := 8) hc dd_X9_seePair_8 rfl bp_8 ?_
  refine hb_idiv (q := 11) hc dd_X9_seePair_10 rfl (by decide) ?_
  refine hb_iadd (q := 12) hc dd_X9_seePair_11 rfl ?_
  obtain ⟨hi, h⟩ := h
  refine hb_iald (q := 13) (v := M.1 43 ((6 + (v1 / 8)).toNatClampNeg)) hc sh43 sl43 hi rfl rfl dd_X9_seePair_12 rfl ?_
  refine hb_aload_n (q := 14) hc dd_X9_seePair_13 rfl rfl ?_
  refine hb_getR (q := 17) hc fl_X9_26 sh42 sl42 rfl dd_X9_seePair_14 rfl ?_
  refine hb_iload_n (q := 18) hc dd_X9_seePair_17 rfl rfl ?_
  obtain ⟨hi, h⟩ := h
  refine hb_iald (q := 19) (v := M.1 48 v1.toNatClampNeg) hc sh48 sl48 hi rfl rfl dd_X9_seePair_18 rfl ?_
  refine hb_callVi (q := 22) (vs := [.int (M.1 43 ((6 + (v1 / 8)).toNatClampNeg)), .int (M.1 48 v1.toNatClampNeg)]) (st := []) hc mv_X9_186 h sh42 sl42 rfl rfl rfl (Nat.le_of_ble_eq_true rfl) ⟨Nat.le_refl _, Nat.le_refl _⟩ ⟨Nat.le_refl _, Nat.le_refl _⟩ dd_X9_seePair_19 rfl (fun r1 M1 h => ?_)
  refine hb_istore_n (q := 23) (lv' := [some (.ref 42), some (.int v1), some (.int v2), some (.int r1)]) hc dd_X9_seePair_22 rfl (Nat.le_of_ble_eq_true rfl) rfl ?_
  refine hb_iload_n (q := 24) hc dd_X9_seePair_23 rfl rfl ?_
  refine hb_iload_n (q := 25) hc dd_X9_seePair_24 rfl rfl ?_
  refine hb_icmp_eq (q := 28) (tg := 67) hc dd_X9_seePair_25 rfl (by decide) (fun z => ?_) (fun z => ?_)
  · replace h := h.1 z
    refine hb_aload_n (q := 68) hc dd_X9_seePair_67 rfl rfl ?_
    refine hb_getR (q := 71) hc fl_X9_26 sh42 sl42 rfl dd_X9_seePair_68 rfl ?_
    refine hb_iload_n (q := 72) hc dd_X9_seePair_71 rfl rfl ?_
    refine hb_aload_n (q := 73) hc dd_X9_seePair_72 rfl rfl ?_
    refine hb_getR (q := 76) hc fl_X9_26 sh42 sl42 rfl dd_X9_seePair_73 rfl ?_
    refine hb_iload_n (q := 77) hc dd_X9_seePair_76 rfl rfl ?_
    obtain ⟨hi, h⟩ := h
    refine hb_iald (q := 78) (v := M1.1 48 v1.toNatClampNeg) hc sh48 sl48 hi rfl rfl dd_X9_seePair_77 rfl ?_
    refine hb_iconst (q := 79) (v := 1) hc dd_X9_seePair_78 rfl ic_1 ?_
    refine hb_iadd (q := 80) hc dd_X9_seePair_79 rfl ?_
    refine hb_aload_n (q := 81) hc dd_X9_seePair_80 rfl rfl ?_
    refine hb_getI (q := 84) (v := M1.1 42 1) hc fl_X9_86 sh42 sl42 rfl rfl dd_X9_seePair_81 rfl ?_
    obtain ⟨hn, h⟩ := h
    refine hb_irem (q := 85) hc dd_X9_seePair_84 rfl hn ?_
    obtain ⟨hi, h⟩ := h
    refine hb_iast (q := 86) hc sh48 sl48 hi rfl dd_X9_seePair_85 rfl ?_
    exact hb_vret hc rfl dd_X9_seePair_86 h
  · replace h := h.2 z
    refine hb_aload_n (q := 29) hc dd_X9_seePair_28 rfl rfl ?_
    refine hb_getR (q := 32) hc fl_X9_23 sh42 sl42 rfl dd_X9_seePair_29 rfl ?_
    refine hb_iload_n (q := 33) hc dd_X9_seePair_32 rfl rfl ?_
    refine hb_aload_n (q := 34) hc dd_X9_seePair_33 rfl rfl ?_
    refine hb_getI (q := 37) (v := M1.1 42 12) hc fl_X9_271 sh42 sl42 rfl rfl dd_X9_seePair_34 rfl ?_
    refine hb_if_eq (q := 40) (tg := 58) hc dd_X9_seePair_37 rfl (by decide) (fun z => ?_) (fun z => ?_)
    · replace h := h.1 z
      refine hb_iconst (q := 59) (v := 0) hc dd_X9_seePair_58 rfl ic_0 ?_
      obtain ⟨hi, h⟩ := h
      refine hb_zast (q := 60) hc sh47 sl47 hi (by decide) rfl dd_X9_seePair_59 rfl ?_
      refine hb_aload_n (q := 61) hc dd_X9_seePair_60 rfl rfl ?_
      refine hb_getR (q := 64) hc fl_X9_29 sh42 sl42 rfl dd_X9_seePair_61 rfl ?_
      refine hb_iload_n (q := 65) hc dd_X9_seePair_64 rfl rfl ?_
      refine hb_iconst (q := 66) (v := 1) hc dd_X9_seePair_65 rfl ic_1 ?_
      obtain ⟨hi, h⟩ := h
      refine hb_zast (q := 67) hc sh49 sl49 hi (by decide) rfl dd_X9_seePair_66 rfl ?_
      refine hb_aload_n (q := 68) hc dd_X9_seePair_67 rfl rfl ?_
      refine hb_getR (q := 71) hc fl_X9_26 sh42 sl42 rfl dd_X9_seePair_68 rfl ?_
      refine hb_iload_n (q := 72) hc dd_X9_seePair_71 rfl rfl ?_
      refine hb_aload_n (q := 73) hc dd_X9_seePair_72 rfl rfl ?_
      refine hb_getR (q := 76) hc fl_X9_26 sh42 sl42 rfl dd_X9_seePair_73 rfl ?_
      refine hb_iload_n (q := 77) hc dd_X9_seePair_76 rfl rfl ?_
      obtain ⟨hi, h⟩ := h
      refine hb_iald (q := 78) (v := M1.1 48 v1.toNatClampNeg) hc sh48 sl48 hi rfl (by simp [wI, wL, cpI, cpL]) dd_X9_seePair_77 rfl ?_
      refine hb_iconst (q := 79) (v := 1) hc dd_X9_seePair_78 rfl ic_1 ?_
      refine hb_iadd (q := 80) hc dd_X9_seePair_79 rfl ?_
      refine hb_aload_n (q := 81) hc dd_X9_seePair_80 rfl rfl ?_
      refine hb_getI (q := 84) (v := M1.1 42 1) hc fl_X9_86 sh42 sl42 rfl (by simp [wI, wL, cpI, cpL]) dd_X9_seePair_81 rfl ?_
      obtain ⟨hn, h⟩ := h
      refine hb_irem (q := 85) hc dd_X9_seePair_84 rfl hn ?_
      obtain ⟨hi, h⟩ := h
      refine hb_iast (q := 86) hc sh48 sl48 hi rfl dd_X9_seePair_85 rfl ?_
      exact hb_vret hc rfl dd_X9_seePair_86 h
    · replace h := h.2 z
      refine hb_iload_n (q := 41) hc dd_X9_seePair_40 rfl rfl ?_
      refine hb_iconst (q := 42) (v := 1) hc dd_X9_seePair_41 rfl ic_1 ?_
      refine hb_icmp_ne (q := 45) (tg := 58) hc dd_X9_seePair_42 rfl (by decide) (fun z => ?_) (fun z => ?_)
      · replace h := h.1 z
        refine hb_iconst (q := 59) (v := 0) hc dd_X9_seePair_58 rfl ic_0 ?_
        obtain ⟨hi, h⟩ := h
        refine hb_zast (q := 60) hc sh47 sl47 hi (by decide) rfl dd_X9_seePair_59 rfl ?_
        refine hb_aload_n (q := 61) hc dd_X9_seePair_60 rfl rfl ?_
        refine hb_getR (q := 64) hc fl_X9_29 sh42 sl42 rfl dd_X9_seePair_61 rfl ?_
        refine hb_iload_n (q := 65) hc dd_X9_seePair_64 rfl rfl ?_
        refine hb_iconst (q := 66) (v := 1) hc dd_X9_seePair_65 rfl ic_1 ?_
        obtain ⟨hi, h⟩ := h
        refine hb_zast (q := 67) hc sh49 sl49 hi (by decide) rfl dd_X9_seePair_66 rfl ?_
        refine hb_aload_n (q := 68) hc dd_X9_seePair_67 rfl rfl ?_
        refine hb_getR (q := 71) hc fl_X9_26 sh42 sl42 rfl dd_X9_seePair_68 rfl ?_
        refine hb_iload_n (q := 72) hc dd_X9_seePair_71 rfl rfl ?_
        refine hb_aload_n (q := 73) hc dd_X9_seePair_72 rfl rfl ?_
        refine hb_getR (q := 76) hc fl_X9_26 sh42 sl42 rfl dd_X9_seePair_73 rfl ?_
        refine hb_iload_n (q := 77) hc dd_X9_seePair_76 rfl rfl ?_
        obtain ⟨hi, h⟩ := h
        refine hb_iald (q := 78) (v := M1.1 48 v1.toNatClampNeg) hc sh48 sl48 hi rfl (by simp [wI, wL, cpI, cpL]) dd_X9_seePair_77 rfl ?_
        refine hb_iconst (q := 79) (v := 1) hc dd_X9_seePair_78 rfl ic_1 ?_
        refine hb_iadd (q := 80) hc dd_X9_seePair_79 rfl ?_
        refine hb_aload_n (q := 81) hc dd_X9_seePair_80 rfl rfl ?_
        refine hb_getI (q := 84) (v := M1.1 42 1) hc fl_X9_86 sh42 sl42 rfl (by simp [wI, wL, cpI, cpL]) dd_X9_seePair_81 rfl ?_
        obtain ⟨hn, h⟩ := h
        refine hb_irem (q := 85) hc dd_X9_seePair_84 rfl hn ?_
        obtain ⟨hi, h⟩ := h
        refine hb_iast (q := 86) hc sh48 sl48 hi rfl dd_X9_seePair_85 rfl ?_
        exact hb_vret hc rfl dd_X9_seePair_86 h
      · replace h := h.2 z
        refine hb_aload_n (q := 46) hc dd_X9_seePair_45 rfl rfl ?_
        refine hb_getR (q := 49) hc fl_X9_29 sh42 sl42 rfl dd_X9_seePair_46 rfl ?_
        refine hb_iload_n (q := 50) hc dd_X9_seePair_49 rfl rfl ?_
        obtain ⟨hi, h⟩ := h
        refine hb_zald (q := 51) (v := M1.1 49 v1.toNatClampNeg) hc sh49 sl49 hi rfl rfl dd_X9_seePair_50 rfl ?_
        refine hb_if_ne (q := 54) (tg := 58) hc dd_X9_seePair_51 rfl (by decide) (fun z => ?_) (fun z => ?_)
        · replace h := h.1 z
          refine hb_iconst (q := 59) (v := 0) hc dd_X9_seePair_58 rfl ic_0 ?_
          obtain ⟨hi, h⟩ := h
          refine hb_zast (q := 60) hc sh47 sl47 hi (by decide) rfl dd_X9_seePair_59 rfl ?_
          refine hb_aload_n (q := 61) hc dd_X9_seePair_60 rfl rfl ?_
          refine hb_getR (q := 64) hc fl_X9_29 sh42 sl42 rfl dd_X9_seePair_61 rfl ?_
          refine hb_iload_n (q := 65) hc dd_X9_seePair_64 rfl rfl ?_
          refine hb_iconst (q := 66) (v := 1) hc dd_X9_seePair_65 rfl ic_1 ?_
          obtain ⟨hi, h⟩ := h
          refine hb_zast (q := 67) hc sh49 sl49 hi (by decide) rfl dd_X9_seePair_66 rfl ?_
          refine hb_aload_n (q := 68) hc dd_X9_seePair_67 rfl rfl ?_
          refine hb_getR (q := 71) hc fl_X9_26 sh42 sl42 rfl dd_X9_seePair_68 rfl ?_
          refine hb_iload_n (q := 72) hc dd_X9_seePair_71 rfl rfl ?_
          refine hb_aload_n (q := 73) hc dd_X9_seePair_72 rfl rfl ?_
          refine hb_getR (q := 76) hc fl_X9_26 sh42 sl42 rfl dd_X9_seePair_73 rfl ?_
          refine hb_iload_n (q := 77) hc dd_X9_seePair_76 rfl rfl ?_
          obtain ⟨hi, h⟩ := h
          refine hb_iald (q := 78) (v := M1.1 48 v1.toNatClampNeg) hc sh48 sl48 hi rfl (by simp [wI, wL, cpI, cpL]) dd_X9_seePair_77 rfl ?_
          refine hb_iconst (q := 79) (v := 1) hc dd_X9_seePair_78 rfl ic_1 ?_
          refine hb_iadd (q := 80) hc dd_X9_seePair_79 rfl ?_
          refine hb_aload_n (q := 81) hc dd_X9_seePair_80 rfl rfl ?_
          refine hb_getI (q := 84) (v := M1.1 42 1) hc fl_X9_86 sh42 sl42 rfl (by simp [wI, wL, cpI, cpL]) dd_X9_seePair_81 rfl ?_
          obtain ⟨hn, h⟩ := h
          refine hb_irem (q := 85) hc dd_X9_seePair_84 rfl hn ?_
          obtain ⟨hi, h⟩ := h
          refine hb_iast (q := 86) hc sh48 sl48 hi rfl dd_X9_seePair_85 rfl ?_
          exact hb_vret hc rfl dd_X9_seePair_86 h
        · replace h := h.2 z
          refine hb_iconst (q := 55) (v := 1) hc dd_X9_seePair_54 rfl ic_1 ?_
          refine hb_goto (tg := 59) hc dd_X9_seePair_55 (by decide) ?_
          obtain ⟨hi, h⟩ := h
          refine hb_zast (q := 60) hc sh47 sl47 hi (by decide) rfl dd_X9_seePair_59 rfl ?_
          refine hb_aload_n (q := 61) hc dd_X9_seePair_60 rfl rfl ?_
          refine hb_getR (q := 64) hc fl_X9_29 sh42 sl42 rfl dd_X9_seePair_61 rfl ?_
          refine hb_iload_n (q := 65) hc dd_X9_seePair_64 rfl rfl ?_
          refine hb_iconst (q := 66) (v := 1) hc dd_X9_seePair_65 rfl ic_1 ?_
          obtain ⟨hi, h⟩ := h
          refine hb_zast (q := 67) hc sh49 sl49 hi (by decide) rfl dd_X9_seePair_66 rfl ?_
          refine hb_aload_n (q := 68) hc dd_X9_seePair_67 rfl rfl ?_
          refine hb_getR (q := 71) hc fl_X9_26 sh42 sl42 rfl dd_X9_seePair_68 rfl ?_
          refine hb_iload_n (q := 72) hc dd_X9_seePair_71 rfl rfl ?_
          refine hb_aload_n (q := 73) hc dd_X9_seePair_72 rfl rfl ?_
          refine hb_getR (q := 76) hc fl_X9_26 sh42 sl42 rfl dd_X9_seePair_73 rfl ?_
          refine hb_iload_n (q := 77) hc dd_X9_seePair_76 rfl rfl ?_
          obtain ⟨hi, h⟩ := h
          refine hb_iald (q := 78) (v := M1.1 48 v1.toNatClampNeg) hc sh48 sl48 hi rfl (by simp [wI, wL, cpI, cpL]) dd_X9_seePair_77 rfl ?_
          refine hb_iconst (q := 79) (v := 1) hc dd_X9_seePair_78 rfl ic_1 ?_
          refine hb_iadd (q := 80) hc dd_X9_seePair_79 rfl ?_
          refine hb_aload_n (q := 81) hc dd_X9_seePair_80 rfl rfl ?_
          refine hb_getI (q := 84) (v := M1.1 42 1) hc fl_X9_86 sh42 sl42 rfl (by simp [wI, wL, cpI, cpL]) dd_X9_seePair_81 rfl ?_
          obtain ⟨hn, h⟩ := h
          refine hb_irem (q := 85) hc dd_X9_seePair_84 rfl hn ?_
          obtain ⟨hi, h⟩ := h
          refine hb_iast (q := 86) hc sh48 sl48 hi rfl dd_X9_seePair_85 rfl ?_
          exact hb_vret hc rfl dd_X9_seePair_86 h
def lp_X9_see_25 (d : Nat) (M : Mm) (v1 : Int32) (v2 : Int32) (K : Int32 → Mm → Prop) : Prop := AW (d + 1) X9_see M 25 [some (.ref 42), some (.int v1), some (.int v2)] [] (QI K)
theorem z_X9_see_25 {d : Nat} {M : Mm} {v1 : Int32} {v2 : Int32} {K : Int32 → Mm → Prop}  (h : (48 ≤ v2 → (ACi d X9_pairsLeft [.ref 42] M (fun r1 M1 => K r1 M1))) ∧ (¬ 48 ≤ v2 → (vp_in v2 48 ∧ (((M.1 47 v2.toNatClampNeg) = 0 → (lp_X9_see_25 d M v1 (v2 + 1) K)) ∧ (¬ (M.1 47 v2.toNatClampNeg) = 0 → (ACv d X9_seePair [.ref 42, .int v2, .int v1] M (fun M2 => lp_X9_see_25 d M2 v1 (v2 + 1) K))))))) : lp_X9_see_25 d M v1 v2 K := by
  intro p l e s m args below meth c G hc
  refine hb_iload_n (q := 26) hc dd_X9_see_25 rfl rfl ?_
  refine hb_bipush (q := 28) (v := 48) hc dd_X9_see_26 rfl bp_48 ?_
  refine hb_icmp_ge (q := 31) (tg := 52) hc dd_X9_see_28 rfl (by decide) (fun z => ?_) (fun z => ?_)
  · replace h := h.1 z
    refine hb_aload_n (q := 53) hc dd_X9_see_52 rfl rfl ?_
    refine hb_callVi (q := 56) (vs := []) (st := []) hc mv_X9_274 h sh42 sl42 rfl rfl rfl (Nat.le_of_ble_eq_true rfl) ⟨Nat.le_refl _, Nat.le_refl _⟩ ⟨Nat.le_refl _, Nat.le_refl _⟩ dd_X9_see_53 rfl (fun r1 M1 h => ?_)
    exact hb_iret hc rfl dd_X9_see_56 h
  · replace h := h.2 z
    refine hb_aload_n (q := 32) hc dd_X9_see_31 rfl rfl ?_
    refine hb_getR (q := 35) hc fl_X9_23 sh42 sl42 rfl dd_X9_see_32 rfl ?_
    refine hb_iload_n (q := 36) hc dd_X9_see_35 rfl rfl ?_
    obtain ⟨hi, h⟩ := h
    refine hb_zald (q := 37) (v := M.1 47 v2.toNatClampNeg) hc sh47 sl47 hi rfl rfl dd_X9_see_36 rfl ?_
    refine hb_if_eq (q := 40) (tg := 46) hc dd_X9_see_37 rfl (by decide) (fun z => ?_) (fun z => ?_)
    · replace h := h.1 z
      refine hb_iinc (q := 49) (v := v2 + 1) (lv' := [some (.ref 42), some (.int v1), some (.int (v2 + 1))]) hc dd_X9_see_46 rfl rfl rfl (Nat.le_of_ble_eq_true rfl) rfl ?_
      refine hb_goto (tg := 25) hc dd_X9_see_49 (by decide) ?_
      exact hb_weak (lvs (lvs (lvs lvz))) (h p l e s m args below meth c G hc)
    · replace h := h.2 z
      refine hb_aload_n (q := 41) hc dd_X9_see_40 rfl rfl ?_
      refine hb_iload_n (q := 42) hc dd_X9_see_41 rfl rfl ?_
      refine hb_iload_n (q := 43) hc dd_X9_see_42 rfl rfl ?_
      refine hb_callVv (q := 46) (vs := [.int v2, .int v1]) (st := []) hc mv_X9_277 h sh42 sl42 rfl rfl rfl (Nat.le_of_ble_eq_true rfl) ⟨Nat.le_refl _, Nat.le_refl _⟩ ⟨Nat.le_refl _, Nat.le_refl _⟩ dd_X9_see_43 rfl (fun M2 h => ?_)
      refine hb_iinc (q := 49) (v := v2 + 1) (lv' := [some (.ref 42), some (.int v1), some (.int (v2 + 1))]) hc dd_X9_see_46 rfl rfl rfl (Nat.le_of_ble_eq_true rfl) rfl ?_
      refine hb_goto (tg := 25) hc dd_X9_see_49 (by decide) ?_
      exact hb_weak (lvs (lvs (lvs lvz))) (h p l e s m args below meth c G hc)
theorem w_X9_see {d : Nat} {M : Mm} {v1 : Int32} {K : Int32 → Mm → Prop}  (h : ACi d X9_in [.long v1.toInt64, .long 0, .long 1] M (fun r1 M1 => (¬ r1 = 0 → ((¬ (M1.1 42 11) = 0 → (lp_X9_see_25 d M1 v1 0 K)) ∧ ((M1.1 42 11) = 0 → (K (-4) M1)))) ∧ (r1 = 0 → (K (-3) M1)))) : ACi (d + 1) X9_see [.ref 42, .int v1] M K := by
  refine AC.ofW (lv := [some (.ref 42), some (.int v1), none]) pn_X9 (Nat.le_of_ble_eq_true rfl) (show lvLe _ [some (.ref 42), some (.int v1)] from (lvs (lvs (lve lvz)))) ?_
  intro p l e s m args below meth c G hc
  refine hb_iload_n (q := 1) hc dd_X9_see_0 rfl rfl ?_
  refine hb_i2l (q := 2) hc dd_X9_see_1 rfl ?_
  refine hb_lconst (q := 3) (v := 0) hc dd_X9_see_2 rfl lc_0 ?_
  refine hb_lconst (q := 4) (v := 1) hc dd_X9_see_3 rfl lc_1 ?_
  refine hb_callSi (q := 7) (vs := [.long v1.toInt64, .long 0, .long 1]) (st := []) hc mv_X9_104 h rfl rfl (Nat.le_of_ble_eq_true rfl) ⟨Nat.le_refl _, Nat.le_refl _⟩ ⟨Nat.le_refl _, Nat.le_refl _⟩ dd_X9_see_4 rfl (fun r1 M1 h => ?_)
  refine hb_if_ne (q := 10) (tg := 13) hc dd_X9_see_7 rfl (by decide) (fun z => ?_) (fun z => ?_)
  · replace h := h.1 z
    refine hb_aload_n (q := 14) hc dd_X9_see_13 rfl rfl ?_
    refine hb_getI (q := 17) (v := M1.1 42 11) hc fl_X9_183 sh42 sl42 rfl rfl dd_X9_see_14 rfl ?_
    refine hb_if_ne (q := 20) (tg := 23) hc dd_X9_see_17 rfl (by decide) (fun z => ?_) (fun z => ?_)
    · replace h := h.1 z
      refine hb_iconst (q := 24) (v := 0) hc dd_X9_see_23 rfl ic_0 ?_
      refine hb_istore_n (q := 25) (lv' := [some (.ref 42), some (.int v1), some (.int 0)]) hc dd_X9_see_24 rfl (Nat.le_of_ble_eq_true rfl) rfl ?_
      exact hb_weak (lvs (lvs (lvs lvz))) (h p l e s m args below meth c G hc)
    · replace h := h.2 z
      refine hb_bipush (q := 22) (v := (-4)) hc dd_X9_see_20 rfl bp_m4 ?_
      exact hb_iret hc rfl dd_X9_see_22 h
  · replace h := h.2 z
    refine hb_bipush (q := 12) (v := (-3)) hc dd_X9_see_10 rfl bp_m3 ?_
    exact hb_iret hc rfl dd_X9_see_12 h
def lp_X9_left_38 (d : Nat) (M : Mm) (v1 : Int32) (v2 : Int32) (v3 : Int32) (v4 : Int32) (v5 : Int32) (v6 : Int32) (K : Int32 → Mm → Prop) : Prop := AW (d + 1) X9_left M 38 [some (.ref 42), some (.int v1), some (.int v2), some (.int v3), some (.int v4), some (.int v5), some (.int v6)] [] (QI K)
theorem z_X9_left_38 {d : Nat} {M : Mm} {v1 : Int32} {v2 : Int32} {v3 : Int32} {v4 : Int32} {v5 : Int32} {v6 : Int32} {K : Int32 → Mm → Prop}  (h : (48 ≤ v6 → ((¬ v1 = 0 → (K v5 M)) ∧ (v1 = 0 → (K v3 M)))) ∧ (¬ 48 ≤ v6 → (vp_in v6 48 ∧ (((M.1 47 v6.toNatClampNeg) = 0 → (lp_X9_left_38 d M v1 v2 v3 v4 v5 (v6 + 1) K)) ∧ (¬ (M.1 47 v6.toNatClampNeg) = 0 → ((¬ v4 = v2 → (lp_X9_left_38 d M v1 v2 (v3 ||| (1 <<< ((v6 / 8) &&& 31))) (v4 + 1) v5 (v6 + 1) K)) ∧ (v4 = v2 → (vp_in v6 48 ∧ (lp_X9_left_38 d M v1 v2 (v3 ||| (1 <<< ((v6 / 8) &&& 31))) (v4 + 1) ((10 * (v6 / 8)) + (M.1 48 v6.toNatClampNeg)) (v6 + 1) K))))))))) : lp_X9_left_38 d M v1 v2 v3 v4 v5 v6 K := by
  intro p l e s m args below meth c G hc
  refine hb_iload (q := 40) hc dd_X9_left_38 rfl rfl ?_
  refine hb_bipush (q := 42) (v := 48) hc dd_X9_left_40 rfl bp_48 ?_
  refine hb_icmp_ge (q := 45) (tg := 103) hc dd_X9_left_42 rfl (by decide) (fun z => ?_) (fun z => ?_)
  · replace h := h.1 z
    refine hb_iload_n (q := 104) hc dd_X9_left_103 rfl rfl ?_
    refine hb_if_ne (q := 107) (tg := 111) hc dd_X9_left_104 rfl (by decide) (fun z => ?_) (fun z => ?_)
    · replace h := h.1 z
      refine hb_iload (q := 113) hc dd_X9_left_111 rfl rfl ?_
      exact hb_iret hc rfl dd_X9_left_113 h
    · replace h := h.2 z
      refine hb_iload_n (q := 108) hc dd_X9_left_107 rfl rfl ?_
      refine hb_goto (tg := 113) hc dd_X9_left_108 (by decide) ?_
      exact hb_iret hc rfl dd_X9_left_113 h
  · replace h := h.2 z
    refine hb_aload_n (q := 46) hc dd_X9_left_45 rfl rfl ?_
    refine hb_getR (q := 49) hc fl_X9_23 sh42 sl42 rfl dd_X9_left_46 rfl ?_
    refine hb_iload (q := 51) hc dd_X9_left_49 rfl rfl ?_
    obtain ⟨hi, h⟩ := h
    refine hb_zald (q := 52) (v := M.1 47 v6.toNatClampNeg) hc sh47 sl47 hi rfl rfl dd_X9_left_51 rfl ?_
    refine hb_if_eq (q := 55) (tg := 97) hc dd_X9_left_52 rfl (by decide) (fun z => ?_) (fun z => ?_)
    · replace h := h.1 z
      refine hb_iinc (q := 100) (v := v6 + 1) (lv' := [some (.ref 42), some (.int v1), some (.int v2), some (.int v3), some (.int v4), some (.int v5), some (.int (v6 + 1))]) hc dd_X9_left_97 rfl rfl rfl (Nat.le_of_ble_eq_true rfl) rfl ?_
      refine hb_goto (tg := 38) hc dd_X9_left_100 (by decide) ?_
      exact hb_weak (lvs (lvs (lvs (lvs (lvs (lvs (lvs lvz))))))) (h p l e s m args below meth c G hc)
    · replace h := h.2 z
      refine hb_iload_n (q := 56) hc dd_X9_left_55 rfl rfl ?_
      refine hb_iconst (q := 57) (v := 1) hc dd_X9_left_56 rfl ic_1 ?_
      refine hb_iload (q := 59) hc dd_X9_left_57 rfl rfl ?_
      refine hb_bipush (q := 61) (v := 8) hc dd_X9_left_59 rfl bp_8 ?_
      refine hb_idiv (q := 62) hc dd_X9_left_61 rfl (by decide) ?_
      refine hb_ishl (q := 63) hc dd_X9_left_62 rfl ?_
      refine hb_ior (q := 64) hc dd_X9_left_63 rfl ?_
      refine hb_istore_n (q := 65) (lv' := [some (.ref 42), some (.int v1), some (.int v2), some (.int (v3 ||| (1 <<< ((v6 / 8) &&& 31)))), some (.int v4), some (.int v5), some (.int v6)]) hc dd_X9_left_64 rfl (Nat.le_of_ble_eq_true rfl) rfl ?_
      refine hb_iload (q := 67) hc dd_X9_left_65 rfl rfl ?_
      refine hb_iload_n (q := 68) hc dd_X9_left_67 rfl rfl ?_
      refine hb_icmp_ne (q := 71) (tg := 90) hc dd_X9_left_68 rfl (by decide) (fun z => ?_) (fun z => ?_)
      · replace h := h.1 z
        refine hb_iload (q := 92) hc dd_X9_left_90 rfl rfl ?_
        refine hb_istore (q := 94) (lv' := [some (.ref 42), some (.int v1), some (.int v2), some (.int (v3 ||| (1 <<< ((v6 / 8) &&& 31)))), some (.int v4), some (.int v5), some (.int v6)]) hc dd_X9_left_92 rfl (Nat.le_of_ble_eq_true rfl) rfl ?_
        refine hb_iinc (q := 97) (v := v4 + 1) (lv' := [some (.ref 42), some (.int v1), some (.int v2), some (.int (v3 ||| (1 <<< ((v6 / 8) &&& 31)))), some (.int (v4 + 1)), some (.int v5), some (.int v6)]) hc dd_X9_left_94 rfl rfl rfl (Nat.le_of_ble_eq_true rfl) rfl ?_
        refine hb_iinc (q := 100) (v := v6 + 1) (lv' := [some (.ref 42), some (.int v1), some (.int v2), some (.int (v3 ||| (1 <<< ((v6 / 8) &&& 31)))), some (.int (v4 + 1)), some (.int v5), some (.int (v6 + 1))]) hc dd_X9_left_97 rfl rfl rfl (Nat.le_of_ble_eq_true rfl) rfl ?_
        refine hb_goto (tg := 38) hc dd_X9_left_100 (by decide) ?_
        exact hb_weak (lvs (lvs (lvs (lvs (lvs (lvs (lvs lvz))))))) (h p l e s m args below meth c G hc)
      · replace h := h.2 z
        refine hb_bipush (q := 73) (v := 10) hc dd_X9_left_71 rfl bp_10 ?_
        refine hb_iload (q := 75) hc dd_X9_left_73 rfl rfl ?_
        refine hb_bipush (q := 77) (v := 8) hc dd_X9_left_75 rfl bp_8 ?_
        refine hb_idiv (q := 78) hc dd_X9_left_77 rfl (by decide) ?_
        refine hb_imul (q := 79) hc dd_X9_left_78 rfl ?_
        refine hb_aload_n (q := 80) hc dd_X9_left_79 rfl rfl ?_
        refine hb_getR (q := 83) hc fl_X9_26 sh42 sl42 rfl dd_X9_left_80 rfl ?_
        refine hb_iload (q := 85) hc dd_X9_left_83 rfl rfl ?_
        obtain ⟨hi, h⟩ := h
        refine hb_iald (q := 86) (v := M.1 48 v6.toNatClampNeg) hc sh48 sl48 hi rfl rfl dd_X9_left_85 rfl ?_
        refine hb_iadd (q := 87) hc dd_X9_left_86 rfl ?_
        refine hb_goto (tg := 92) hc dd_X9_left_87 (by decide) ?_
        refine hb_istore (q := 94) (lv' := [some (.ref 42), some (.int v1), some (.int v2), some (.int (v3 ||| (1 <<< ((v6 / 8) &&& 31)))), some (.int v4), some (.int ((10 * (v6 / 8)) + (M.1 48 v6.toNatClampNeg))), some (.int v6)]) hc dd_X9_left_92 rfl (Nat.le_of_ble_eq_true rfl) rfl ?_
        refine hb_iinc (q := 97) (v := v4 + 1) (lv' := [some (.ref 42), some (.int v1), some (.int v2), some (.int (v3 ||| (1 <<< ((v6 / 8) &&& 31)))), some (.int (v4 + 1)), some (.int ((10 * (v6 / 8)) + (M.1 48 v6.toNatClampNeg))), some (.int v6)]) hc dd_X9_left_94 rfl rfl rfl (Nat.le_of_ble_eq_true rfl) rfl ?_
        refine hb_iinc (q := 100) (v := v6 + 1) (lv' := [some (.ref 42), some (.int v1), some (.int v2), some (.int (v3 ||| (1 <<< ((v6 / 8) &&& 31)))), some (.int (v4 + 1)), some (.int ((10 * (v6 / 8)) + (M.1 48 v6.toNatClampNeg))), some (.int (v6 + 1))]) hc dd_X9_left_97 rfl rfl rfl (Nat.le_of_ble_eq_true rfl) rfl ?_
        refine hb_goto (tg := 38) hc dd_X9_left_100 (by decide) ?_
        exact hb_weak (lvs (lvs (lvs (lvs (lvs (lvs (lvs lvz))))))) (h p l e s m args below meth c G hc)
theorem w_X9_left {d : Nat} {M : Mm} {v1 : Int32} {v2 : Int32} {K : Int32 → Mm → Prop}  (h : ACi d X9_in [.long v1.toInt64, .long 0, .long 1] M (fun r1 M1 => (r1 = 0 → (K (-3) M1)) ∧ (¬ r1 = 0 → ((0 ≤ v2 → ((¬ (M1.1 42 11) = 0 → (lp_X9_left_38 d M1 v1 v2 0 0 (-1) 0 K)) ∧ ((M1.1 42 11) = 0 → (K (-4) M1)))) ∧ (¬ 0 ≤ v2 → (K (-3) M1)))))) : ACi (d + 1) X9_left [.ref 42, .int v1, .int v2] M K := by
  refine AC.ofW (lv := [some (.ref 42), some (.int v1), some (.int v2), none, none, none, none]) pn_X9 (Nat.le_of_ble_eq_true rfl) (show lvLe _ [some (.ref 42), some (.int v1), some (.int v2)] from (lvs (lvs (lvs (lve (lve (lve (lve lvz)))))))) ?_
  intro p l e s m args below meth c G hc
  refine hb_iload_n (q := 1) hc dd_X9_left_0 rfl rfl ?_
  refine hb_i2l (q := 2) hc dd_X9_left_1 rfl ?_
  refine hb_lconst (q := 3) (v := 0) hc dd_X9_left_2 rfl lc_0 ?_
  refine hb_lconst (q := 4) (v := 1) hc dd_X9_left_3 rfl lc_1 ?_
  refine hb_callSi (q := 7) (vs := [.long v1.toInt64, .long 0, .long 1]) (st := []) hc mv_X9_104 h rfl rfl (Nat.le_of_ble_eq_true rfl) ⟨Nat.le_refl _, Nat.le_refl _⟩ ⟨Nat.le_refl _, Nat.le_refl _⟩ dd_X9_left_4 rfl (fun r1 M1 h => ?_)
  refine hb_if_eq (q := 10) (tg := 14) hc dd_X9_left_7 rfl (by decide) (fun z => ?_) (fun z => ?_)
  · replace h := h.1 z
    refine hb_bipush (q := 16) (v := (-3)) hc dd_X9_left_14 rfl bp_m3 ?_
    exact hb_iret hc rfl dd_X9_left_16 h
  · replace h := h.2 z
    refine hb_iload_n (q := 11) hc dd_X9_left_10 rfl rfl ?_
    refine hb_if_ge (q := 14) (tg := 17) hc dd_X9_left_11 rfl (by decide) (fun z => ?_) (fun z => ?_)
    · replace h := h.1 z
      refine hb_aload_n (q := 18) hc dd_X9_left_17 rfl rfl ?_
      refine hb_getI (q := 21) (v := M1.1 42 11) hc fl_X9_183 sh42 sl42 rfl rfl dd_X9_left_18 rfl ?_
      refine hb_if_ne (q := 24) (tg := 27) hc dd_X9_left_21 rfl (by decide) (fun z => ?_) (fun z => ?_)
      · replace h := h.1 z
        refine hb_iconst (q := 28) (v := 0) hc dd_X9_left_27 rfl ic_0 ?_
        refine hb_istore_n (q := 29) (lv' := [some (.ref 42), some (.int v1), some (.int v2), some (.int 0), none, none, none]) hc dd_X9_left_28 rfl (Nat.le_of_ble_eq_true rfl) rfl ?_
        refine hb_iconst (q := 30) (v := 0) hc dd_X9_left_29 rfl ic_0 ?_
        refine hb_istore (q := 32) (lv' := [some (.ref 42), some (.int v1), some (.int v2), some (.int 0), some (.int 0), none, none]) hc dd_X9_left_30 rfl (Nat.le_of_ble_eq_true rfl) rfl ?_
        refine hb_iconst (q := 33) (v := (-1)) hc dd_X9_left_32 rfl ic_m1 ?_
        refine hb_istore (q := 35) (lv' := [some (.ref 42), some (.int v1), some (.int v2), some (.int 0), some (.int 0), some (.int (-1)), none]) hc dd_X9_left_33 rfl (Nat.le_of_ble_eq_true rfl) rfl ?_
        refine hb_iconst (q := 36) (v := 0) hc dd_X9_left_35 rfl ic_0 ?_
        refine hb_istore (q := 38) (lv' := [some (.ref 42), some (.int v1), some (.int v2), some (.int 0), some (.int 0), some (.int (-1)), some (.int 0)]) hc dd_X9_left_36 rfl (Nat.le_of_ble_eq_true rfl) rfl ?_
        exact hb_weak (lvs (lvs (lvs (lvs (lvs (lvs (lvs lvz))))))) (h p l e s m args below meth c G hc)
      · replace h := h.2 z
        refine hb_bipush (q := 26) (v := (-4)) hc dd_X9_left_24 rfl bp_m4 ?_
        exact hb_iret hc rfl dd_X9_left_26 h
    · replace h := h.2 z
      refine hb_bipush (q := 16) (v := (-3)) hc dd_X9_left_14 rfl bp_m3 ?_
      exact hb_iret hc rfl dd_X9_left_16 h
theorem w_X9_isTape {d : Nat} {M : Mm} {v0 : Int32} {K : Int32 → Mm → Prop}  (h : ACi d X9_in [.long v0.toInt64, .long 0, .long 2] M (fun r1 M1 => (r1 = 0 ∨ r1 = 1) ∧ K r1 M1)) : ACi (d + 1) X9_isTape [.int v0] M K := by
  refine AC.ofW (lv := [some (.int v0)]) pn_X9 (Nat.le_of_ble_eq_true rfl) (show lvLe _ [some (.int v0)] from (lvs lvz)) ?_
  intro p l e s m args below meth c G hc
  refine hb_iload_n (q := 1) hc dd_X9_isTape_0 rfl rfl ?_
  refine hb_i2l (q := 2) hc dd_X9_isTape_1 rfl ?_
  refine hb_lconst (q := 3) (v := 0) hc dd_X9_isTape_2 rfl lc_0 ?_
  refine hb_ldc2 (q := 6) (v := 2) hc dd_X9_isTape_3 rfl iw_1229 ?_
  refine hb_callSi (q := 9) (vs := [.long v0.toInt64, .long 0, .long 2]) (st := []) hc mv_X9_104 h rfl rfl (Nat.le_of_ble_eq_true rfl) ⟨Nat.le_refl _, Nat.le_refl _⟩ ⟨Nat.le_refl _, Nat.le_refl _⟩ dd_X9_isTape_6 rfl (fun r1 M1 h => ?_)
  exact hb_zret hc rfl h.1 dd_X9_isTape_9 h.2
theorem w_X9_isNumber {d : Nat} {M : Mm} {v0 : Int32} {K : Int32 → Mm → Prop}  (h : ACi d X9_in [.long v0.toInt64, .long (-9999), .long 9999] M (fun r1 M1 => (r1 = 0 ∨ r1 = 1) ∧ K r1 M1)) : ACi (d + 1) X9_isNumber [.int v0] M K := by
  refine AC.ofW (lv := [some (.int v0)]) pn_X9 (Nat.le_of_ble_eq_true rfl) (show lvLe _ [some (.int v0)] from (lvs lvz)) ?_
  intro p l e s m args below meth c G hc
  refine hb_iload_n (q := 1) hc dd_X9_isNumber_0 rfl rfl ?_
  refine hb_i2l (q := 2) hc dd_X9_isNumber_1 rfl ?_
  refine hb_ldc2 (q := 5) (v := (-9999)) hc dd_X9_isNumber_2 rfl iw_1237 ?_
  refine hb_ldc2 (q := 8) (v := 9999) hc dd_X9_isNumber_5 rfl iw_1238 ?_
  refine hb_callSi (q := 11) (vs := [.long v0.toInt64, .long (-9999), .long 9999]) (st := []) hc mv_X9_104 h rfl rfl (Nat.le_of_ble_eq_true rfl) ⟨Nat.le_refl _, Nat.le_refl _⟩ ⟨Nat.le_refl _, Nat.le_refl _⟩ dd_X9_isNumber_8 rfl (fun r1 M1 h => ?_)
  exact hb_zret hc rfl h.1 dd_X9_isNumber_11 h.2
theorem w_X9_tape {d : Nat} {M : Mm} {v1 : Int32} {K : Int32 → Mm → Prop}  (h : ACi d X9_isTape [.int v1] M (fun r1 M1 => (¬ r1 = 0 → (vp_in v1 3 ∧ (K 0 (wI M1 50 v1.toNatClampNeg 0)))) ∧ (r1 = 0 → (K (-2) M1)))) : ACi (d + 1) X9_tape [.ref 42, .int v1] M K := by
  refine AC.ofW (lv := [some (.ref 42), some (.int v1)]) pn_X9 (Nat.le_of_ble_eq_true rfl) (show lvLe _ [some (.ref 42), some (.int v1)] from (lvs (lvs lvz))) ?_
  intro p l e s m args below meth c G hc
  refine hb_iload_n (q := 1) hc dd_X9_tape_0 rfl rfl ?_
  refine hb_callSi (q := 4) (vs := [.int v1]) (st := []) hc mv_X9_286 h rfl rfl (Nat.le_of_ble_eq_true rfl) ⟨Nat.le_refl _, Nat.le_refl _⟩ ⟨Nat.le_refl _, Nat.le_refl _⟩ dd_X9_tape_1 rfl (fun r1 M1 h => ?_)
  refine hb_if_ne (q := 7) (tg := 10) hc dd_X9_tape_4 rfl (by decide) (fun z => ?_) (fun z => ?_)
  · replace h := h.1 z
    refine hb_aload_n (q := 11) hc dd_X9_tape_10 rfl rfl ?_
    refine hb_getR (q := 14) hc fl_X9_32 sh42 sl42 rfl dd_X9_tape_11 rfl ?_
    refine hb_iload_n (q := 15) hc dd_X9_tape_14 rfl rfl ?_
    refine hb_iconst (q := 16) (v := 0) hc dd_X9_tape_15 rfl ic_0 ?_
    obtain ⟨hi, h⟩ := h
    refine hb_iast (q := 17) hc sh50 sl50 hi rfl dd_X9_tape_16 rfl ?_
    refine hb_iconst (q := 18) (v := 0) hc dd_X9_tape_17 rfl ic_0 ?_
    exact hb_iret hc rfl dd_X9_tape_18 h
  · replace h := h.2 z
    refine hb_bipush (q := 9) (v := (-2)) hc dd_X9_tape_7 rfl bp_m2 ?_
    exact hb_iret hc rfl dd_X9_tape_9 h
def lp_X9_putAt_8 (d : Nat) (M : Mm) (v1 : Int32) (v2 : Int32) (v3 : Int32) (v4 : Int32) (K : Mm → Prop) : Prop := AW (d + 1) X9_putAt M 8 [some (.ref 42), some (.int v1), some (.int v2), some (.int v3), some (.int v4)] [] (QV K)
theorem z_X9_putAt_8 {d : Nat} {M : Mm} {v1 : Int32} {v2 : Int32} {v3 : Int32} {v4 : Int32} {K : Mm → Prop}  (h : (v4 ≤ 0 → ((¬ v2 = 0 → (vp_in v1 3 ∧ (vp_in ((12 * v1) + (M.1 50 v1.toNatClampNeg)) 36 ∧ (vp_in v1 3 ∧ (vp_in v1 3 ∧ (K (wI (wI M 51 (((12 * v1) + (M.1 50 v1.toNatClampNeg)).toNatClampNeg) v3) 50 v1.toNatClampNeg ((M.1 50 v1.toNatClampNeg) + 1)))))))) ∧ (v2 = 0 → (vp_in ((12 * v1) + 0) 36 ∧ (vp_in v1 3 ∧ (vp_in v1 3 ∧ (K (wI (wI M 51 (((12 * v1) + 0).toNatClampNeg) v3) 50 v1.toNatClampNeg ((M.1 50 v1.toNatClampNeg) + 1))))))))) ∧ (¬ v4 ≤ 0 → ((¬ v2 = 0 → ((¬ v2 = 0 → (vp_in v1 3 ∧ (vp_in ((12 * v1) + (M.1 50 v1.toNatClampNeg)) 36 ∧ (vp_in v1 3 ∧ (vp_in v1 3 ∧ (K (wI (wI M 51 (((12 * v1) + (M.1 50 v1.toNatClampNeg)).toNatClampNeg) v3) 50 v1.toNatClampNeg ((M.1 50 v1.toNatClampNeg) + 1)))))))) ∧ (v2 = 0 → (vp_in ((12 * v1) + 0) 36 ∧ (vp_in v1 3 ∧ (vp_in v1 3 ∧ (K (wI (wI M 51 (((12 * v1) + 0).toNatClampNeg) v3) 50 v1.toNatClampNeg ((M.1 50 v1.toNatClampNeg) + 1))))))))) ∧ (v2 = 0 → (vp_in (((12 * v1) + v4) - 1) 36 ∧ (vp_in ((12 * v1) + v4) 36 ∧ (lp_X9_putAt_8 d (wI M 51 (((12 * v1) + v4).toNatClampNeg) (M.1 51 ((((12 * v1) + v4) - 1).toNatClampNeg))) v1 v2 v3 (v4 + (-1)) K))))))) : lp_X9_putAt_8 d M v1 v2 v3 v4 K := by
  intro p l e s m args below meth c G hc
  refine hb_iload (q := 10) hc dd_X9_putAt_8 rfl rfl ?_
  refine hb_if_le (q := 13) (tg := 49) hc dd_X9_putAt_10 rfl (by decide) (fun z => ?_) (fun z => ?_)
  · replace h := h.1 z
    refine hb_aload_n (q := 50) hc dd_X9_putAt_49 rfl rfl ?_
    refine hb_getR (q := 53) hc fl_X9_35 sh42 sl42 rfl dd_X9_putAt_50 rfl ?_
    refine hb_bipush (q := 55) (v := 12) hc dd_X9_putAt_53 rfl bp_12 ?_
    refine hb_iload_n (q := 56) hc dd_X9_putAt_55 rfl rfl ?_
    refine hb_imul (q := 57) hc dd_X9_putAt_56 rfl ?_
    refine hb_iload_n (q := 58) hc dd_X9_putAt_57 rfl rfl ?_
    refine hb_if_ne (q := 61) (tg := 65) hc dd_X9_putAt_58 rfl (by decide) (fun z => ?_) (fun z => ?_)
    · replace h := h.1 z
      refine hb_aload_n (q := 66) hc dd_X9_putAt_65 rfl rfl ?_
      refine hb_getR (q := 69) hc fl_X9_32 sh42 sl42 rfl dd_X9_putAt_66 rfl ?_
      refine hb_iload_n (q := 70) hc dd_X9_putAt_69 rfl rfl ?_
      obtain ⟨hi, h⟩ := h
      refine hb_iald (q := 71) (v := M.1 50 v1.toNatClampNeg) hc sh50 sl50 hi rfl rfl dd_X9_putAt_70 rfl ?_
      refine hb_iadd (q := 72) hc dd_X9_putAt_71 rfl ?_
      refine hb_iload_n (q := 73) hc dd_X9_putAt_72 rfl rfl ?_
      obtain ⟨hi, h⟩ := h
      refine hb_iast (q := 74) hc sh51 sl51 hi rfl dd_X9_putAt_73 rfl ?_
      refine hb_aload_n (q := 75) hc dd_X9_putAt_74 rfl rfl ?_
      refine hb_getR (q := 78) hc fl_X9_32 sh42 sl42 rfl dd_X9_putAt_75 rfl ?_
      refine hb_iload_n (q := 79) hc dd_X9_putAt_78 rfl rfl ?_
      refine hb_dup2 (q := 80) hc dd_X9_putAt_79 rfl rfl rfl ?_
      obtain ⟨hi, h⟩ := h
      refine hb_iald (q := 81) (v := M.1 50 v1.toNatClampNeg) hc sh50 sl50 hi rfl (by simp [wI, wL, cpI, cpL]) dd_X9_putAt_80 rfl ?_
      refine hb_iconst (q := 82) (v := 1) hc dd_X9_putAt_81 rfl ic_1 ?_
      refine hb_iadd (q := 83) hc dd_X9_putAt_82 rfl ?_
      obtain ⟨hi, h⟩ := h
      refine hb_iast (q := 84) hc sh50 sl50 hi rfl dd_X9_putAt_83 rfl ?_
      exact hb_vret hc rfl dd_X9_putAt_84 h
    · replace h := h.2 z
      refine hb_iconst (q := 62) (v := 0) hc dd_X9_putAt_61 rfl ic_0 ?_
      refine hb_goto (tg := 71) hc dd_X9_putAt_62 (by decide) ?_
      refine hb_iadd (q := 72) hc dd_X9_putAt_71 rfl ?_
      refine hb_iload_n (q := 73) hc dd_X9_putAt_72 rfl rfl ?_
      obtain ⟨hi, h⟩ := h
      refine hb_iast (q := 74) hc sh51 sl51 hi rfl dd_X9_putAt_73 rfl ?_
      refine hb_aload_n (q := 75) hc dd_X9_putAt_74 rfl rfl ?_
      refine hb_getR (q := 78) hc fl_X9_32 sh42 sl42 rfl dd_X9_putAt_75 rfl ?_
      refine hb_iload_n (q := 79) hc dd_X9_putAt_78 rfl rfl ?_
      refine hb_dup2 (q := 80) hc dd_X9_putAt_79 rfl rfl rfl ?_
      obtain ⟨hi, h⟩ := h
      refine hb_iald (q := 81) (v := M.1 50 v1.toNatClampNeg) hc sh50 sl50 hi rfl (by simp [wI, wL, cpI, cpL]) dd_X9_putAt_80 rfl ?_
      refine hb_iconst (q := 82) (v := 1) hc dd_X9_putAt_81 rfl ic_1 ?_
      refine hb_iadd (q := 83) hc dd_X9_putAt_82 rfl ?_
      obtain ⟨hi, h⟩ := h
      refine hb_iast (q := 84) hc sh50 sl50 hi rfl dd_X9_putAt_83 rfl ?_
      exact hb_vret hc rfl dd_X9_putAt_84 h
  · replace h := h.2 z
    refine hb_iload_n (q := 14) hc dd_X9_putAt_13 rfl rfl ?_
    refine hb_if_ne (q := 17) (tg := 49) hc dd_X9_putAt_14 rfl (by decide) (fun z => ?_) (fun z => ?_)
    · replace h := h.1 z
      refine hb_aload_n (q := 50) hc dd_X9_putAt_49 rfl rfl ?_
      refine hb_getR (q := 53) hc fl_X9_35 sh42 sl42 rfl dd_X9_putAt_50 rfl ?_
      refine hb_bipush (q := 55) (v := 12) hc dd_X9_putAt_53 rfl bp_12 ?_
      refine hb_iload_n (q := 56) hc dd_X9_putAt_55 rfl rfl ?_
      refine hb_imul (q := 57) hc dd_X9_putAt_56 rfl ?_
      refine hb_iload_n (q := 58) hc dd_X9_putAt_57 rfl rfl ?_
      refine hb_if_ne (q := 61) (tg := 65) hc dd_X9_putAt_58 rfl (by decide) (fun z => ?_) (fun z => ?_)
      · replace h := h.1 z
        refine hb_aload_n (q := 66) hc dd_X9_putAt_65 rfl rfl ?_
        refine hb_getR (q := 69) hc fl_X9_32 sh42 sl42 rfl dd_X9_putAt_66 rfl ?_
        refine hb_iload_n (q := 70) hc dd_X9_putAt_69 rfl rfl ?_
        obtain ⟨hi, h⟩ := h
        refine hb_iald (q := 71) (v := M.1 50 v1.toNatClampNeg) hc sh50 sl50 hi rfl rfl dd_X9_putAt_70 rfl ?_
        refine hb_iadd (q := 72) hc dd_X9_putAt_71 rfl ?_
        refine hb_iload_n (q := 73) hc dd_X9_putAt_72 rfl rfl ?_
        obtain ⟨hi, h⟩ := h
        refine hb_iast (q := 74) hc sh51 sl51 hi rfl dd_X9_putAt_73 rfl ?_
        refine hb_aload_n (q := 75) hc dd_X9_putAt_74 rfl rfl ?_
        refine hb_getR (q := 78) hc fl_X9_32 sh42 sl42 rfl dd_X9_putAt_75 rfl ?_
        refine hb_iload_n (q := 79) hc dd_X9_putAt_78 rfl rfl ?_
        refine hb_dup2 (q := 80) hc dd_X9_putAt_79 rfl rfl rfl ?_
        obtain ⟨hi, h⟩ := h
        refine hb_iald (q := 81) (v := M.1 50 v1.toNatClampNeg) hc sh50 sl50 hi rfl (by simp [wI, wL, cpI, cpL]) dd_X9_putAt_80 rfl ?_
        refine hb_iconst (q := 82) (v := 1) hc dd_X9_putAt_81 rfl ic_1 ?_
        refine hb_iadd (q := 83) hc dd_X9_putAt_82 rfl ?_
        obtain ⟨hi, h⟩ := h
        refine hb_iast (q := 84) hc sh50 sl50 hi rfl dd_X9_putAt_83 rfl ?_
        exact hb_vret hc rfl dd_X9_putAt_84 h
      · replace h := h.2 z
        refine hb_iconst (q := 62) (v := 0) hc dd_X9_putAt_61 rfl ic_0 ?_
        refine hb_goto (tg := 71) hc dd_X9_putAt_62 (by decide) ?_
        refine hb_iadd (q := 72) hc dd_X9_putAt_71 rfl ?_
        refine hb_iload_n (q := 73) hc dd_X9_putAt_72 rfl rfl ?_
        obtain ⟨hi, h⟩ := h
        refine hb_iast (q := 74) hc sh51 sl51 hi rfl dd_X9_putAt_73 rfl ?_
        refine hb_aload_n (q := 75) hc dd_X9_putAt_74 rfl rfl ?_
        refine hb_getR (q := 78) hc fl_X9_32 sh42 sl42 rfl dd_X9_putAt_75 rfl ?_
        refine hb_iload_n (q := 79) hc dd_X9_putAt_78 rfl rfl ?_
        refine hb_dup2 (q := 80) hc dd_X9_putAt_79 rfl rfl rfl ?_
        obtain ⟨hi, h⟩ := h
        refine hb_iald (q := 81) (v := M.1 50 v1.toNatClampNeg) hc sh50 sl50 hi rfl (by simp [wI, wL, cpI, cpL]) dd_X9_putAt_80 rfl ?_
        refine hb_iconst (q := 82) (v := 1) hc dd_X9_putAt_81 rfl ic_1 ?_
        refine hb_iadd (q := 83) hc dd_X9_putAt_82 rfl ?_
        obtain ⟨hi, h⟩ := h
        refine hb_iast (q := 84) hc sh50 sl50 hi rfl dd_X9_putAt_83 rfl ?_
        exact hb_vret hc rfl dd_X9_putAt_84 h
    · replace h := h.2 z
      refine hb_aload_n (q := 18) hc dd_X9_putAt_17 rfl rfl ?_
      refine hb_getR (q := 21) hc fl_X9_35 sh42 sl42 rfl dd_X9_putAt_18 rfl ?_
      refine hb_bipush (q := 23) (v := 12) hc dd_X9_putAt_21 rfl bp_12 ?_
      refine hb_iload_n (q := 24) hc dd_X9_putAt_23 rfl rfl ?_
      refine hb_imul (q := 25) hc dd_X9_putAt_24 rfl ?_
      refine hb_iload (q := 27) hc dd_X9_putAt_25 rfl rfl ?_
      refine hb_iadd (q := 28) hc dd_X9_putAt_27 rfl ?_
      refine hb_aload_n (q := 29) hc dd_X9_putAt_28 rfl rfl ?_
      refine hb_getR (q := 32) hc fl_X9_35 sh42 sl42 rfl dd_X9_putAt_29 rfl ?_
      refine hb_bipush (q := 34) (v := 12) hc dd_X9_putAt_32 rfl bp_12 ?_
      refine hb_iload_n (q := 35) hc dd_X9_putAt_34 rfl rfl ?_
      refine hb_imul (q := 36) hc dd_X9_putAt_35 rfl ?_
      refine hb_iload (q := 38) hc dd_X9_putAt_36 rfl rfl ?_
      refine hb_iadd (q := 39) hc dd_X9_putAt_38 rfl ?_
      refine hb_iconst (q := 40) (v := 1) hc dd_X9_putAt_39 rfl ic_1 ?_
      refine hb_isub (q := 41) hc dd_X9_putAt_40 rfl ?_
      obtain ⟨hi, h⟩ := h
      refine hb_iald (q := 42) (v := M.1 51 ((((12 * v1) + v4) - 1).toNatClampNeg)) hc sh51 sl51 hi rfl rfl dd_X9_putAt_41 rfl ?_
      obtain ⟨hi, h⟩ := h
      refine hb_iast (q := 43) hc sh51 sl51 hi rfl dd_X9_putAt_42 rfl ?_
      refine hb_iinc (q := 46) (v := v4 + (-1)) (lv' := [some (.ref 42), some (.int v1), some (.int v2), some (.int v3), some (.int (v4 + (-1)))]) hc dd_X9_putAt_43 rfl rfl rfl (Nat.le_of_ble_eq_true rfl) rfl ?_
      refine hb_goto (tg := 8) hc dd_X9_putAt_46 (by decide) ?_
      exact hb_weak (lvs (lvs (lvs (lvs (lvs lvz))))) (h p l e s m args below meth c G hc)
theorem w_X9_putAt {d : Nat} {M : Mm} {v1 : Int32} {v2 : Int32} {v3 : Int32} {K : Mm → Prop}  (h : vp_in v1 3 ∧ (lp_X9_putAt_8 d M v1 v2 v3 (M.1 50 v1.toNatClampNeg) K)) : ACv (d + 1) X9_putAt [.ref 42, .int v1, .int v2, .int v3] M K := by
  refine AC.ofW (lv := [some (.ref 42), some (.int v1), some (.int v2), some (.int v3), none]) pn_X9 (Nat.le_of_ble_eq_true rfl) (show lvLe _ [some (.ref 42), some (.int v1), some (.int v2), some (.int v3)] from (lvs (lvs (lvs (lvs (lve lvz)))))) ?_
  intro p l e s m args below meth c G hc
  refine hb_aload_n (q := 1) hc dd_X9_putAt_0 rfl rfl ?_
  refine hb_getR (q := 4) hc fl_X9_32 sh42 sl42 rfl dd_X9_putAt_1 rfl ?_
  refine hb_iload_n (q := 5) hc dd_X9_putAt_4 rfl rfl ?_
  obtain ⟨hi, h⟩ := h
  refine hb_iald (q := 6) (v := M.1 50 v1.toNatClampNeg) hc sh50 sl50 hi rfl rfl dd_X9_putAt_5 rfl ?_
  refine hb_istore (q := 8) (lv' := [some (.ref 42), some (.int v1), some (.int v2), some (.int v3), some (.int (M.1 50 v1.toNatClampNeg))]) hc dd_X9_putAt_6 rfl (Nat.le_of_ble_eq_true rfl) rfl ?_
  exact hb_weak (lvs (lvs (lvs (lvs (lvs lvz))))) (h p l e s m args below meth c G hc)
def lp_X9_drawAt_40 (d : Nat) (M : Mm) (v1 : Int32) (v2 : Int32) (v3 : Int32) (v4 : Int32) (K : Int32 → Mm → Prop) : Prop := AW (d + 1) X9_drawAt M 40 [some (.ref 42), some (.int v1), some (.int v2), some (.int v3), some (.int v4)] [] (QI K)
theorem z_X9_drawAt_40 {d : Nat} {M : Mm} {v1 : Int32} {v2 : Int32} {v3 : Int32} {v4 : Int32} {K : Int32 → Mm → Prop}  (h : vp_in v1 3 ∧ (((M.1 50 v1.toNatClampNeg) ≤ v4 → (K v3 M)) ∧ (¬ (M.1 50 v1.toNatClampNeg) ≤ v4 → ((¬ v2 = 0 → (K v3 M)) ∧ (v2 = 0 → (vp_in (((12 * v1) + v4) + 1) 36 ∧ (vp_in ((12 * v1) + v4) 36 ∧ (lp_X9_drawAt_40 d (wI M 51 (((12 * v1) + v4).toNatClampNeg) (M.1 51 ((((12 * v1) + v4) + 1).toNatClampNeg))) v1 v2 v3 (v4 + 1) K)))))))) : lp_X9_drawAt_40 d M v1 v2 v3 v4 K := by
  intro p l e s m args below meth c G hc
  refine hb_iload (q := 42) hc dd_X9_drawAt_40 rfl rfl ?_
  refine hb_aload_n (q := 43) hc dd_X9_drawAt_42 rfl rfl ?_
  refine hb_getR (q := 46) hc fl_X9_32 sh42 sl42 rfl dd_X9_drawAt_43 rfl ?_
  refine hb_iload_n (q := 47) hc dd_X9_drawAt_46 rfl rfl ?_
  obtain ⟨hi, h⟩ := h
  refine hb_iald (q := 48) (v := M.1 50 v1.toNatClampNeg) hc sh50 sl50 hi rfl rfl dd_X9_drawAt_47 rfl ?_
  refine hb_icmp_ge (q := 51) (tg := 87) hc dd_X9_drawAt_48 rfl (by decide) (fun z => ?_) (fun z => ?_)
  · replace h := h.1 z
    refine hb_iload_n (q := 88) hc dd_X9_drawAt_87 rfl rfl ?_
    exact hb_iret hc rfl dd_X9_drawAt_88 h
  · replace h := h.2 z
    refine hb_iload_n (q := 52) hc dd_X9_drawAt_51 rfl rfl ?_
    refine hb_if_ne (q := 55) (tg := 87) hc dd_X9_drawAt_52 rfl (by decide) (fun z => ?_) (fun z => ?_)
    · replace h := h.1 z
      refine hb_iload_n (q := 88) hc dd_X9_drawAt_87 rfl rfl ?_
      exact hb_iret hc rfl dd_X9_drawAt_88 h
    · replace h := h.2 z
      refine hb_aload_n (q := 56) hc dd_X9_drawAt_55 rfl rfl ?_
      refine hb_getR (q := 59) hc fl_X9_35 sh42 sl42 rfl dd_X9_drawAt_56 rfl ?_
      refine hb_bipush (q := 61) (v := 12) hc dd_X9_drawAt_59 rfl bp_12 ?_
      refine hb_iload_n (q := 62) hc dd_X9_drawAt_61 rfl rfl ?_
      refine hb_imul (q := 63) hc dd_X9_drawAt_62 rfl ?_
      refine hb_iload (q := 65) hc dd_X9_drawAt_63 rfl rfl ?_
      refine hb_iadd (q := 66) hc dd_X9_drawAt_65 rfl ?_
      refine hb_aload_n (q := 67) hc dd_X9_drawAt_66 rfl rfl ?_
      refine hb_getR (q := 70) hc fl_X9_35 sh42 sl42 rfl dd_X9_drawAt_67 rfl ?_
      refine hb_bipush (q := 72) (v := 12) hc dd_X9_drawAt_70 rfl bp_12 ?_
      refine hb_iload_n (q := 73) hc dd_X9_drawAt_72 rfl rfl ?_
      refine hb_imul (q := 74) hc dd_X9_drawAt_73 rfl ?_
      refine hb_iload (q := 76) hc dd_X9_drawAt_74 rfl rfl ?_
      refine hb_iadd (q := 77) hc dd_X9_drawAt_76 rfl ?_
      refine hb_iconst (q := 78) (v := 1) hc dd_X9_drawAt_77 rfl ic_1 ?_
      refine hb_iadd (q := 79) hc dd_X9_drawAt_78 rfl ?_
      obtain ⟨hi, h⟩ := h
      refine hb_iald (q := 80) (v := M.1 51 ((((12 * v1) + v4) + 1).toNatClampNeg)) hc sh51 sl51 hi rfl rfl dd_X9_drawAt_79 rfl ?_
      obtain ⟨hi, h⟩ := h
      refine hb_iast (q := 81) hc sh51 sl51 hi rfl dd_X9_drawAt_80 rfl ?_
      refine hb_iinc (q := 84) (v := v4 + 1) (lv' := [some (.ref 42), some (.int v1), some (.int v2), some (.int v3), some (.int (v4 + 1))]) hc dd_X9_drawAt_81 rfl rfl rfl (Nat.le_of_ble_eq_true rfl) rfl ?_
      refine hb_goto (tg := 40) hc dd_X9_drawAt_84 (by decide) ?_
      exact hb_weak (lvs (lvs (lvs (lvs (lvs lvz))))) (h p l e s m args below meth c G hc)
theorem w_X9_drawAt {d : Nat} {M : Mm} {v1 : Int32} {v2 : Int32} {K : Int32 → Mm → Prop}  (h : (¬ v2 = 0 → (vp_in v1 3 ∧ (vp_in ((12 * v1) + ((M.1 50 v1.toNatClampNeg) - 1)) 36 ∧ (vp_in v1 3 ∧ (vp_in v1 3 ∧ (lp_X9_drawAt_40 d (wI M 50 v1.toNatClampNeg ((M.1 50 v1.toNatClampNeg) - 1)) v1 v2 (M.1 51 (((12 * v1) + ((M.1 50 v1.toNatClampNeg) - 1)).toNatClampNeg)) 0 K)))))) ∧ (v2 = 0 → (vp_in ((12 * v1) + 0) 36 ∧ (vp_in v1 3 ∧ (vp_in v1 3 ∧ (lp_X9_drawAt_40 d (wI M 50 v1.toNatClampNeg ((M.1 50 v1.toNatClampNeg) - 1)) v1 v2 (M.1 51 (((12 * v1) + 0).toNatClampNeg)) 0 K)))))) : ACi (d + 1) X9_drawAt [.ref 42, .int v1, .int v2] M K := by
  refine AC.ofW (lv := [some (.ref 42), some (.int v1), some (.int v2), none, none]) pn_X9 (Nat.le_of_ble_eq_true rfl) (show lvLe _ [some (.ref 42), some (.int v1), some (.int v2)] from (lvs (lvs (lvs (lve (lve lvz)))))) ?_
  intro p l e s m args below meth c G hc
  refine hb_aload_n (q := 1) hc dd_X9_drawAt_0 rfl rfl ?_
  refine hb_getR (q := 4) hc fl_X9_35 sh42 sl42 rfl dd_X9_drawAt_1 rfl ?_
  refine hb_bipush (q := 6) (v := 12) hc dd_X9_drawAt_4 rfl bp_12 ?_
  refine hb_iload_n (q := 7) hc dd_X9_drawAt_6 rfl rfl ?_
  refine hb_imul (q := 8) hc dd_X9_drawAt_7 rfl ?_
  refine hb_iload_n (q := 9) hc dd_X9_drawAt_8 rfl rfl ?_
  refine hb_if_ne (q := 12) (tg := 16) hc dd_X9_drawAt_9 rfl (by decide) (fun z => ?_) (fun z => ?_)
  · replace h := h.1 z
    refine hb_aload_n (q := 17) hc dd_X9_drawAt_16 rfl rfl ?_
    refine hb_getR (q := 20) hc fl_X9_32 sh42 sl42 rfl dd_X9_drawAt_17 rfl ?_
    refine hb_iload_n (q := 21) hc dd_X9_drawAt_20 rfl rfl ?_
    obtain ⟨hi, h⟩ := h
    refine hb_iald (q := 22) (v := M.1 50 v1.toNatClampNeg) hc sh50 sl50 hi rfl rfl dd_X9_drawAt_21 rfl ?_
    refine hb_iconst (q := 23) (v := 1) hc dd_X9_drawAt_22 rfl ic_1 ?_
    refine hb_isub (q := 24) hc dd_X9_drawAt_23 rfl ?_
    refine hb_iadd (q := 25) hc dd_X9_drawAt_24 rfl ?_
    obtain ⟨hi, h⟩ := h
    refine hb_iald (q := 26) (v := M.1 51 (((12 * v1) + ((M.1 50 v1.toNatClampNeg) - 1)).toNatClampNeg)) hc sh51 sl51 hi rfl rfl dd_X9_drawAt_25 rfl ?_
    refine hb_istore_n (q := 27) (lv' := [some (.ref 42), some (.int v1), some (.int v2), some (.int (M.1 51 (((12 * v1) + ((M.1 50 v1.toNatClampNeg) - 1)).toNatClampNeg))), none]) hc dd_X9_drawAt_26 rfl (Nat.le_of_ble_eq_true rfl) rfl ?_
    refine hb_aload_n (q := 28) hc dd_X9_drawAt_27 rfl rfl ?_
    refine hb_getR (q := 31) hc fl_X9_32 sh42 sl42 rfl dd_X9_drawAt_28 rfl ?_
    refine hb_iload_n (q := 32) hc dd_X9_drawAt_31 rfl rfl ?_
    refine hb_dup2 (q := 33) hc dd_X9_drawAt_32 rfl rfl rfl ?_
    obtain ⟨hi, h⟩ := h
    refine hb_iald (q := 34) (v := M.1 50 v1.toNatClampNeg) hc sh50 sl50 hi rfl rfl dd_X9_drawAt_33 rfl ?_
    refine hb_iconst (q := 35) (v := 1) hc dd_X9_drawAt_34 rfl ic_1 ?_
    refine hb_isub (q := 36) hc dd_X9_drawAt_35 rfl ?_
    obtain ⟨hi, h⟩ := h
    refine hb_iast (q := 37) hc sh50 sl50 hi rfl dd_X9_drawAt_36 rfl ?_
    refine hb_iconst (q := 38) (v := 0) hc dd_X9_drawAt_37 rfl ic_0 ?_
    refine hb_istore (q := 40) (lv' := [some (.ref 42), some (.int v1), some (.int v2), some (.int (M.1 51 (((12 * v1) + ((M.1 50 v1.toNatClampNeg) - 1)).toNatClampNeg))), some (.int 0)]) hc dd_X9_drawAt_38 rfl (Nat.le_of_ble_eq_true rfl) rfl ?_
    exact hb_weak (lvs (lvs (lvs (lvs (lvs lvz))))) (h p l e s m args below meth c G hc)
  · replace h := h.2 z
    refine hb_iconst (q := 13) (v := 0) hc dd_X9_drawAt_12 rfl ic_0 ?_
    refine hb_goto (tg := 24) hc dd_X9_drawAt_13 (by decide) ?_
    refine hb_iadd (q := 25) hc dd_X9_drawAt_24 rfl ?_
    obtain ⟨hi, h⟩ := h
    refine hb_iald (q := 26) (v := M.1 51 (((12 * v1) + 0).toNatClampNeg)) hc sh51 sl51 hi rfl rfl dd_X9_drawAt_25 rfl ?_
    refine hb_istore_n (q := 27) (lv' := [some (.ref 42), some (.int v1), some (.int v2), some (.int (M.1 51 (((12 * v1) + 0).toNatClampNeg))), none]) hc dd_X9_drawAt_26 rfl (Nat.le_of_ble_eq_true rfl) rfl ?_
    refine hb_aload_n (q := 28) hc dd_X9_drawAt_27 rfl rfl ?_
    refine hb_getR (q := 31) hc fl_X9_32 sh42 sl42 rfl dd_X9_drawAt_28 rfl ?_
    refine hb_iload_n (q := 32) hc dd_X9_drawAt_31 rfl rfl ?_
    refine hb_dup2 (q := 33) hc dd_X9_drawAt_32 rfl rfl rfl ?_
    obtain ⟨hi, h⟩ := h
    refine hb_iald (q := 34) (v := M.1 50 v1.toNatClampNeg) hc sh50 sl50 hi rfl rfl dd_X9_drawAt_33 rfl ?_
    refine hb_iconst (q := 35) (v := 1) hc dd_X9_drawAt_34 rfl ic_1 ?_
    refine hb_isub (q := 36) hc dd_X9_drawAt_35 rfl ?_
    obtain ⟨hi, h⟩ := h
    refine hb_iast (q := 37) hc sh50 sl50 hi rfl dd_X9_drawAt_36 rfl ?_
    refine hb_iconst (q := 38) (v := 0) hc dd_X9_drawAt_37 rfl ic_0 ?_
    refine hb_istore (q := 40) (lv' := [some (.ref 42), some (.int v1), some (.int v2), some (.int (M.1 51 (((12 * v1) + 0).toNatClampNeg))), some (.int 0)]) hc dd_X9_drawAt_38 rfl (Nat.le_of_ble_eq_true rfl) rfl ?_
    exact hb_weak (lvs (lvs (lvs (lvs (lvs lvz))))) (h p l e s m args below meth c G hc)
theorem w_X9_put {d : Nat} {M : Mm} {v1 : Int32} {v2 : Int32} {v3 : Int32} {K : Int32 → Mm → Prop}  (h : ACi d X9_isTape [.int v1] M (fun r1 M1 => (¬ r1 = 0 → (ACi d X9_in [.long v2.toInt64, .long 0, .long 1] M1 (fun r2 M2 => (r2 = 0 → (K (-3) M2)) ∧ (¬ r2 = 0 → (ACi d X9_isNumber [.int v3] M2 (fun r3 M3 => (¬ r3 = 0 → (vp_in v1 3 ∧ ((0 ≤ (M3.1 50 v1.toNatClampNeg) → (vp_in v1 3 ∧ ((¬ (M3.1 50 v1.toNatClampNeg) = 12 → (ACv d X9_putAt [.ref 42, .int v1, .int v2, .int v3] M3 (fun M4 => vp_in v1 3 ∧ (K (M4.1 50 v1.toNatClampNeg) M4)))) ∧ ((M3.1 50 v1.toNatClampNeg) = 12 → (K (-13) M3))))) ∧ (¬ 0 ≤ (M3.1 50 v1.toNatClampNeg) → (K (-11) M3))))) ∧ (r3 = 0 → (K (-3) M3)))))))) ∧ (r1 = 0 → (K (-2) M1)))) : ACi (d + 1) X9_put [.ref 42, .int v1, .int v2, .int v3] M K := by
  refine AC.ofW (lv := [some (.ref 42), some (.int v1), some (.int v2), some (.int v3)]) pn_X9 (Nat.le_of_ble_eq_true rfl) (show lvLe _ [some (.ref 42), some (.int v1), some (.int v2), some (.int v3)] from (lvs (lvs (lvs (lvs lvz))))) ?_
  intro p l e s m args below meth c G hc
  refine hb_iload_n (q := 1) hc dd_X9_put_0 rfl rfl ?_
  refine hb_callSi (q := 4) (vs := [.int v1]) (st := []) hc mv_X9_286 h rfl rfl (Nat.le_of_ble_eq_true rfl) ⟨Nat.le_refl _, Nat.le_refl _⟩ ⟨Nat.le_refl _, Nat.le_refl _⟩ dd_X9_put_1 rfl (fun r1 M1 h => ?_)
  refine hb_if_ne (q := 7) (tg := 10) hc dd_X9_put_4 rfl (by decide) (fun z => ?_) (fun z => ?_)
  · replace h := h.1 z
    refine hb_iload_n (q := 11) hc dd_X9_put_10 rfl rfl ?_
    refine hb_i2l (q := 12) hc dd_X9_put_11 rfl ?_
    refine hb_lconst (q := 13) (v := 0) hc dd_X9_put_12 rfl lc_0 ?_
    refine hb_lconst (q := 14) (v := 1) hc dd_X9_put_13 rfl lc_1 ?_
    refine hb_callSi (q := 17) (vs := [.long v2.toInt64, .long 0, .long 1]) (st := []) hc mv_X9_104 h rfl rfl (Nat.le_of_ble_eq_true rfl) ⟨Nat.le_refl _, Nat.le_refl _⟩ ⟨Nat.le_refl _, Nat.le_refl _⟩ dd_X9_put_14 rfl (fun r2 M2 h => ?_)
    refine hb_if_eq (q := 20) (tg := 27) hc dd_X9_put_17 rfl (by decide) (fun z => ?_) (fun z => ?_)
    · replace h := h.1 z
      refine hb_bipush (q := 29) (v := (-3)) hc dd_X9_put_27 rfl bp_m3 ?_
      exact hb_iret hc rfl dd_X9_put_29 h
    · replace h := h.2 z
      refine hb_iload_n (q := 21) hc dd_X9_put_20 rfl rfl ?_
      refine hb_callSi (q := 24) (vs := [.int v3]) (st := []) hc mv_X9_289 h rfl rfl (Nat.le_of_ble_eq_true rfl) ⟨Nat.le_refl _, Nat.le_refl _⟩ ⟨Nat.le_refl _, Nat.le_refl _⟩ dd_X9_put_21 rfl (fun r3 M3 h => ?_)
      refine hb_if_ne (q := 27) (tg := 30) hc dd_X9_put_24 rfl (by decide) (fun z => ?_) (fun z => ?_)
      · replace h := h.1 z
        refine hb_aload_n (q := 31) hc dd_X9_put_30 rfl rfl ?_
        refine hb_getR (q := 34) hc fl_X9_32 sh42 sl42 rfl dd_X9_put_31 rfl ?_
        refine hb_iload_n (q := 35) hc dd_X9_put_34 rfl rfl ?_
        obtain ⟨hi, h⟩ := h
        refine hb_iald (q := 36) (v := M3.1 50 v1.toNatClampNeg) hc sh50 sl50 hi rfl rfl dd_X9_put_35 rfl ?_
        refine hb_if_ge (q := 39) (tg := 42) hc dd_X9_put_36 rfl (by decide) (fun z => ?_) (fun z => ?_)
        · replace h := h.1 z
          refine hb_aload_n (q := 43) hc dd_X9_put_42 rfl rfl ?_
          refine hb_getR (q := 46) hc fl_X9_32 sh42 sl42 rfl dd_X9_put_43 rfl ?_
          refine hb_iload_n (q := 47) hc dd_X9_put_46 rfl rfl ?_
          obtain ⟨hi, h⟩ := h
          refine hb_iald (q := 48) (v := M3.1 50 v1.toNatClampNeg) hc sh50 sl50 hi rfl rfl dd_X9_put_47 rfl ?_
          refine hb_bipush (q := 50) (v := 12) hc dd_X9_put_48 rfl bp_12 ?_
          refine hb_icmp_ne (q := 53) (tg := 56) hc dd_X9_put_50 rfl (by decide) (fun z => ?_) (fun z => ?_)
          · replace h := h.1 z
            refine hb_aload_n (q := 57) hc dd_X9_put_56 rfl rfl ?_
            refine hb_iload_n (q := 58) hc dd_X9_put_57 rfl rfl ?_
            refine hb_iload_n (q := 59) hc dd_X9_put_58 rfl rfl ?_
            refine hb_iload_n (q := 60) hc dd_X9_put_59 rfl rfl ?_
            refine hb_callVv (q := 63) (vs := [.int v1, .int v2, .int v3]) (st := []) hc mv_X9_292 h sh42 sl42 rfl rfl rfl (Nat.le_of_ble_eq_true rfl) ⟨Nat.le_refl _, Nat.le_refl _⟩ ⟨Nat.le_refl _, Nat.le_refl _⟩ dd_X9_put_60 rfl (fun M4 h => ?_)
            refine hb_aload_n (q := 64) hc dd_X9_put_63 rfl rfl ?_
            refine hb_getR (q := 67) hc fl_X9_32 sh42 sl42 rfl dd_X9_put_64 rfl ?_
            refine hb_iload_n (q := 68) hc dd_X9_put_67 rfl rfl ?_
            obtain ⟨hi, h⟩ := h
            refine hb_iald (q := 69) (v := M4.1 50 v1.toNatClampNeg) hc sh50 sl50 hi rfl rfl dd_X9_put_68 rfl ?_
            exact hb_iret hc rfl dd_X9_put_69 h
          · replace h := h.2 z
            refine hb_bipush (q := 55) (v := (-13)) hc dd_X9_put_53 rfl bp_m13 ?_
            exact hb_iret hc rfl dd_X9_put_55 h
        · replace h := h.2 z
          refine hb_bipush (q := 41) (v := (-11)) hc dd_X9_put_39 rfl bp_m11 ?_
          exact hb_iret hc rfl dd_X9_put_41 h
      · replace h := h.2 z
        refine hb_bipush (q := 29) (v := (-3)) hc dd_X9_put_27 rfl bp_m3 ?_
        exact hb_iret hc rfl dd_X9_put_29 h
  · replace h := h.2 z
    refine hb_bipush (q := 9) (v := (-2)) hc dd_X9_put_7 rfl bp_m2 ?_
    exact hb_iret hc rfl dd_X9_put_9 h
theorem w_X9_draw {d : Nat} {M : Mm} {v1 : Int32} {v2 : Int32} {K : Int32 → Mm → Prop}  (h : ACi d X9_isTape [.int v1] M (fun r1 M1 => (¬ r1 = 0 → (ACi d X9_in [.long v2.toInt64, .long 0, .long 1] M1 (fun r2 M2 => (¬ r2 = 0 → (vp_in v1 3 ∧ ((0 ≤ (M2.1 50 v1.toNatClampNeg) → (vp_in v1 3 ∧ ((¬ (M2.1 50 v1.toNatClampNeg) = 0 → (ACi d X9_drawAt [.ref 42, .int v1, .int v2] M2 (fun r3 M3 => K (r3 + 50000) M3))) ∧ ((M2.1 50 v1.toNatClampNeg) = 0 → (K (-12) M2))))) ∧ (¬ 0 ≤ (M2.1 50 v1.toNatClampNeg) → (K (-11) M2))))) ∧ (r2 = 0 → (K (-3) M2))))) ∧ (r1 = 0 → (K (-2) M1)))) : ACi (d + 1) X9_draw [.ref 42, .int v1, .int v2] M K := by
  refine AC.ofW (lv := [some (.ref 42), some (.int v1), some (.int v2)]) pn_X9 (Nat.le_of_ble_eq_true rfl) (show lvLe _ [some (.ref 42), some (.int v1), some (.int v2)] from (lvs (lvs (lvs lvz)))) ?_
  intro p l e s m args below meth c G hc
  refine hb_iload_n (q := 1) hc dd_X9_draw_0 rfl rfl ?_
  refine hb_callSi (q := 4) (vs := [.int v1]) (st := []) hc mv_X9_286 h rfl rfl (Nat.le_of_ble_eq_true rfl) ⟨Nat.le_refl _, Nat.le_refl _⟩ ⟨Nat.le_refl _, Nat.le_refl _⟩ dd_X9_draw_1 rfl (fun r1 M1 h => ?_)
  refine hb_if_ne (q := 7) (tg := 10) hc dd_X9_draw_4 rfl (by decide) (fun z => ?_) (fun z => ?_)
  · replace h := h.1 z
    refine hb_iload_n (q := 11) hc dd_X9_draw_10 rfl rfl ?_
    refine hb_i2l (q := 12) hc dd_X9_draw_11 rfl ?_
    refine hb_lconst (q := 13) (v := 0) hc dd_X9_draw_12 rfl lc_0 ?_
    refine hb_lconst (q := 14) (v := 1) hc dd_X9_draw_13 rfl lc_1 ?_
    refine hb_callSi (q := 17) (vs := [.long v2.toInt64, .long 0, .long 1]) (st := []) hc mv_X9_104 h rfl rfl (Nat.le_of_ble_eq_true rfl) ⟨Nat.le_refl _, Nat.le_refl _⟩ ⟨Nat.le_refl _, Nat.le_refl _⟩ dd_X9_draw_14 rfl (fun r2 M2 h => ?_)
    refine hb_if_ne (q := 20) (tg := 23) hc dd_X9_draw_17 rfl (by decide) (fun z => ?_) (fun z => ?_)
    · replace h := h.1 z
      refine hb_aload_n (q := 24) hc dd_X9_draw_23 rfl rfl ?_
      refine hb_getR (q := 27) hc fl_X9_32 sh42 sl42 rfl dd_X9_draw_24 rfl ?_
      refine hb_iload_n (q := 28) hc dd_X9_draw_27 rfl rfl ?_
      obtain ⟨hi, h⟩ := h
      refine hb_iald (q := 29) (v := M2.1 50 v1.toNatClampNeg) hc sh50 sl50 hi rfl rfl dd_X9_draw_28 rfl ?_
      refine hb_if_ge (q := 32) (tg := 37) hc dd_X9_draw_29 rfl (by decide) (fun z => ?_) (fun z => ?_)
      · replace h := h.1 z
        refine hb_aload_n (q := 38) hc dd_X9_draw_37 rfl rfl ?_
        refine hb_getR (q := 41) hc fl_X9_32 sh42 sl42 rfl dd_X9_draw_38 rfl ?_
        refine hb_iload_n (q := 42) hc dd_X9_draw_41 rfl rfl ?_
        obtain ⟨hi, h⟩ := h
        refine hb_iald (q := 43) (v := M2.1 50 v1.toNatClampNeg) hc sh50 sl50 hi rfl rfl dd_X9_draw_42 rfl ?_
        refine hb_if_ne (q := 46) (tg := 51) hc dd_X9_draw_43 rfl (by decide) (fun z => ?_) (fun z => ?_)
        · replace h := h.1 z
          refine hb_aload_n (q := 52) hc dd_X9_draw_51 rfl rfl ?_
          refine hb_iload_n (q := 53) hc dd_X9_draw_52 rfl rfl ?_
          refine hb_iload_n (q := 54) hc dd_X9_draw_53 rfl rfl ?_
          refine hb_callVi (q := 57) (vs := [.int v1, .int v2]) (st := []) hc mv_X9_296 h sh42 sl42 rfl rfl rfl (Nat.le_of_ble_eq_true rfl) ⟨Nat.le_refl _, Nat.le_refl _⟩ ⟨Nat.le_refl _, Nat.le_refl _⟩ dd_X9_draw_54 rfl (fun r3 M3 h => ?_)
          refine hb_ldcw (q := 60) (v := 50000) hc dd_X9_draw_57 rfl iw_1251 ?_
          refine hb_iadd (q := 61) hc dd_X9_draw_60 rfl ?_
          exact hb_iret hc rfl dd_X9_draw_61 h
        · replace h := h.2 z
          refine hb_bipush (q := 48) (v := (-12)) hc dd_X9_draw_46 rfl bp_m12 ?_
          refine hb_goto (tg := 61) hc dd_X9_draw_48 (by decide) ?_
          exact hb_iret hc rfl dd_X9_draw_61 h
      · replace h := h.2 z
        refine hb_bipush (q := 34) (v := (-11)) hc dd_X9_draw_32 rfl bp_m11 ?_
        refine hb_goto (tg := 61) hc dd_X9_draw_34 (by decide) ?_
        exact hb_iret hc rfl dd_X9_draw_61 h
    · replace h := h.2 z
      refine hb_bipush (q := 22) (v := (-3)) hc dd_X9_draw_20 rfl bp_m3 ?_
      exact hb_iret hc rfl dd_X9_draw_22 h
  · replace h := h.2 z
    refine hb_bipush (q := 9) (v := (-2)) hc dd_X9_draw_7 rfl bp_m2 ?_
    exact hb_iret hc rfl dd_X9_draw_9 h
def lp_X9_turn_54 (d : Nat) (M : Mm) (v1 : Int32) (v2 : Int32) (v3 : Int32) (K : Int32 → Mm → Prop) : Prop := AW (d + 1) X9_turn M 54 [some (.ref 42), some (.int v1), some (.int v2), some (.int v3)] [] (QI K)
theorem z_X9_turn_54 {d : Nat} {M : Mm} {v1 : Int32} {v2 : Int32} {v3 : Int32} {K : Int32 → Mm → Prop}  (h : (v2 ≤ v3 → (vp_in v1 3 ∧ (K (M.1 50 v1.toNatClampNeg) M))) ∧ (¬ v2 ≤ v3 → (ACi d X9_drawAt [.ref 42, .int v1, .int 0] M (fun r1 M1 => ACv d X9_putAt [.ref 42, .int v1, .int 1, .int r1] M1 (fun M2 => lp_X9_turn_54 d M2 v1 v2 (v3 + 1) K))))) : lp_X9_turn_54 d M v1 v2 v3 K := by
  intro p l e s m args below meth c G hc
  refine hb_iload_n (q := 55) hc dd_X9_turn_54 rfl rfl ?_
  refine hb_iload_n (q := 56) hc dd_X9_turn_55 rfl rfl ?_
  refine hb_icmp_ge (q := 59) (tg := 77) hc dd_X9_turn_56 rfl (by decide) (fun z => ?_) (fun z => ?_)
  · replace h := h.1 z
    refine hb_aload_n (q := 78) hc dd_X9_turn_77 rfl rfl ?_
    refine hb_getR (q := 81) hc fl_X9_32 sh42 sl42 rfl dd_X9_turn_78 rfl ?_
    refine hb_iload_n (q := 82) hc dd_X9_turn_81 rfl rfl ?_
    obtain ⟨hi, h⟩ := h
    refine hb_iald (q := 83) (v := M.1 50 v1.toNatClampNeg) hc sh50 sl50 hi rfl rfl dd_X9_turn_82 rfl ?_
    exact hb_iret hc rfl dd_X9_turn_83 h
  · replace h := h.2 z
    refine hb_aload_n (q := 60) hc dd_X9_turn_59 rfl rfl ?_
    refine hb_iload_n (q := 61) hc dd_X9_turn_60 rfl rfl ?_
    refine hb_iconst (q := 62) (v := 1) hc dd_X9_turn_61 rfl ic_1 ?_
    refine hb_aload_n (q := 63) hc dd_X9_turn_62 rfl rfl ?_
    refine hb_iload_n (q := 64) hc dd_X9_turn_63 rfl rfl ?_
    refine hb_iconst (q := 65) (v := 0) hc dd_X9_turn_64 rfl ic_0 ?_
    refine hb_callVi (q := 68) (vs := [.int v1, .int 0]) (st := [.int 1, .int v1, .ref 42]) hc mv_X9_296 h sh42 sl42 rfl rfl rfl (Nat.le_of_ble_eq_true rfl) ⟨Nat.le_refl _, Nat.le_refl _⟩ ⟨Nat.le_refl _, Nat.le_refl _⟩ dd_X9_turn_65 rfl (fun r1 M1 h => ?_)
    refine hb_callVv (q := 71) (vs := [.int v1, .int 1, .int r1]) (st := []) hc mv_X9_292 h sh42 sl42 rfl rfl rfl (Nat.le_of_ble_eq_true rfl) ⟨Nat.le_refl _, Nat.le_refl _⟩ ⟨Nat.le_refl _, Nat.le_refl _⟩ dd_X9_turn_68 rfl (fun M2 h => ?_)
    refine hb_iinc (q := 74) (v := v3 + 1) (lv' := [some (.ref 42), some (.int v1), some (.int v2), some (.int (v3 + 1))]) hc dd_X9_turn_71 rfl rfl rfl (Nat.le_of_ble_eq_true rfl) rfl ?_
    refine hb_goto (tg := 54) hc dd_X9_turn_74 (by decide) ?_
    exact hb_weak (lvs (lvs (lvs (lvs lvz)))) (h p l e s m args below meth c G hc)
theorem w_X9_turn {d : Nat} {M : Mm} {v1 : Int32} {v2 : Int32} {K : Int32 → Mm → Prop}  (h : ACi d X9_isTape [.int v1] M (fun r1 M1 => (¬ r1 = 0 → (ACi d X9_in [.long v2.toInt64, .long 0, .long 99] M1 (fun r2 M2 => (¬ r2 = 0 → (vp_in v1 3 ∧ ((1 ≤ (M2.1 50 v1.toNatClampNeg) → (lp_X9_turn_54 d M2 v1 v2 0 K)) ∧ (¬ 1 ≤ (M2.1 50 v1.toNatClampNeg) → (vp_in v1 3 ∧ ((0 ≤ (M2.1 50 v1.toNatClampNeg) → (K (-12) M2)) ∧ (¬ 0 ≤ (M2.1 50 v1.toNatClampNeg) → (K (-11) M2)))))))) ∧ (r2 = 0 → (K (-3) M2))))) ∧ (r1 = 0 → (K (-2) M1)))) : ACi (d + 1) X9_turn [.ref 42, .int v1, .int v2] M K := by
  refine AC.ofW (lv := [some (.ref 42), some (.int v1), some (.int v2), none]) pn_X9 (Nat.le_of_ble_eq_true rfl) (show lvLe _ [some (.ref 42), some (.int v1), some (.int v2)] from (lvs (lvs (lvs (lve lvz))))) ?_
  intro p l e s m args below meth c G hc
  refine hb_iload_n (q := 1) hc dd_X9_turn_0 rfl rfl ?_
  refine hb_callSi (q := 4) (vs := [.int v1]) (st := []) hc mv_X9_286 h rfl rfl (Nat.le_of_ble_eq_true rfl) ⟨Nat.le_refl _, Nat.le_refl _⟩ ⟨Nat.le_refl _, Nat.le_refl _⟩ dd_X9_turn_1 rfl (fun r1 M1 h => ?_)
  refine hb_if_ne (q := 7) (tg := 10) hc dd_X9_turn_4 rfl (by decide) (fun z => ?_) (fun z => ?_)
  · replace h := h.1 z
    refine hb_iload_n (q := 11) hc dd_X9_turn_10 rfl rfl ?_
    refine hb_i2l (q := 12) hc dd_X9_turn_11 rfl ?_
    refine hb_lconst (q := 13) (v := 0) hc dd_X9_turn_12 rfl lc_0 ?_
    refine hb_ldc2 (q := 16) (v := 99) hc dd_X9_turn_13 rfl iw_1135 ?_
    refine hb_callSi (q := 19) (vs := [.long v2.toInt64, .long 0, .long 99]) (st := []) hc mv_X9_104 h rfl rfl (Nat.le_of_ble_eq_true rfl) ⟨Nat.le_refl _, Nat.le_refl _⟩ ⟨Nat.le_refl _, Nat.le_refl _⟩ dd_X9_turn_16 rfl (fun r2 M2 h => ?_)
    refine hb_if_ne (q := 22) (tg := 25) hc dd_X9_turn_19 rfl (by decide) (fun z => ?_) (fun z => ?_)
    · replace h := h.1 z
      refine hb_aload_n (q := 26) hc dd_X9_turn_25 rfl rfl ?_
      refine hb_getR (q := 29) hc fl_X9_32 sh42 sl42 rfl dd_X9_turn_26 rfl ?_
      refine hb_iload_n (q := 30) hc dd_X9_turn_29 rfl rfl ?_
      obtain ⟨hi, h⟩ := h
      refine hb_iald (q := 31) (v := M2.1 50 v1.toNatClampNeg) hc sh50 sl50 hi rfl rfl dd_X9_turn_30 rfl ?_
      refine hb_iconst (q := 32) (v := 1) hc dd_X9_turn_31 rfl ic_1 ?_
      refine hb_icmp_ge (q := 35) (tg := 52) hc dd_X9_turn_32 rfl (by decide) (fun z => ?_) (fun z => ?_)
      · replace h := h.1 z
        refine hb_iconst (q := 53) (v := 0) hc dd_X9_turn_52 rfl ic_0 ?_
        refine hb_istore_n (q := 54) (lv' := [some (.ref 42), some (.int v1), some (.int v2), some (.int 0)]) hc dd_X9_turn_53 rfl (Nat.le_of_ble_eq_true rfl) rfl ?_
        exact hb_weak (lvs (lvs (lvs (lvs lvz)))) (h p l e s m args below meth c G hc)
      · replace h := h.2 z
        refine hb_aload_n (q := 36) hc dd_X9_turn_35 rfl rfl ?_
        refine hb_getR (q := 39) hc fl_X9_32 sh42 sl42 rfl dd_X9_turn_36 rfl ?_
        refine hb_iload_n (q := 40) hc dd_X9_turn_39 rfl rfl ?_
        obtain ⟨hi, h⟩ := h
        refine hb_iald (q := 41) (v := M2.1 50 v1.toNatClampNeg) hc sh50 sl50 hi rfl rfl dd_X9_turn_40 rfl ?_
        refine hb_if_ge (q := 44) (tg := 49) hc dd_X9_turn_41 rfl (by decide) (fun z => ?_) (fun z => ?_)
        · replace h := h.1 z
          refine hb_bipush (q := 51) (v := (-12)) hc dd_X9_turn_49 rfl bp_m12 ?_
          exact hb_iret hc rfl dd_X9_turn_51 h
        · replace h := h.2 z
          refine hb_bipush (q := 46) (v := (-11)) hc dd_X9_turn_44 rfl bp_m11 ?_
          refine hb_goto (tg := 51) hc dd_X9_turn_46 (by decide) ?_
          exact hb_iret hc rfl dd_X9_turn_51 h
    · replace h := h.2 z
      refine hb_bipush (q := 24) (v := (-3)) hc dd_X9_turn_22 rfl bp_m3 ?_
      exact hb_iret hc rfl dd_X9_turn_24 h
  · replace h := h.2 z
    refine hb_bipush (q := 9) (v := (-2)) hc dd_X9_turn_7 rfl bp_m2 ?_
    exact hb_iret hc rfl dd_X9_turn_9 h
