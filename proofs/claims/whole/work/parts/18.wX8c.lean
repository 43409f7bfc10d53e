/-! WALKS, by program (wip/whole/gen6.py). -/
def lp_X8_clashes_4 (d : Nat) (M : Mm) (v1 : Int32) (v2 : Int32) (K : Int32 → Mm → Prop) : Prop := AW (d + 1) X8_clashes M 4 [some (.ref 0), some (.int v1), some (.int v2)] [] (QI K)
theorem z_X8_clashes_4 {d : Nat} {M : Mm} {v1 : Int32} {v2 : Int32} {K : Int32 → Mm → Prop}  (h : ((M.1 13 0) ≤ v2 → (K (v1 >>> ((1 : Int32) &&& 31)) M)) ∧ (¬ (M.1 13 0) ≤ v2 → (ACi d X8_clashing [.ref 0, .int v2] M (fun r1 M1 => ACi d J6_bitCount_0f7a4 [.int r1] M1 (fun r2 M2 => lp_X8_clashes_4 d M2 (v1 + r2) (v2 + 1) K))))) : lp_X8_clashes_4 d M v1 v2 K := by
  intro p l e s m args below meth c G hc
  refine hb_iload_n (q := 5) hc dd_X8_clashes_4 rfl rfl ?_
  refine hb_aload_n (q := 6) hc dd_X8_clashes_5 rfl rfl ?_
  refine hb_getR (q := 9) hc fl_X8_29 sh0 sl0 rfl dd_X8_clashes_6 rfl ?_
  refine hb_getI (q := 12) (v := M.1 13 0) hc fl_X8_161 sh13 sl13 rfl rfl dd_X8_clashes_9 rfl ?_
  refine hb_icmp_ge (q := 15) (tg := 32) hc dd_X8_clashes_12 rfl (by decide) (fun z => ?_) (fun z => ?_)
  · replace h := h.1 z
    refine hb_iload_n (q := 33) hc dd_X8_clashes_32 rfl rfl ?_
    refine hb_iconst (q := 34) (v := 1) hc dd_X8_clashes_33 rfl ic_1 ?_
    refine hb_ishr (q := 35) hc dd_X8_clashes_34 rfl ?_
    exact hb_iret hc rfl dd_X8_clashes_35 h
  · replace h := h.2 z
    refine hb_iload_n (q := 16) hc dd_X8_clashes_15 rfl rfl ?_
    refine hb_aload_n (q := 17) hc dd_X8_clashes_16 rfl rfl ?_
    refine hb_iload_n (q := 18) hc dd_X8_clashes_17 rfl rfl ?_
    refine hb_callVi (q := 21) (vs := [.int v2]) (st := [.int v1]) hc mv_X8_158 h sh0 sl0 rfl rfl rfl (Nat.le_of_ble_eq_true rfl) ⟨Nat.le_refl _, Nat.le_refl _⟩ ⟨Nat.le_refl _, Nat.le_refl _⟩ dd_X8_clashes_18 rfl (fun r1 M1 h => ?_)
    refine hb_callSi (q := 24) (vs := [.int r1]) (st := [.int v1]) hc mv_X8_138 h rfl rfl (Nat.le_of_ble_eq_true rfl) ⟨Nat.le_refl _, Nat.le_refl _⟩ ⟨Nat.le_refl _, Nat.le_refl _⟩ dd_X8_clashes_21 rfl (fun r2 M2 h => ?_)
    refine hb_iadd (q := 25) hc dd_X8_clashes_24 rfl ?_
    refine hb_istore_n (q := 26) (lv' := [some (.ref 0), some (.int (v1 + r2)), some (.int v2)]) hc dd_X8_clashes_25 rfl (Nat.le_of_ble_eq_true rfl) rfl ?_
    refine hb_iinc (q := 29) (v := v2 + 1) (lv' := [some (.ref 0), some (.int (v1 + r2)), some (.int (v2 + 1))]) hc dd_X8_clashes_26 rfl rfl rfl (Nat.le_of_ble_eq_true rfl) rfl ?_
    refine hb_goto (tg := 4) hc dd_X8_clashes_29 (by decide) ?_
    exact hb_weak (lvs (lvs (lvs lvz))) (h p l e s m args below meth c G hc)
theorem w_X8_clashes {d : Nat} {M : Mm}  {K : Int32 → Mm → Prop}  (h : lp_X8_clashes_4 d M 0 0 K) : ACi (d + 1) X8_clashes [.ref 0] M K := by
  refine AC.ofW (lv := [some (.ref 0), none, none]) pn_X8 (Nat.le_of_ble_eq_true rfl) (show lvLe _ [some (.ref 0)] from (lvs (lve (lve lvz)))) ?_
  intro p l e s m args below meth c G hc
  refine hb_iconst (q := 1) (v := 0) hc dd_X8_clashes_0 rfl ic_0 ?_
  refine hb_istore_n (q := 2) (lv' := [some (.ref 0), some (.int 0), none]) hc dd_X8_clashes_1 rfl (Nat.le_of_ble_eq_true rfl) rfl ?_
  refine hb_iconst (q := 3) (v := 0) hc dd_X8_clashes_2 rfl ic_0 ?_
  refine hb_istore_n (q := 4) (lv' := [some (.ref 0), some (.int 0), some (.int 0)]) hc dd_X8_clashes_3 rfl (Nat.le_of_ble_eq_true rfl) rfl ?_
  exact hb_weak (lvs (lvs (lvs lvz))) (h p l e s m args below meth c G hc)
def lp_X8_numbersOnTapes_4 (d : Nat) (M : Mm) (v1 : Int32) (v2 : Int32) (K : Int32 → Mm → Prop) : Prop := AW (d + 1) X8_numbersOnTapes M 4 [some (.ref 0), some (.int v1), some (.int v2), none] [] (QI K)
theorem z_X8_numbersOnTapes_4 {d : Nat} {M : Mm} {v1 : Int32} {v2 : Int32} {K : Int32 → Mm → Prop}  (h : (3 ≤ v2 → (K v1 M)) ∧ (¬ 3 ≤ v2 → (ACr d X8_tapeAt [.ref 0, .int v2] M (fun r1 M1 => (r1 = none → (lp_X8_numbersOnTapes_4 d M1 v1 (v2 + 1) K)) ∧ (∀ a1 : Nat, r1 = some a1 → isTp a1 ∧ (lp_X8_numbersOnTapes_4 d M1 (v1 + (M1.1 a1 1)) (v2 + 1) K)))))) : lp_X8_numbersOnTapes_4 d M v1 v2 K := by
  intro p l e s m args below meth c G hc
  refine hb_iload_n (q := 5) hc dd_X8_numbersOnTapes_4 rfl rfl ?_
  refine hb_iconst (q := 6) (v := 3) hc dd_X8_numbersOnTapes_5 rfl ic_3 ?_
  refine hb_icmp_ge (q := 9) (tg := 32) hc dd_X8_numbersOnTapes_6 rfl (by decide) (fun z => ?_) (fun z => ?_)
  · replace h := h.1 z
    refine hb_iload_n (q := 33) hc dd_X8_numbersOnTapes_32 rfl rfl ?_
    exact hb_iret hc rfl dd_X8_numbersOnTapes_33 h
  · replace h := h.2 z
    refine hb_aload_n (q := 10) hc dd_X8_numbersOnTapes_9 rfl rfl ?_
    refine hb_iload_n (q := 11) hc dd_X8_numbersOnTapes_10 rfl rfl ?_
    refine hb_callVr (q := 14) (vs := [.int v2]) (st := []) hc mv_X8_112 h sh0 sl0 rfl rfl rfl (Nat.le_of_ble_eq_true rfl) ⟨Nat.le_refl _, Nat.le_refl _⟩ ⟨Nat.le_refl _, Nat.le_refl _⟩ dd_X8_numbersOnTapes_11 rfl (fun M1 h => ?_) (fun a1 M1 h => ?_)
    · replace h := h.1 rfl
      refine hb_astore_nN (q := 15) (lv' := [some (.ref 0), some (.int v1), some (.int v2), some (.null)]) hc dd_X8_numbersOnTapes_14 rfl (Nat.le_of_ble_eq_true rfl) rfl ?_
      refine hb_aload_nN (q := 16) hc dd_X8_numbersOnTapes_15 rfl rfl ?_
      refine hb_ifnullN (tg := 26) hc dd_X8_numbersOnTapes_16 (by decide) ?_
      refine hb_iinc (q := 29) (v := v2 + 1) (lv' := [some (.ref 0), some (.int v1), some (.int (v2 + 1)), some (.null)]) hc dd_X8_numbersOnTapes_26 rfl rfl rfl (Nat.le_of_ble_eq_true rfl) rfl ?_
      refine hb_goto (tg := 4) hc dd_X8_numbersOnTapes_29 (by decide) ?_
      exact hb_weak (lvs (lvs (lvs (lvn lvz)))) (h p l e s m args below meth c G hc)
    · obtain ⟨ha1, h⟩ := h.2 a1 rfl
      refine hb_astore_n (q := 15) (lv' := [some (.ref 0), some (.int v1), some (.int v2), some (.ref a1)]) hc dd_X8_numbersOnTapes_14 rfl (Nat.le_of_ble_eq_true rfl) rfl ?_
      refine hb_aload_n (q := 16) hc dd_X8_numbersOnTapes_15 rfl rfl ?_
      refine hb_ifnull (q := 19) hc dd_X8_numbersOnTapes_16 rfl ?_
      refine hb_iload_n (q := 20) hc dd_X8_numbersOnTapes_19 rfl rfl ?_
      refine hb_aload_n (q := 21) hc dd_X8_numbersOnTapes_20 rfl rfl ?_
      refine hb_getI (q := 24) (v := M1.1 a1 1) hc fl_X8_255 (tp_s ha1) (tp_l ha1) rfl rfl dd_X8_numbersOnTapes_21 rfl ?_
      refine hb_iadd (q := 25) hc dd_X8_numbersOnTapes_24 rfl ?_
      refine hb_istore_n (q := 26) (lv' := [some (.ref 0), some (.int (v1 + (M1.1 a1 1))), some (.int v2), some (.ref a1)]) hc dd_X8_numbersOnTapes_25 rfl (Nat.le_of_ble_eq_true rfl) rfl ?_
      refine hb_iinc (q := 29) (v := v2 + 1) (lv' := [some (.ref 0), some (.int (v1 + (M1.1 a1 1))), some (.int (v2 + 1)), some (.ref a1)]) hc dd_X8_numbersOnTapes_26 rfl rfl rfl (Nat.le_of_ble_eq_true rfl) rfl ?_
      refine hb_goto (tg := 4) hc dd_X8_numbersOnTapes_29 (by decide) ?_
      exact hb_weak (lvs (lvs (lvs (lvn lvz)))) (h p l e s m args below meth c G hc)
theorem w_X8_numbersOnTapes {d : Nat} {M : Mm}  {K : Int32 → Mm → Prop}  (h : lp_X8_numbersOnTapes_4 d M 0 0 K) : ACi (d + 1) X8_numbersOnTapes [.ref 0] M K := by
  refine AC.ofW (lv := [some (.ref 0), none, none, none]) pn_X8 (Nat.le_of_ble_eq_true rfl) (show lvLe _ [some (.ref 0)] from (lvs (lve (lve (lve lvz))))) ?_
  intro p l e s m args below meth c G hc
  refine hb_iconst (q := 1) (v := 0) hc dd_X8_numbersOnTapes_0 rfl ic_0 ?_
  refine hb_istore_n (q := 2) (lv' := [some (.ref 0), some (.int 0), none, none]) hc dd_X8_numbersOnTapes_1 rfl (Nat.le_of_ble_eq_true rfl) rfl ?_
  refine hb_iconst (q := 3) (v := 0) hc dd_X8_numbersOnTapes_2 rfl ic_0 ?_
  refine hb_istore_n (q := 4) (lv' := [some (.ref 0), some (.int 0), some (.int 0), none]) hc dd_X8_numbersOnTapes_3 rfl (Nat.le_of_ble_eq_true rfl) rfl ?_
  exact hb_weak (lvs (lvs (lvs (lvn lvz)))) (h p l e s m args below meth c G hc)
theorem w_X8_tapeAt {d : Nat} {M : Mm} {v1 : Int32} {K : Option Nat → Mm → Prop}  (h : (v1 < 0 → (K none M)) ∧ (¬ v1 < 0 → ((v1 < 3 → (vp_in v1 3 ∧ ∃ a1 : Nat, ([36, 38, 40] : List Nat)[v1.toNatClampNeg]? = some a1 ∧ isTp a1 ∧ (K (some a1) M))) ∧ (¬ v1 < 3 → (K none M))))) : ACr (d + 1) X8_tapeAt [.ref 0, .int v1] M K := by
  refine AC.ofW (lv := [some (.ref 0), some (.int v1)]) pn_X8 (Nat.le_of_ble_eq_true rfl) (show lvLe _ [some (.ref 0), some (.int v1)] from (lvs (lvs lvz))) ?_
  intro p l e s m args below meth c G hc
  refine hb_iload_n (q := 1) hc dd_X8_tapeAt_0 rfl rfl ?_
  refine hb_if_lt (q := 4) (tg := 9) hc dd_X8_tapeAt_1 rfl (by decide) (fun z => ?_) (fun z => ?_)
  · replace h := h.1 z
    refine hb_null (q := 10) hc dd_X8_tapeAt_9 rfl ?_
    refine hb_goto (tg := 19) hc dd_X8_tapeAt_10 (by decide) ?_
    exact hb_aretN hc rfl dd_X8_tapeAt_19 h
  · replace h := h.2 z
    refine hb_iload_n (q := 5) hc dd_X8_tapeAt_4 rfl rfl ?_
    refine hb_iconst (q := 6) (v := 3) hc dd_X8_tapeAt_5 rfl ic_3 ?_
    refine hb_icmp_lt (q := 9) (tg := 13) hc dd_X8_tapeAt_6 rfl (by decide) (fun z => ?_) (fun z => ?_)
    · replace h := h.1 z
      refine hb_aload_n (q := 14) hc dd_X8_tapeAt_13 rfl rfl ?_
      refine hb_getR (q := 17) hc fl_X8_69 sh0 sl0 rfl dd_X8_tapeAt_14 rfl ?_
      refine hb_iload_n (q := 18) hc dd_X8_tapeAt_17 rfl rfl ?_
      obtain ⟨hi, a1, hr, ha1, h⟩ := h
      refine hb_aald (q := 19) hc sh35 sl35 hi hr dd_X8_tapeAt_18 rfl ?_
      exact hb_aret hc rfl dd_X8_tapeAt_19 h
    · replace h := h.2 z
      refine hb_null (q := 10) hc dd_X8_tapeAt_9 rfl ?_
      refine hb_goto (tg := 19) hc dd_X8_tapeAt_10 (by decide) ?_
      exact hb_aretN hc rfl dd_X8_tapeAt_19 h
theorem w_X8_isPlace {d : Nat} {M : Mm} {v0 : Int32} {K : Int32 → Mm → Prop}  (h : (v0 < 0 → (K 0 M)) ∧ (¬ v0 < 0 → ((99 < v0 → (K 0 M)) ∧ (¬ 99 < v0 → (K 1 M))))) : ACi (d + 1) X8_isPlace [.int v0] M K := by
  refine AC.ofW (lv := [some (.int v0)]) pn_X8 (Nat.le_of_ble_eq_true rfl) (show lvLe _ [some (.int v0)] from (lvs lvz)) ?_
  intro p l e s m args below meth c G hc
  refine hb_iload_n (q := 1) hc dd_X8_isPlace_0 rfl rfl ?_
  refine hb_if_lt (q := 4) (tg := 14) hc dd_X8_isPlace_1 rfl (by decide) (fun z => ?_) (fun z => ?_)
  · replace h := h.1 z
    refine hb_iconst (q := 15) (v := 0) hc dd_X8_isPlace_14 rfl ic_0 ?_
    exact hb_zret hc rfl (by decide) dd_X8_isPlace_15 h
  · replace h := h.2 z
    refine hb_iload_n (q := 5) hc dd_X8_isPlace_4 rfl rfl ?_
    refine hb_bipush (q := 7) (v := 99) hc dd_X8_isPlace_5 rfl bp_99 ?_
    refine hb_icmp_gt (q := 10) (tg := 14) hc dd_X8_isPlace_7 rfl (by decide) (fun z => ?_) (fun z => ?_)
    · replace h := h.1 z
      refine hb_iconst (q := 15) (v := 0) hc dd_X8_isPlace_14 rfl ic_0 ?_
      exact hb_zret hc rfl (by decide) dd_X8_isPlace_15 h
    · replace h := h.2 z
      refine hb_iconst (q := 11) (v := 1) hc dd_X8_isPlace_10 rfl ic_1 ?_
      refine hb_goto (tg := 15) hc dd_X8_isPlace_11 (by decide) ?_
      exact hb_zret hc rfl (by decide) dd_X8_isPlace_15 h
theorem w_X8_isEnd {d : Nat} {M : Mm} {v0 : Int32} {K : Int32 → Mm → Prop}  (h : (v0 = 0 → (K 1 M)) ∧ (¬ v0 = 0 → ((¬ v0 = 1 → (K 0 M)) ∧ (v0 = 1 → (K 1 M))))) : ACi (d + 1) X8_isEnd [.int v0] M K := by
  refine AC.ofW (lv := [some (.int v0)]) pn_X8 (Nat.le_of_ble_eq_true rfl) (show lvLe _ [some (.int v0)] from (lvs lvz)) ?_
  intro p l e s m args below meth c G hc
  refine hb_iload_n (q := 1) hc dd_X8_isEnd_0 rfl rfl ?_
  refine hb_if_eq (q := 4) (tg := 9) hc dd_X8_isEnd_1 rfl (by decide) (fun z => ?_) (fun z => ?_)
  · replace h := h.1 z
    refine hb_iconst (q := 10) (v := 1) hc dd_X8_isEnd_9 rfl ic_1 ?_
    refine hb_goto (tg := 14) hc dd_X8_isEnd_10 (by decide) ?_
    exact hb_zret hc rfl (by decide) dd_X8_isEnd_14 h
  · replace h := h.2 z
    refine hb_iload_n (q := 5) hc dd_X8_isEnd_4 rfl rfl ?_
    refine hb_iconst (q := 6) (v := 1) hc dd_X8_isEnd_5 rfl ic_1 ?_
    refine hb_icmp_ne (q := 9) (tg := 13) hc dd_X8_isEnd_6 rfl (by decide) (fun z => ?_) (fun z => ?_)
    · replace h := h.1 z
      refine hb_iconst (q := 14) (v := 0) hc dd_X8_isEnd_13 rfl ic_0 ?_
      exact hb_zret hc rfl (by decide) dd_X8_isEnd_14 h
    · replace h := h.2 z
      refine hb_iconst (q := 10) (v := 1) hc dd_X8_isEnd_9 rfl ic_1 ?_
      refine hb_goto (tg := 14) hc dd_X8_isEnd_10 (by decide) ?_
      exact hb_zret hc rfl (by decide) dd_X8_isEnd_14 h
theorem w_X8_isNumber {d : Nat} {M : Mm} {v0 : Int32} {K : Int32 → Mm → Prop}  (h : (v0 < (-9999) → (K 0 M)) ∧ (¬ v0 < (-9999) → ((9999 < v0 → (K 0 M)) ∧ (¬ 9999 < v0 → (K 1 M))))) : ACi (d + 1) X8_isNumber [.int v0] M K := by
  refine AC.ofW (lv := [some (.int v0)]) pn_X8 (Nat.le_of_ble_eq_true rfl) (show lvLe _ [some (.int v0)] from (lvs lvz)) ?_
  intro p l e s m args below meth c G hc
  refine hb_iload_n (q := 1) hc dd_X8_isNumber_0 rfl rfl ?_
  refine hb_sipush (q := 4) (v := (-9999)) hc dd_X8_isNumber_1 rfl sp_m9999 ?_
  refine hb_icmp_lt (q := 7) (tg := 18) hc dd_X8_isNumber_4 rfl (by decide) (fun z => ?_) (fun z => ?_)
  · replace h := h.1 z
    refine hb_iconst (q := 19) (v := 0) hc dd_X8_isNumber_18 rfl ic_0 ?_
    exact hb_zret hc rfl (by decide) dd_X8_isNumber_19 h
  · replace h := h.2 z
    refine hb_iload_n (q := 8) hc dd_X8_isNumber_7 rfl rfl ?_
    refine hb_sipush (q := 11) (v := 9999) hc dd_X8_isNumber_8 rfl sp_9999 ?_
    refine hb_icmp_gt (q := 14) (tg := 18) hc dd_X8_isNumber_11 rfl (by decide) (fun z => ?_) (fun z => ?_)
    · replace h := h.1 z
      refine hb_iconst (q := 19) (v := 0) hc dd_X8_isNumber_18 rfl ic_0 ?_
      exact hb_zret hc rfl (by decide) dd_X8_isNumber_19 h
    · replace h := h.2 z
      refine hb_iconst (q := 15) (v := 1) hc dd_X8_isNumber_14 rfl ic_1 ?_
      refine hb_goto (tg := 19) hc dd_X8_isNumber_15 (by decide) ?_
      exact hb_zret hc rfl (by decide) dd_X8_isNumber_19 h
def lp_X8_lightsIn_10 (d : Nat) (M : Mm) (v0 : Int64) (v2 : Int64) (v4 : Int32) (v5 : Int32) (K : Int32 → Mm → Prop) : Prop := AW (d + 1) X8_lightsIn M 10 [some (.long v0), none, some (.long v2), none, some (.int v4), some (.int v5)] [] (QI K)
theorem z_X8_lightsIn_10 {d : Nat} {M : Mm} {v0 : Int64} {v2 : Int64} {v4 : Int32} {v5 : Int32} {K : Int32 → Mm → Prop}  (h : (6 ≤ v5 → (K v4 M)) ∧ (¬ 6 ≤ v5 → (((lg_cmp (v0 &&& (v2 <<< ((v5 * 8).toInt64 &&& 63))) 0) = 0 → (lp_X8_lightsIn_10 d M v0 v2 v4 (v5 + 1) K)) ∧ (¬ (lg_cmp (v0 &&& (v2 <<< ((v5 * 8).toInt64 &&& 63))) 0) = 0 → (lp_X8_lightsIn_10 d M v0 v2 (v4 ||| (1 <<< (v5 &&& 31))) (v5 + 1) K))))) : lp_X8_lightsIn_10 d M v0 v2 v4 v5 K := by
  intro p l e s m args below meth c G hc
  refine hb_iload (q := 12) hc dd_X8_lightsIn_10 rfl rfl ?_
  refine hb_bipush (q := 14) (v := 6) hc dd_X8_lightsIn_12 rfl bp_6 ?_
  refine hb_icmp_ge (q := 17) (tg := 46) hc dd_X8_lightsIn_14 rfl (by decide) (fun z => ?_) (fun z => ?_)
  · replace h := h.1 z
    refine hb_iload (q := 48) hc dd_X8_lightsIn_46 rfl rfl ?_
    exact hb_iret hc rfl dd_X8_lightsIn_48 h
  · replace h := h.2 z
    refine hb_lload_n (q := 18) hc dd_X8_lightsIn_17 rfl rfl ?_
    refine hb_lload_n (q := 19) hc dd_X8_lightsIn_18 rfl rfl ?_
    refine hb_iload (q := 21) hc dd_X8_lightsIn_19 rfl rfl ?_
    refine hb_bipush (q := 23) (v := 8) hc dd_X8_lightsIn_21 rfl bp_8 ?_
    refine hb_imul (q := 24) hc dd_X8_lightsIn_23 rfl ?_
    refine hb_lshl (q := 25) hc dd_X8_lightsIn_24 rfl ?_
    refine hb_land (q := 26) hc dd_X8_lightsIn_25 rfl ?_
    refine hb_lconst (q := 27) (v := 0) hc dd_X8_lightsIn_26 rfl lc_0 ?_
    refine hb_lcmp (q := 28) hc dd_X8_lightsIn_27 rfl ?_
    refine hb_if_eq (q := 31) (tg := 40) hc dd_X8_lightsIn_28 rfl (by decide) (fun z => ?_) (fun z => ?_)
    · replace h := h.1 z
      refine hb_iinc (q := 43) (v := v5 + 1) (lv' := [some (.long v0), none, some (.long v2), none, some (.int v4), some (.int (v5 + 1))]) hc dd_X8_lightsIn_40 rfl rfl rfl (Nat.le_of_ble_eq_true rfl) rfl ?_
      refine hb_goto (tg := 10) hc dd_X8_lightsIn_43 (by decide) ?_
      exact hb_weak (lvs (lvn (lvs (lvn (lvs (lvs lvz)))))) (h p l e s m args below meth c G hc)
    · replace h := h.2 z
      refine hb_iload (q := 33) hc dd_X8_lightsIn_31 rfl rfl ?_
      refine hb_iconst (q := 34) (v := 1) hc dd_X8_lightsIn_33 rfl ic_1 ?_
      refine hb_iload (q := 36) hc dd_X8_lightsIn_34 rfl rfl ?_
      refine hb_ishl (q := 37) hc dd_X8_lightsIn_36 rfl ?_
      refine hb_ior (q := 38) hc dd_X8_lightsIn_37 rfl ?_
      refine hb_istore (q := 40) (lv' := [some (.long v0), none, some (.long v2), none, some (.int (v4 ||| (1 <<< (v5 &&& 31)))), some (.int v5)]) hc dd_X8_lightsIn_38 rfl (Nat.le_of_ble_eq_true rfl) rfl ?_
      refine hb_iinc (q := 43) (v := v5 + 1) (lv' := [some (.long v0), none, some (.long v2), none, some (.int (v4 ||| (1 <<< (v5 &&& 31)))), some (.int (v5 + 1))]) hc dd_X8_lightsIn_40 rfl rfl rfl (Nat.le_of_ble_eq_true rfl) rfl ?_
      refine hb_goto (tg := 10) hc dd_X8_lightsIn_43 (by decide) ?_
      exact hb_weak (lvs (lvn (lvs (lvn (lvs (lvs lvz)))))) (h p l e s m args below meth c G hc)
theorem w_X8_lightsIn {d : Nat} {M : Mm} {v0 : Int64} {K : Int32 → Mm → Prop}  (h : lp_X8_lightsIn_10 d M v0 255 0 0 K) : ACi (d + 1) X8_lightsIn [.long v0] M K := by
  refine AC.ofW (lv := [some (.long v0), none, none, none, none, none]) pn_X8 (Nat.le_of_ble_eq_true rfl) (show lvLe _ [some (.long v0), none] from (lvs (lvn (lve (lve (lve (lve lvz))))))) ?_
  intro p l e s m args below meth c G hc
  refine hb_ldc2 (q := 3) (v := 255) hc dd_X8_lightsIn_0 rfl iw_711 ?_
  refine hb_lstore_n (q := 4) (lv' := [some (.long v0), none, some (.long 255), none, none, none]) hc dd_X8_lightsIn_3 rfl (Nat.le_of_ble_eq_true rfl) rfl ?_
  refine hb_iconst (q := 5) (v := 0) hc dd_X8_lightsIn_4 rfl ic_0 ?_
  refine hb_istore (q := 7) (lv' := [some (.long v0), none, some (.long 255), none, some (.int 0), none]) hc dd_X8_lightsIn_5 rfl (Nat.le_of_ble_eq_true rfl) rfl ?_
  refine hb_iconst (q := 8) (v := 0) hc dd_X8_lightsIn_7 rfl ic_0 ?_
  refine hb_istore (q := 10) (lv' := [some (.long v0), none, some (.long 255), none, some (.int 0), some (.int 0)]) hc dd_X8_lightsIn_8 rfl (Nat.le_of_ble_eq_true rfl) rfl ?_
  exact hb_weak (lvs (lvn (lvs (lvn (lvs (lvs lvz)))))) (h p l e s m args below meth c G hc)
