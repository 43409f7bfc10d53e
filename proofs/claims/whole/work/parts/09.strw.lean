/-! The JDK's String members over the literals. -/
theorem pn_J0 : plainName RJ0 = true := by decide +kernel
theorem pn_J1 : plainName RJ1 = true := by decide +kernel
theorem pn_J3 : plainName RJ3 = true := by decide +kernel
theorem ws_coder {d : Nat} {M : Mm} {i : Nat} {K : Int32 → Mm → Prop} (hi : i < 6) (h : K 0 M) : ACi (d + 1) J0_coder_7d493 [.ref (1000 + i)] M K := by
  refine AC.ofW (lv := [some (.ref (1000 + i))]) pn_J0 (Nat.le_of_ble_eq_true rfl) (show lvLe _ [some (.ref (1000 + i))] from lvs lvz) ?_
  intro p l e s m args below meth c G hc
  refine hb_gsC (q := 3) hc iw_406 dd_J0_coder_7d493_0 rfl ?_
  refine hb_if_eq (q := 6) (tg := 13) hc dd_J0_coder_7d493_3 rfl (by decide) (fun z => absurd z (by decide)) (fun _ => ?_)
  refine hb_aload_n (q := 7) hc dd_J0_coder_7d493_6 rfl rfl ?_
  refine hb_sgetC (q := 10) hc hi iw_1287 dd_J0_coder_7d493_7 rfl ?_
  refine hb_goto (tg := 14) hc dd_J0_coder_7d493_10 (by decide) ?_
  exact hb_nret hc rfl (by decide) dd_J0_coder_7d493_14 h
theorem ws_length {d : Nat} {M : Mm} {i : Nat} {K : Int32 → Mm → Prop} (hi : i < 6) (h : K (nI (strN.getD i 0)) M) : ACi (d + 2) J0_length_8abf5 [.ref (1000 + i)] M K := by
  refine AC.ofW (lv := [some (.ref (1000 + i))]) pn_J0 (Nat.le_of_ble_eq_true rfl) (show lvLe _ [some (.ref (1000 + i))] from lvs lvz) ?_
  intro p l e s m args below meth c G hc
  refine hb_aload_n (q := 1) hc dd_J0_length_8abf5_0 rfl rfl ?_
  refine hb_sget (q := 4) hc hi iw_1286 dd_J0_length_8abf5_1 rfl ?_
  refine hb_slenA (q := 5) hc hi dd_J0_length_8abf5_4 rfl ?_
  refine hb_aload_n (q := 6) hc dd_J0_length_8abf5_5 rfl rfl ?_
  refine hb_callVsi (q := 9) (vs := []) (st := [.int (nI (strN.getD i 0))]) (K := fun r M' => r = 0 ∧ M' = M) hc hi mv_J0_335 rfl (ws_coder hi ⟨rfl, rfl⟩) rfl rfl (Nat.le_of_ble_eq_true rfl) ⟨Nat.le_refl _, Nat.le_refl _⟩ ⟨Nat.le_refl _, Nat.le_refl _⟩ dd_J0_length_8abf5_6 rfl (fun r M' hr => ?_)
  obtain ⟨rfl, rfl⟩ := hr
  refine hb_ishr (q := 10) hc dd_J0_length_8abf5_9 rfl ?_
  have e : nI (strN.getD i 0) >>> ((0 : Int32) &&& 31) = nI (strN.getD i 0) := sb_shr0 _
  rw [e]
  exact hb_iret hc rfl dd_J0_length_8abf5_10 h
theorem ws_isLatin1 {d : Nat} {M : Mm} {i : Nat} {K : Int32 → Mm → Prop} (hi : i < 6) (h : K 1 M) : ACi (d + 1) J0_isLatin1_aae02 [.ref (1000 + i)] M K := by
  refine AC.ofW (lv := [some (.ref (1000 + i))]) pn_J0 (Nat.le_of_ble_eq_true rfl) (show lvLe _ [some (.ref (1000 + i))] from lvs lvz) ?_
  intro p l e s m args below meth c G hc
  refine hb_gsC (q := 3) hc iw_406 dd_J0_isLatin1_aae02_0 rfl ?_
  refine hb_if_eq (q := 6) (tg := 17) hc dd_J0_isLatin1_aae02_3 rfl (by decide) (fun z => absurd z (by decide)) (fun _ => ?_)
  refine hb_aload_n (q := 7) hc dd_J0_isLatin1_aae02_6 rfl rfl ?_
  refine hb_sgetC (q := 10) hc hi iw_1287 dd_J0_isLatin1_aae02_7 rfl ?_
  refine hb_if_ne (q := 13) (tg := 17) hc dd_J0_isLatin1_aae02_10 rfl (by decide) (fun z => absurd rfl z) (fun _ => ?_)
  refine hb_iconst (q := 14) (v := 1) hc dd_J0_isLatin1_aae02_13 rfl ic_1 ?_
  refine hb_goto (tg := 18) hc dd_J0_isLatin1_aae02_14 (by decide) ?_
  exact hb_zret hc rfl (by decide) dd_J0_isLatin1_aae02_18 h
theorem ws_check3 {d : Nat} {M : Mm} {x n : Int32} {f : Value} {K : Int32 → Mm → Prop} (hf : f = .null ∨ f = .ref 3000) (h1 : ¬ x < 0) (h2 : x < n) (h : K x M) : ACi (d + 1) J3_checkIndex_8e157 [.int x, .int n, f] M K := by
  have e : lvArgs [.int x, .int n, f] = [some (.int x), some (.int n), some f] := by rcases hf with rfl | rfl <;> rfl
  refine AC.ofW (lv := [some (.int x), some (.int n), some f]) pn_J3 (by rcases hf with rfl | rfl <;> exact Nat.le_of_ble_eq_true rfl) (by rw [e]; exact lvs (lvs (lvs lvz))) ?_
  intro p l e s m args below meth c G hc
  refine hb_iload_n (q := 1) hc dd_J3_checkIndex_8e157_0 rfl rfl ?_
  refine hb_if_lt (q := 4) (tg := 9) hc dd_J3_checkIndex_8e157_1 rfl (by decide) (fun z => absurd z h1) (fun _ => ?_)
  refine hb_iload_n (q := 5) hc dd_J3_checkIndex_8e157_4 rfl rfl ?_
  refine hb_iload_n (q := 6) hc dd_J3_checkIndex_8e157_5 rfl rfl ?_
  refine hb_icmp_lt (q := 9) (tg := 16) hc dd_J3_checkIndex_8e157_6 rfl (by decide) (fun _ => ?_) (fun z => absurd h2 z)
  refine hb_iload_n (q := 17) hc dd_J3_checkIndex_8e157_16 rfl rfl ?_
  exact hb_iret hc rfl dd_J3_checkIndex_8e157_17 h
theorem ws_check0 {d : Nat} {M : Mm} {x n : Int32} {K : Mm → Prop} (h1 : ¬ x < 0) (h2 : x < n) (h : K M) : ACv (d + 2) J0_checkIndex_df160 [.int x, .int n] M K := by
  refine AC.ofW (lv := [some (.int x), some (.int n)]) pn_J0 (Nat.le_of_ble_eq_true rfl) (show lvLe _ [some (.int x), some (.int n)] from lvs (lvs lvz)) ?_
  intro p l e s m args below meth c G hc
  refine hb_iload_n (q := 1) hc dd_J0_checkIndex_df160_0 rfl rfl ?_
  refine hb_iload_n (q := 2) hc dd_J0_checkIndex_df160_1 rfl rfl ?_
  refine hb_gsF (q := 5) hc iw_422 dd_J0_checkIndex_df160_2 rfl ?_ ?_
  · refine hb_callSi (q := 8) (vs := [.int x, .int n, .null]) (st := []) (K := fun r M' => r = x ∧ M' = M) hc mv_J0_1059 (ws_check3 (Or.inl rfl) h1 h2 ⟨rfl, rfl⟩) rfl rfl (Nat.le_of_ble_eq_true rfl) ⟨Nat.le_refl _, Nat.le_refl _⟩ ⟨Nat.le_refl _, Nat.le_refl _⟩ dd_J0_checkIndex_df160_5 rfl (fun r M' hr => ?_)
    obtain ⟨rfl, rfl⟩ := hr
    refine hb_pop (q := 9) hc dd_J0_checkIndex_df160_8 rfl rfl ?_
    exact hb_vret hc rfl dd_J0_checkIndex_df160_9 h
  · refine hb_callSi (q := 8) (vs := [.int x, .int n, .ref 3000]) (st := []) (K := fun r M' => r = x ∧ M' = M) hc mv_J0_1059 (ws_check3 (Or.inr rfl) h1 h2 ⟨rfl, rfl⟩) rfl rfl (Nat.le_of_ble_eq_true rfl) ⟨Nat.le_refl _, Nat.le_refl _⟩ ⟨Nat.le_refl _, Nat.le_refl _⟩ dd_J0_checkIndex_df160_5 rfl (fun r M' hr => ?_)
    obtain ⟨rfl, rfl⟩ := hr
    refine hb_pop (q := 9) hc dd_J0_checkIndex_df160_8 rfl rfl ?_
    exact hb_vret hc rfl dd_J0_checkIndex_df160_9 h
theorem strB_and : ∀ i, i < 6 → ∀ j, j < strN.getD i 0 → (strB.getD i []).getD j 0 &&& 255 = (strB.getD i []).getD j 0 := by decide +kernel
theorem ws_charAt1 {d : Nat} {M : Mm} {i j : Nat} {K : Int32 → Mm → Prop} (hi : i < 6) (hj : j < strN.getD i 0) (h : K ((strB.getD i []).getD j 0) M) : ACi (d + 3) J1_charAt_3b067 [.ref (2000 + i), .int (nI j)] M K := by
  have hs : ∀ i, i < 6 → strN.getD i 0 < 100 := by decide +kernel
  have hsi := hs i hi
  refine AC.ofW (lv := [some (.ref (2000 + i)), some (.int (nI j))]) pn_J1 (Nat.le_of_ble_eq_true rfl) (show lvLe _ [some (.ref (2000 + i)), some (.int (nI j))] from lvs (lvs lvz)) ?_
  intro p l e s m args below meth c G hc
  refine hb_iload_n (q := 1) hc dd_J1_charAt_3b067_0 rfl rfl ?_
  refine hb_aload_n (q := 2) hc dd_J1_charAt_3b067_1 rfl rfl ?_
  refine hb_slenA (q := 3) hc hi dd_J1_charAt_3b067_2 rfl ?_
  refine hb_callSv (q := 6) (vs := [.int (nI j), .int (nI (strN.getD i 0))]) (st := []) (K := fun M' => M' = M) hc mv_J1_9 (ws_check0 (nI_pos (by omega)) (nI_lt hj (by omega)) rfl) rfl rfl (Nat.le_of_ble_eq_true rfl) ⟨Nat.le_refl _, Nat.le_refl _⟩ ⟨Nat.le_refl _, Nat.le_refl _⟩ dd_J1_charAt_3b067_3 rfl (fun M' hr => ?_)
  subst hr
  refine hb_aload_n (q := 7) hc dd_J1_charAt_3b067_6 rfl rfl ?_
  refine hb_iload_n (q := 8) hc dd_J1_charAt_3b067_7 rfl rfl ?_
  refine hb_sald (q := 9) hc hi (vp_in_nI hj (by omega)) dd_J1_charAt_3b067_8 rfl ?_
  rw [nI_clamp (by omega)]
  refine hb_sipush (q := 12) (v := 255) hc dd_J1_charAt_3b067_9 rfl (by decide) ?_
  refine hb_iand (q := 13) hc dd_J1_charAt_3b067_12 rfl ?_
  refine hb_i2c (q := 14) hc dd_J1_charAt_3b067_13 rfl (sc_c2 _) ?_
  rw [strB_and i hi j hj]
  refine hb_nret hc rfl ?_ dd_J1_charAt_3b067_14 h
  have := sc_nar ((strB.getD i []).getD j 0)
  rw [strB_and i hi j hj] at this
  exact this
theorem ws_charAt {d : Nat} {M : Mm} {i j : Nat} {K : Int32 → Mm → Prop} (hi : i < 6) (hj : j < strN.getD i 0) (h : K ((strB.getD i []).getD j 0) M) : ACi (d + 4) J0_charAt_5068e [.ref (1000 + i), .int (nI j)] M K := by
  refine AC.ofW (lv := [some (.ref (1000 + i)), some (.int (nI j))]) pn_J0 (Nat.le_of_ble_eq_true rfl) (show lvLe _ [some (.ref (1000 + i)), some (.int (nI j))] from lvs (lvs lvz)) ?_
  intro p l e s m args below meth c G hc
  refine hb_aload_n (q := 1) hc dd_J0_charAt_5068e_0 rfl rfl ?_
  refine hb_callVsi (q := 4) (vs := []) (st := []) (K := fun r M' => r = 1 ∧ M' = M) hc hi mv_J0_492 rfl (ws_isLatin1 hi ⟨rfl, rfl⟩) rfl rfl (Nat.le_of_ble_eq_true rfl) ⟨Nat.le_refl _, Nat.le_refl _⟩ ⟨Nat.le_refl _, Nat.le_refl _⟩ dd_J0_charAt_5068e_1 rfl (fun r M' hr => ?_)
  obtain ⟨rfl, rfl⟩ := hr
  refine hb_if_eq (q := 7) (tg := 16) hc dd_J0_charAt_5068e_4 rfl (by decide) (fun z => absurd z (by decide)) (fun _ => ?_)
  refine hb_aload_n (q := 8) hc dd_J0_charAt_5068e_7 rfl rfl ?_
  refine hb_sget (q := 11) hc hi iw_1286 dd_J0_charAt_5068e_8 rfl ?_
  refine hb_iload_n (q := 12) hc dd_J0_charAt_5068e_11 rfl rfl ?_
  refine hb_callSi (q := 15) (vs := [.ref (2000 + i), .int (nI j)]) (st := []) (K := fun r N => r = (strB.getD i []).getD j 0 ∧ N = M') hc mv_J0_495 (ws_charAt1 hi hj ⟨rfl, rfl⟩) rfl rfl (Nat.le_of_ble_eq_true rfl) ⟨Nat.le_refl _, Nat.le_refl _⟩ ⟨Nat.le_refl _, Nat.le_refl _⟩ dd_J0_charAt_5068e_12 rfl (fun r N hr => ?_)
  obtain ⟨rfl, rfl⟩ := hr
  refine hb_nret hc rfl ?_ dd_J0_charAt_5068e_15 h
  have := sc_nar ((strB.getD i []).getD j 0)
  rw [strB_and i hi j hj] at this
  exact this
