/-! THE LAW: its loop, its premises, its start. -/
theorem law_loop {p : Program} {l : Launch} {e : Env} {s : State} {m : MethodId} {below : List Frame} {meth : Method} {c : Code} {G : Gm} {b L : Nat} {xs : Nat → Int32} (hc : CX p s m #[Value.ref b] meth c G (fun q : Nat => s.heap.size ≤ q) L_law) (hX : va_X b L xs s s.heap) (hbl : b < s.heap.size) (hro : G.2.1 4000 = b) (hL : L ≤ 2048) (hr : meth.sig.returnType = ret) : ∀ (n i : Nat) (M : Mm), i ≤ L → L - i ≤ n → Inv M → BW p l e room_1 s m #[Value.ref b] below meth c G (fun q : Nat => s.heap.size ≤ q) 65 2272 (lw_Z below #[Value.ref b] s) L_law M 18 (LvL i) [] := by
  have hbA : ¬ (fun q : Nat => s.heap.size ≤ q) b := Nat.not_le.mpr hbl
  intro n
  induction n with
  | zero =>
    intro i M hi hn hI
    refine hb_iload_n (q := 19) hc dd_L_law_18 rfl rfl ?_
    refine hb_aload_n (q := 20) hc dd_L_law_19 rfl rfl ?_
    refine hb_slen (q := 21) hc hX hbl hbA hro dd_L_law_20 rfl ?_
    refine hb_iconst (q := 22) (v := 4) hc dd_L_law_21 rfl (by decide) ?_
    refine hb_isub (q := 23) hc dd_L_law_22 rfl ?_
    refine hb_icmp_gt (q := 26) (tg := 997) hc dd_L_law_23 rfl (by decide) (fun _ => ?_) (fun h => ?_)
    · refine hb_iconst (q := 998) (v := 1) hc dd_L_law_997 rfl (by decide) ?_
      intro H locs ls hP hS hl
      exact va_forget (fun q hq => hS.2.2 q hq) (W.widen (k := 600000) (n := 7302250) (Nat.le_of_ble_eq_true rfl) (Nat.le_of_ble_eq_true rfl) (lw_ret hc.1 hc.2.1 hr hc.2.2.2.2.2.2.1 dd_L_law_998))
    · have := law_more hL hi h
      omega
  | succ n ih =>
    intro i M hi hn hI
    refine hb_iload_n (q := 19) hc dd_L_law_18 rfl rfl ?_
    refine hb_aload_n (q := 20) hc dd_L_law_19 rfl rfl ?_
    refine hb_slen (q := 21) hc hX hbl hbA hro dd_L_law_20 rfl ?_
    refine hb_iconst (q := 22) (v := 4) hc dd_L_law_21 rfl (by decide) ?_
    refine hb_isub (q := 23) hc dd_L_law_22 rfl ?_
    refine hb_icmp_gt (q := 26) (tg := 997) hc dd_L_law_23 rfl (by decide) (fun _ => ?_) (fun h => ?_)
    · refine hb_iconst (q := 998) (v := 1) hc dd_L_law_997 rfl (by decide) ?_
      intro H locs ls hP hS hl
      exact va_forget (fun q hq => hS.2.2 q hq) (W.widen (k := 600000) (n := 7302250) (Nat.le_of_ble_eq_true rfl) (Nat.le_of_ble_eq_true rfl) (lw_ret hc.1 hc.2.1 hr hc.2.2.2.2.2.2.1 dd_L_law_998))
    · have h4 := law_more hL hi h
      refine law_turn hc hX hbl hbA hro hL h4 ⟨Nat.le_of_ble_eq_true rfl, Nat.le_of_ble_eq_true rfl⟩ ⟨Nat.le_of_ble_eq_true rfl, Nat.le_of_ble_eq_true rfl⟩ hI (fun M' hI' => ?_)
      refine hb_iinc (q := 994) (v := nI (i + 4)) (lv' := LvL (i + 4)) hc dd_L_law_991 rfl rfl (nI_add i 4) (by decide) rfl ?_
      refine hb_goto (tg := 18) hc dd_L_law_994 (by decide) ?_
      exact ih (i + 4) M' h4 (by omega) hI' 
theorem nx_of {s : State} {args : Array Value} (hts : ∀ w ∈ lw_tbl, w.before args s = true) : NX s := ⟨va_Nw.of rfl (hts _ (List.mem_of_getElem? (i := 94) (by decide +kernel))), va_Nw.of rfl (hts _ (List.mem_of_getElem? (i := 125) (by decide +kernel))), va_Nw.of rfl (hts _ (List.mem_of_getElem? (i := 191) (by decide +kernel))), va_Nw.of rfl (hts _ (List.mem_of_getElem? (i := 194) (by decide +kernel))), va_Nw.of rfl (hts _ (List.mem_of_getElem? (i := 214) (by decide +kernel))), va_Nw.of rfl (hts _ (List.mem_of_getElem? (i := 244) (by decide +kernel))), va_Nw.of rfl (hts _ (List.mem_of_getElem? (i := 273) (by decide +kernel))), va_Nw.of rfl (hts _ (List.mem_of_getElem? (i := 297) (by decide +kernel))), va_AO.of (hts _ (List.mem_of_getElem? (i := 295) (by decide +kernel)))⟩
theorem nw_m {s : State} {args : Array Value} (hts : ∀ w ∈ lw_tbl, w.before args s = true) : va_Nw (.methodLinkNest RX3 71 yX8_lightsIn RX8) s := va_Nw.of rfl (hts _ (List.mem_of_getElem? (i := 708) (by decide +kernel)))
theorem nw_w {s : State} {args : Array Value} (hts : ∀ w ∈ lw_tbl, w.before args s = true) : va_Nw (.methodLinkNest RX7 35 yX8_lightsIn RX8) s := va_Nw.of rfl (hts _ (List.mem_of_getElem? (i := 762) (by decide +kernel)))
theorem kn_all {s : State} {args : Array Value} (hGW : ∀ w ∈ GW, w.before args s = true) : ∃ D : va_G, ∀ (cn : Nat) (q : vw_C), classes[cn]? = some q → u_Kn s q.1 q.2.1 q.2.2 (D.1 cn) (D.2 cn) := by
  obtain ⟨c0, i0, h0⟩ := u_known (C := RX0) (T := TX0) (N := 6) (n := 6) hGW ckX0.2.1 (hGW _ iw_118)
  obtain ⟨c1, i1, h1⟩ := u_known (C := RX1) (T := TX1) (N := 4) (n := 4) hGW ckX1.2.1 (hGW _ iw_193)
  obtain ⟨c2, i2, h2⟩ := u_known (C := RX2) (T := TX2) (N := 4) (n := 4) hGW ckX2.2.1 (hGW _ iw_124)
  obtain ⟨c3, i3, h3⟩ := u_known (C := RX3) (T := TX3) (N := 7) (n := 7) hGW ckX3.2.1 (hGW _ iw_243)
  obtain ⟨c4, i4, h4⟩ := u_known (C := RX4) (T := TX4) (N := 7) (n := 7) hGW ckX4.2.1 (hGW _ iw_213)
  obtain ⟨c5, i5, h5⟩ := u_known (C := RX5) (T := TX5) (N := 3) (n := 3) hGW ckX5.2.1 (hGW _ iw_296)
  obtain ⟨c6, i6, h6⟩ := u_known (C := RX6) (T := TX6) (N := 5) (n := 5) hGW ckX6.2.1 (hGW _ iw_93)
  obtain ⟨c7, i7, h7⟩ := u_known (C := RX7) (T := TX7) (N := 5) (n := 5) hGW ckX7.2.1 (hGW _ iw_272)
  obtain ⟨c8, i8, h8⟩ := u_known (C := RX8) (T := TX8) (N := 11) (n := 11) hGW ckX8.2.1 (hGW _ iw_85)
  obtain ⟨c9, i9, h9⟩ := u_known (C := RX9) (T := TX9) (N := 38) (n := 38) hGW ckX9.2.1 (hGW _ iw_862)
  refine ⟨(fun k => [c0, c1, c2, c3, c4, c5, c6, c7, c8, c9].getD k c0, fun k => [i0, i1, i2, i3, i4, i5, i6, i7, i8, i9].getD k i0), fun cn q hq => ?_⟩
  match cn, hq with
  | 0, hq => cases hq; exact h0
  | 1, hq => cases hq; exact h1
  | 2, hq => cases hq; exact h2
  | 3, hq => cases hq; exact h3
  | 4, hq => cases hq; exact h4
  | 5, hq => cases hq; exact h5
  | 6, hq => cases hq; exact h6
  | 7, hq => cases hq; exact h7
  | 8, hq => cases hq; exact h8
  | 9, hq => cases hq; exact h9
  | k + 10, hq => simp [classes] at hq
def stm (i : Nat) : Term := .string RX6 ((strL.map (fun q => q.2.1)).getD i 0)
abbrev prC : List Cond := flatC (Jvm.Cond.and given_1 narrow_1)
theorem sp_ex : ∀ i, i < 6 → Cond.exactly (stm i) "java/lang/String" ∈ prC := by decide +kernel
theorem sp_co : ∀ i, i < 6 → Cond.eq (.field (stm i) "java/lang/String" "coder" "B") (.int 0) ∈ prC := by decide +kernel
theorem sp_ar : ∀ i, i < 6 → Cond.arrayOf (.field (stm i) "java/lang/String" "value" "[B") .byte ∈ prC := by decide +kernel
theorem sp_le : ∀ i, i < 6 → Cond.eq (.length (.field (stm i) "java/lang/String" "value" "[B")) (.int (Int32.ofNat (strN.getD i 0))) ∈ prC := by decide +kernel
theorem sp_el : ∀ i, i < 6 → ∀ j, j < strN.getD i 0 → Cond.eq (.elem (.field (stm i) "java/lang/String" "value" "[B") (.int (Int32.ofNat j))) (.int ((strB.getD i []).getD j 0)) ∈ prC := by decide +kernel
theorem sp_ne : ∀ i, i < 6 → ∀ j, j < 6 → i ≠ j → Cond.not (Cond.eq (stm i) (stm j)) ∈ prC ∨ Cond.not (Cond.eq (stm j) (stm i)) ∈ prC := by decide +kernel
theorem sp_cs : Cond.eq (.static "java/lang/String" "COMPACT_STRINGS" "Z") (.int 1) ∈ prC := by decide +kernel
theorem sp_fm : Cond.isRef (.static "jdk/internal/util/Preconditions" "SIOOBE_FORMATTER" "Ljava/util/function/BiFunction;") ∈ prC := by decide +kernel
theorem st_words : ∀ (i : Nat) (q : String × Nat × String), strL[i]? = some q → Cond.stringRef q.1 q.2.1 q.2.2 ∈ lw_tbl := by
  intro i q hq
  match i, hq with
  | 0, hq => cases hq; exact (List.mem_of_getElem? (i := 393) (by decide +kernel))
  | 1, hq => cases hq; exact (List.mem_of_getElem? (i := 455) (by decide +kernel))
  | 2, hq => cases hq; exact (List.mem_of_getElem? (i := 460) (by decide +kernel))
  | 3, hq => cases hq; exact (List.mem_of_getElem? (i := 465) (by decide +kernel))
  | 4, hq => cases hq; exact (List.mem_of_getElem? (i := 474) (by decide +kernel))
  | 5, hq => cases hq; exact (List.mem_of_getElem? (i := 483) (by decide +kernel))
  | k + 6, hq => simp [strL] at hq
theorem ks_all {s : State} {b : Nat} (hts : ∀ w ∈ lw_tbl, w.before #[Value.ref b] s = true) (hgv : (Jvm.Cond.and given_1 narrow_1).before #[Value.ref b] s = true) : ∃ (adK adV : Nat → Nat) (fm : Nat), ∀ G : Gm, (∀ i, i < 6 → G.2.1 (1000 + i) = adK i ∧ G.2.1 (2000 + i) = adV i) → G.2.1 3000 = fm → KS G (fun q : Nat => s.heap.size ≤ q) s s.heap := by
  have hs := flat_of_before _ hgv
  have hA : ∀ a : Nat, a < s.heap.size → ¬ (fun q : Nat => s.heap.size ≤ q) a := fun a h => Nat.not_le.mpr h
  obtain ⟨adK, adV, h1, h2⟩ := vk_Sof (N := 6) (tm := stm) (len := strN) (byt := strB) (A := fun q : Nat => s.heap.size ≤ q) (by decide) (fun i hi => hs _ (sp_ex i hi)) (fun i hi => hs _ (sp_co i hi)) (fun i hi => hs _ (sp_ar i hi)) (fun i hi => hs _ (sp_le i hi)) (fun i hi j hj => hs _ (sp_el i hi j hj)) (fun i j hi hj hn => (sp_ne i hi j hj hn).elim (fun h => Or.inl (hs _ h)) (fun h => Or.inr (hs _ h))) hA
  have h3 : va_Z "java/lang/String" "COMPACT_STRINGS" "Z" (.int 1) (fun q : Nat => s.heap.size ≤ q) s s.heap := va_Zof (hts _ (List.mem_of_getElem? (i := 407) (by decide +kernel))) (hts _ (List.mem_of_getElem? (i := 77) (by decide +kernel))) (va_eqt (hs _ sp_cs)) hA
  have h4 : va_Zq "jdk/internal/util/Preconditions" "SIOOBE_FORMATTER" "Ljava/util/function/BiFunction;" (fun q : Nat => s.heap.size ≤ q) s s.heap := va_Zqof (hts _ (List.mem_of_getElem? (i := 423) (by decide +kernel))) (hts _ (List.mem_of_getElem? (i := 79) (by decide +kernel))) (hs _ sp_fm) hA
  have hR : ∀ (ro : Nat → Nat), (∀ i, i < 6 → ro i = adK i) → ∀ (i : Nat) (q : String × Nat × String), strL[i]? = some q → vk_R q.1 q.2.1 q.2.2 (ro i) s := by
    intro ro hro i q hq
    have h5 := hts _ (st_words i q hq)
    have hi : i < 6 := (List.getElem?_eq_some_iff.mp hq).1
    have h6 := h2 i hi
    rw [← hro i hi] at h6
    match i, hq, h5, h6 with
    | 0, hq, h5, h6 => cases hq; exact vk_R.of h5 h6
    | 1, hq, h5, h6 => cases hq; exact vk_R.of h5 h6
    | 2, hq, h5, h6 => cases hq; exact vk_R.of h5 h6
    | 3, hq, h5, h6 => cases hq; exact vk_R.of h5 h6
    | 4, hq, h5, h6 => cases hq; exact vk_R.of h5 h6
    | 5, hq, h5, h6 => cases hq; exact vk_R.of h5 h6
    | k + 6, hq, _, _ => simp [strL] at hq
  obtain ⟨fm, h4⟩ : ∃ fm : Nat, va_Z "jdk/internal/util/Preconditions" "SIOOBE_FORMATTER" "Ljava/util/function/BiFunction;" .null (fun q : Nat => s.heap.size ≤ q) s s.heap ∨ va_Z "jdk/internal/util/Preconditions" "SIOOBE_FORMATTER" "Ljava/util/function/BiFunction;" (.ref fm) (fun q : Nat => s.heap.size ≤ q) s s.heap := by
    rcases h4 with h | ⟨t, h⟩
    · exact ⟨0, Or.inl h⟩
    · exact ⟨t, Or.inr h⟩
  refine ⟨adK, adV, fm, fun G hG hf => ⟨⟨fun i hi => ?_, fun i j hi hj => ?_⟩, hR (fun i => G.2.1 (1000 + i)) (fun i hi => (hG i hi).1), h3, by rw [hf]; exact h4⟩⟩
  · show va_O "java/lang/String" (G.2.1 (1000 + i)) _ s s.heap ∧ va_OF "java/lang/String" "coder" "B" (.int 0) (G.2.1 (1000 + i)) _ s s.heap ∧ va_OF "java/lang/String" "value" "[B" (.ref (G.2.1 (2000 + i))) (G.2.1 (1000 + i)) _ s s.heap ∧ va_T .byte (G.2.1 (2000 + i)) _ _ _ s s.heap
    rw [(hG i hi).1, (hG i hi).2]
    exact h1.1 i hi
  · show G.2.1 (1000 + i) = G.2.1 (1000 + j) → i = j
    rw [(hG i hi).1, (hG j hj).1]
    exact h1.2 i j hi hj
/-- the two constructors -/
theorem law_init {p : Program} {l : Launch} {e : Env} {s : State} {m : MethodId} {below : List Frame} {meth : Method} {c : Code} {D : va_G} {A : Nat → Prop} {args : Array Value} {Q : State → Prop} {nm : String} {b : Nat} (hc : CY p s m args meth c A (LX nm)) (kk : ∀ (h0 m0 : Nat) (wx1 wx2 : va_W) (ty1 ty2 : Ty), P8 h0 wx1 ty1 → P9 m0 wx2 ty2 → CB p l e room_1 s m args below meth c D A 65 2272 Q (LX nm) [] (wx1 ++ wx2) (ty1 ++ ty2) 16 [some (.ref b), some (.ref h0), some (.ref m0), none] []) : CB p l e room_1 s m args below meth c D A 0 0 Q (LX nm) [] [] [] 0 [some (.ref b), none, none, none] [] := by
  refine cb_new (q := 3) (fs := dfX8) hc ckX8 iw_84 iw_85 iw_66 dfX8_ok dd_L_law_0 rfl ⟨Nat.le_of_ble_eq_true rfl, Nat.le_of_ble_eq_true rfl⟩ (fun h0 => ?_)
  refine cb_dup (q := 4) hc dd_L_law_3 rfl rfl ?_
  refine cb_callI (q := 7) (Y := X8_init) (h := h0) (wx1 := []) (wx2 := [(h0, .inr (8, dfX8))]) hc iw_86 iw_87 iw_66 iw_88 rfl rfl ⟨by decide +kernel, by decide +kernel, by decide +kernel⟩ (Nat.le_of_ble_eq_true rfl) (j_X8_init _ h0) rfl rfl (Nat.le_of_ble_eq_true rfl) ⟨Nat.le_of_ble_eq_true rfl, Nat.le_of_ble_eq_true rfl⟩ ⟨Nat.le_of_ble_eq_true rfl, Nat.le_of_ble_eq_true rfl⟩ dd_L_law_4 rfl (fun wx1 ty1 h8 => ?_)
  refine cb_astore_n (q := 8) (lv' := [some (.ref b), some (.ref h0), none, none]) hc dd_L_law_7 rfl (show 1 < 4 by decide) rfl ?_
  refine cb_new (q := 11) (fs := dfX9) hc ckX9 iw_861 iw_862 iw_75 dfX9_ok dd_L_law_8 rfl ⟨Nat.le_of_ble_eq_true rfl, Nat.le_of_ble_eq_true rfl⟩ (fun m0 => ?_)
  refine cb_dup (q := 12) hc dd_L_law_11 rfl rfl ?_
  refine cb_callI (q := 15) (Y := X9_init) (h := m0) (wx1 := wx1) (wx2 := [(m0, .inr (9, dfX9))]) hc iw_863 iw_864 iw_75 iw_865 rfl rfl ⟨by decide +kernel, by decide +kernel, by decide +kernel⟩ (Nat.le_of_ble_eq_true rfl) (j_X9_init _ m0) rfl rfl (Nat.le_of_ble_eq_true rfl) ⟨Nat.le_of_ble_eq_true rfl, Nat.le_of_ble_eq_true rfl⟩ ⟨Nat.le_of_ble_eq_true rfl, Nat.le_of_ble_eq_true rfl⟩ dd_L_law_12 rfl (fun wx2 ty2 h9 => ?_)
  refine cb_astore_n (q := 16) (lv' := [some (.ref b), some (.ref h0), some (.ref m0), none]) hc dd_L_law_15 rfl (show 2 < 4 by decide) rfl ?_
  exact kk h0 m0 wx1 wx2 ty1 ty2 h8 h9
