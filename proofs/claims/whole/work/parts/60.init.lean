/-! THE CONSTRUCTORS, by program. -/
theorem ht_X2_1 : ∀ (C : String) (T : u_T) (N : Nat), classes[2]? = some (C, T, N) → (T 1).1 = RX2 := by
  intro C T N h
  have e : (RX2, TX2, 4) = (C, T, N) := Option.some.inj h
  cases e
  rfl
theorem ht_X2_2 : ∀ (C : String) (T : u_T) (N : Nat), classes[2]? = some (C, T, N) → (T 2).1 = RX2 := by
  intro C T N h
  have e : (RX2, TX2, 4) = (C, T, N) := Option.some.inj h
  cases e
  rfl
set_option maxHeartbeats 4000000 in
set_option maxRecDepth 100000 in
theorem i_X2_init (wr : va_W) (h0 : Nat) : CC X2_init 1 2 12 [.ref h0] wr [(h0, .inr (2, dfX2))] [] (fun wx' tys' => ∃ (q1 : Nat) (c2 : ClassId) (q3 : Nat) (c4 : ClassId), wx' = [(h0, .inr (2, [.int 0, .ref q1, .ref q3, .int 0])), (q1, .inl (c2, 6, .inl (fun _ => 0))), (q3, .inl (c4, 6, .inl (fun _ => 0)))] ∧ tys' = [(c2, .int), (c4, .int)]) := by
  refine CC.ofW (lv := [some (.ref h0)]) (by decide +kernel) (Nat.le_of_ble_eq_true rfl) (show lvLe _ [some (.ref h0)] from lvs lvz) ?_
  intro p l e s m args below meth c D A hc
  refine cb_aload_n (q := 1) hc dd_X2_init_0 rfl rfl ?_
  refine cb_objInit (q := 4) hc iw_128 iw_90 iw_91 dd_X2_init_1 rfl (Nat.le_of_ble_eq_true rfl) (Nat.le_of_ble_eq_true rfl) ?_
  refine cb_aload_n (q := 5) hc dd_X2_init_4 rfl rfl ?_
  refine cb_bipush (q := 7) (v := 6) hc dd_X2_init_5 rfl (by decide) ?_
  refine cb_newI (q := 9) (N' := 6) hc iw_116 dd_X2_init_7 rfl (by decide) (by decide) (Nat.le_of_ble_eq_true rfl) ⟨Nat.le_of_ble_eq_true rfl, Nat.le_of_ble_eq_true rfl⟩ (fun q1 c2 => ?_)
  refine cb_putR (q := 12) (i := 0) hc fl_X2_9 ht_X2_1 rfl rfl (Nat.le_of_ble_eq_true rfl) rfl rfl dd_X2_init_9 rfl ?_
  refine cb_aload_n (q := 13) hc dd_X2_init_12 rfl rfl ?_
  refine cb_bipush (q := 15) (v := 6) hc dd_X2_init_13 rfl (by decide) ?_
  refine cb_newI (q := 17) (N' := 6) hc iw_116 dd_X2_init_15 rfl (by decide) (by decide) (Nat.le_of_ble_eq_true rfl) ⟨Nat.le_of_ble_eq_true rfl, Nat.le_of_ble_eq_true rfl⟩ (fun q3 c4 => ?_)
  refine cb_putR (q := 20) (i := 0) hc fl_X2_15 ht_X2_2 rfl rfl (Nat.le_of_ble_eq_true rfl) rfl rfl dd_X2_init_17 rfl ?_
  exact cb_vret hc rfl dd_X2_init_20 ⟨q1, c2, q3, c4, rfl, rfl⟩
theorem ht_X6_2 : ∀ (C : String) (T : u_T) (N : Nat), classes[6]? = some (C, T, N) → (T 2).1 = RX6 := by
  intro C T N h
  have e : (RX6, TX6, 5) = (C, T, N) := Option.some.inj h
  cases e
  rfl
set_option maxHeartbeats 4000000 in
set_option maxRecDepth 100000 in
theorem i_X6_init (wr : va_W) (h0 : Nat) : CC X6_init 1 1 200 [.ref h0] wr [(h0, .inr (6, dfX6))] [] (fun wx' tys' => ∃ (q1 : Nat) (c2 : ClassId), wx' = [(h0, .inr (6, [.int 0, .int 0, .ref q1, .int 0, .int 0])), (q1, .inl (c2, 200, .inl (fun _ => 0)))] ∧ tys' = [(c2, .int)]) := by
  refine CC.ofW (lv := [some (.ref h0)]) (by decide +kernel) (Nat.le_of_ble_eq_true rfl) (show lvLe _ [some (.ref h0)] from lvs lvz) ?_
  intro p l e s m args below meth c D A hc
  refine cb_aload_n (q := 1) hc dd_X6_init_0 rfl rfl ?_
  refine cb_objInit (q := 4) hc iw_97 iw_90 iw_91 dd_X6_init_1 rfl (Nat.le_of_ble_eq_true rfl) (Nat.le_of_ble_eq_true rfl) ?_
  refine cb_aload_n (q := 5) hc dd_X6_init_4 rfl rfl ?_
  refine cb_sipush (q := 8) (v := 200) hc dd_X6_init_5 rfl (by decide) ?_
  refine cb_newI (q := 10) (N' := 200) hc iw_116 dd_X6_init_8 rfl (by decide) (by decide) (Nat.le_of_ble_eq_true rfl) ⟨Nat.le_of_ble_eq_true rfl, Nat.le_of_ble_eq_true rfl⟩ (fun q1 c2 => ?_)
  refine cb_putR (q := 13) (i := 0) hc fl_X6_9 ht_X6_2 rfl rfl (Nat.le_of_ble_eq_true rfl) rfl rfl dd_X6_init_10 rfl ?_
  exact cb_vret hc rfl dd_X6_init_13 ⟨q1, c2, rfl, rfl⟩
theorem ht_X1_1 : ∀ (C : String) (T : u_T) (N : Nat), classes[1]? = some (C, T, N) → (T 1).1 = RX1 := by
  intro C T N h
  have e : (RX1, TX1, 4) = (C, T, N) := Option.some.inj h
  cases e
  rfl
theorem ht_X1_2 : ∀ (C : String) (T : u_T) (N : Nat), classes[1]? = some (C, T, N) → (T 2).1 = RX1 := by
  intro C T N h
  have e : (RX1, TX1, 4) = (C, T, N) := Option.some.inj h
  cases e
  rfl
theorem ht_X1_3 : ∀ (C : String) (T : u_T) (N : Nat), classes[1]? = some (C, T, N) → (T 3).1 = RX1 := by
  intro C T N h
  have e : (RX1, TX1, 4) = (C, T, N) := Option.some.inj h
  cases e
  rfl
set_option maxHeartbeats 4000000 in
set_option maxRecDepth 100000 in
theorem i_X1_init (wr : va_W) (h0 : Nat) : CC X1_init 1 3 24 [.ref h0] wr [(h0, .inr (1, dfX1))] [] (fun wx' tys' => ∃ (q1 : Nat) (c2 : ClassId) (q3 : Nat) (c4 : ClassId) (q5 : Nat) (c6 : ClassId), wx' = [(h0, .inr (1, [.int 0, .ref q1, .ref q3, .ref q5])), (q1, .inl (c2, 8, .inl (fun _ => 0))), (q3, .inl (c4, 8, .inl (fun _ => 0))), (q5, .inl (c6, 8, .inl (fun _ => 0)))] ∧ tys' = [(c2, .int), (c4, .int), (c6, .int)]) := by
  refine CC.ofW (lv := [some (.ref h0)]) (by decide +kernel) (Nat.le_of_ble_eq_true rfl) (show lvLe _ [some (.ref h0)] from lvs lvz) ?_
  intro p l e s m args below meth c D A hc
  refine cb_aload_n (q := 1) hc dd_X1_init_0 rfl rfl ?_
  refine cb_objInit (q := 4) hc iw_197 iw_90 iw_91 dd_X1_init_1 rfl (Nat.le_of_ble_eq_true rfl) (Nat.le_of_ble_eq_true rfl) ?_
  refine cb_aload_n (q := 5) hc dd_X1_init_4 rfl rfl ?_
  refine cb_bipush (q := 7) (v := 8) hc dd_X1_init_5 rfl (by decide) ?_
  refine cb_newI (q := 9) (N' := 8) hc iw_116 dd_X1_init_7 rfl (by decide) (by decide) (Nat.le_of_ble_eq_true rfl) ⟨Nat.le_of_ble_eq_true rfl, Nat.le_of_ble_eq_true rfl⟩ (fun q1 c2 => ?_)
  refine cb_putR (q := 12) (i := 0) hc fl_X1_9 ht_X1_1 rfl rfl (Nat.le_of_ble_eq_true rfl) rfl rfl dd_X1_init_9 rfl ?_
  refine cb_aload_n (q := 13) hc dd_X1_init_12 rfl rfl ?_
  refine cb_bipush (q := 15) (v := 8) hc dd_X1_init_13 rfl (by decide) ?_
  refine cb_newI (q := 17) (N' := 8) hc iw_116 dd_X1_init_15 rfl (by decide) (by decide) (Nat.le_of_ble_eq_true rfl) ⟨Nat.le_of_ble_eq_true rfl, Nat.le_of_ble_eq_true rfl⟩ (fun q3 c4 => ?_)
  refine cb_putR (q := 20) (i := 0) hc fl_X1_15 ht_X1_2 rfl rfl (Nat.le_of_ble_eq_true rfl) rfl rfl dd_X1_init_17 rfl ?_
  refine cb_aload_n (q := 21) hc dd_X1_init_20 rfl rfl ?_
  refine cb_bipush (q := 23) (v := 8) hc dd_X1_init_21 rfl (by decide) ?_
  refine cb_newI (q := 25) (N' := 8) hc iw_116 dd_X1_init_23 rfl (by decide) (by decide) (Nat.le_of_ble_eq_true rfl) ⟨Nat.le_of_ble_eq_true rfl, Nat.le_of_ble_eq_true rfl⟩ (fun q5 c6 => ?_)
  refine cb_putR (q := 28) (i := 0) hc fl_X1_18 ht_X1_3 rfl rfl (Nat.le_of_ble_eq_true rfl) rfl rfl dd_X1_init_25 rfl ?_
  exact cb_vret hc rfl dd_X1_init_28 ⟨q1, c2, q3, c4, q5, c6, rfl, rfl⟩
theorem ht_X4_1 : ∀ (C : String) (T : u_T) (N : Nat), classes[4]? = some (C, T, N) → (T 1).1 = RX4 := by
  intro C T N h
  have e : (RX4, TX4, 7) = (C, T, N) := Option.some.inj h
  cases e
  rfl
theorem ht_X4_4 : ∀ (C : String) (T : u_T) (N : Nat), classes[4]? = some (C, T, N) → (T 4).1 = RX4 := by
  intro C T N h
  have e : (RX4, TX4, 7) = (C, T, N) := Option.some.inj h
  cases e
  rfl
theorem ht_X4_5 : ∀ (C : String) (T : u_T) (N : Nat), classes[4]? = some (C, T, N) → (T 5).1 = RX4 := by
  intro C T N h
  have e : (RX4, TX4, 7) = (C, T, N) := Option.some.inj h
  cases e
  rfl
theorem ht_X4_6 : ∀ (C : String) (T : u_T) (N : Nat), classes[4]? = some (C, T, N) → (T 6).1 = RX4 := by
  intro C T N h
  have e : (RX4, TX4, 7) = (C, T, N) := Option.some.inj h
  cases e
  rfl
set_option maxHeartbeats 4000000 in
set_option maxRecDepth 100000 in
theorem i_X4_init (wr : va_W) (h0 : Nat) : CC X4_init 1 4 26 [.ref h0] wr [(h0, .inr (4, dfX4))] [] (fun wx' tys' => ∃ (q1 : Nat) (c2 : ClassId) (q3 : Nat) (c4 : ClassId) (q5 : Nat) (c6 : ClassId) (q7 : Nat) (c8 : ClassId), wx' = [(h0, .inr (4, [.int 0, .ref q1, .int 0, .int 0, .ref q3, .ref q5, .ref q7])), (q1, .inl (c2, 6, .inl (fun _ => 0))), (q3, .inl (c4, 6, .inl (fun _ => 0))), (q5, .inl (c6, 6, .inl (fun _ => 0))), (q7, .inl (c8, 8, .inl (fun _ => 0)))] ∧ tys' = [(c2, .int), (c4, .int), (c6, .int), (c8, .int)]) := by
  refine CC.ofW (lv := [some (.ref h0)]) (by decide +kernel) (Nat.le_of_ble_eq_true rfl) (show lvLe _ [some (.ref h0)] from lvs lvz) ?_
  intro p l e s m args below meth c D A hc
  refine cb_aload_n (q := 1) hc dd_X4_init_0 rfl rfl ?_
  refine cb_objInit (q := 4) hc iw_217 iw_90 iw_91 dd_X4_init_1 rfl (Nat.le_of_ble_eq_true rfl) (Nat.le_of_ble_eq_true rfl) ?_
  refine cb_aload_n (q := 5) hc dd_X4_init_4 rfl rfl ?_
  refine cb_bipush (q := 7) (v := 6) hc dd_X4_init_5 rfl (by decide) ?_
  refine cb_newI (q := 9) (N' := 6) hc iw_116 dd_X4_init_7 rfl (by decide) (by decide) (Nat.le_of_ble_eq_true rfl) ⟨Nat.le_of_ble_eq_true rfl, Nat.le_of_ble_eq_true rfl⟩ (fun q1 c2 => ?_)
  refine cb_putR (q := 12) (i := 0) hc fl_X4_9 ht_X4_1 rfl rfl (Nat.le_of_ble_eq_true rfl) rfl rfl dd_X4_init_9 rfl ?_
  refine cb_aload_n (q := 13) hc dd_X4_init_12 rfl rfl ?_
  refine cb_bipush (q := 15) (v := 6) hc dd_X4_init_13 rfl (by decide) ?_
  refine cb_newI (q := 17) (N' := 6) hc iw_116 dd_X4_init_15 rfl (by decide) (by decide) (Nat.le_of_ble_eq_true rfl) ⟨Nat.le_of_ble_eq_true rfl, Nat.le_of_ble_eq_true rfl⟩ (fun q3 c4 => ?_)
  refine cb_putR (q := 20) (i := 0) hc fl_X4_15 ht_X4_4 rfl rfl (Nat.le_of_ble_eq_true rfl) rfl rfl dd_X4_init_17 rfl ?_
  refine cb_aload_n (q := 21) hc dd_X4_init_20 rfl rfl ?_
  refine cb_bipush (q := 23) (v := 6) hc dd_X4_init_21 rfl (by decide) ?_
  refine cb_newI (q := 25) (N' := 6) hc iw_116 dd_X4_init_23 rfl (by decide) (by decide) (Nat.le_of_ble_eq_true rfl) ⟨Nat.le_of_ble_eq_true rfl, Nat.le_of_ble_eq_true rfl⟩ (fun q5 c6 => ?_)
  refine cb_putR (q := 28) (i := 0) hc fl_X4_18 ht_X4_5 rfl rfl (Nat.le_of_ble_eq_true rfl) rfl rfl dd_X4_init_25 rfl ?_
  refine cb_aload_n (q := 29) hc dd_X4_init_28 rfl rfl ?_
  refine cb_bipush (q := 31) (v := 8) hc dd_X4_init_29 rfl (by decide) ?_
  refine cb_newI (q := 33) (N' := 8) hc iw_116 dd_X4_init_31 rfl (by decide) (by decide) (Nat.le_of_ble_eq_true rfl) ⟨Nat.le_of_ble_eq_true rfl, Nat.le_of_ble_eq_true rfl⟩ (fun q7 c8 => ?_)
  refine cb_putR (q := 36) (i := 0) hc fl_X4_21 ht_X4_6 rfl rfl (Nat.le_of_ble_eq_true rfl) rfl rfl dd_X4_init_33 rfl ?_
  exact cb_vret hc rfl dd_X4_init_36 ⟨q1, c2, q3, c4, q5, c6, q7, c8, rfl, rfl⟩
theorem ht_X3_0 : ∀ (C : String) (T : u_T) (N : Nat), classes[3]? = some (C, T, N) → (T 0).1 = RX3 := by
  intro C T N h
  have e : (RX3, TX3, 7) = (C, T, N) := Option.some.inj h
  cases e
  rfl
theorem ht_X3_1 : ∀ (C : String) (T : u_T) (N : Nat), classes[3]? = some (C, T, N) → (T 1).1 = RX3 := by
  intro C T N h
  have e : (RX3, TX3, 7) = (C, T, N) := Option.some.inj h
  cases e
  rfl
set_option maxHeartbeats 4000000 in
set_option maxRecDepth 100000 in
theorem i_X3_init (wr : va_W) (h0 : Nat) : CC X3_init 1 2 304 [.ref h0] wr [(h0, .inr (3, dfX3))] [] (fun wx' tys' => ∃ (q1 : Nat) (c2 : ClassId) (q3 : Nat) (c4 : ClassId), wx' = [(h0, .inr (3, [.ref q1, .ref q3, .int 0, .int 0, .long 0, .long 0, .long 0])), (q1, .inl (c2, 256, .inr (.inl (fun _ => 0)))), (q3, .inl (c4, 48, .inr (.inl (fun _ => 0))))] ∧ tys' = [(c2, .long), (c4, .long)]) := by
  refine CC.ofW (lv := [some (.ref h0)]) (by decide +kernel) (Nat.le_of_ble_eq_true rfl) (show lvLe _ [some (.ref h0)] from lvs lvz) ?_
  intro p l e s m args below meth c D A hc
  refine cb_aload_n (q := 1) hc dd_X3_init_0 rfl rfl ?_
  refine cb_objInit (q := 4) hc iw_247 iw_90 iw_91 dd_X3_init_1 rfl (Nat.le_of_ble_eq_true rfl) (Nat.le_of_ble_eq_true rfl) ?_
  refine cb_aload_n (q := 5) hc dd_X3_init_4 rfl rfl ?_
  refine cb_sipush (q := 8) (v := 256) hc dd_X3_init_5 rfl (by decide) ?_
  refine cb_newL (q := 10) (N' := 256) hc iw_270 dd_X3_init_8 rfl (by decide) (by decide) (Nat.le_of_ble_eq_true rfl) ⟨Nat.le_of_ble_eq_true rfl, Nat.le_of_ble_eq_true rfl⟩ (fun q1 c2 => ?_)
  refine cb_putR (q := 13) (i := 0) hc fl_X3_11 ht_X3_0 rfl rfl (Nat.le_of_ble_eq_true rfl) rfl rfl dd_X3_init_10 rfl ?_
  refine cb_aload_n (q := 14) hc dd_X3_init_13 rfl rfl ?_
  refine cb_bipush (q := 16) (v := 48) hc dd_X3_init_14 rfl (by decide) ?_
  refine cb_newL (q := 18) (N' := 48) hc iw_270 dd_X3_init_16 rfl (by decide) (by decide) (Nat.le_of_ble_eq_true rfl) ⟨Nat.le_of_ble_eq_true rfl, Nat.le_of_ble_eq_true rfl⟩ (fun q3 c4 => ?_)
  refine cb_putR (q := 21) (i := 0) hc fl_X3_15 ht_X3_1 rfl rfl (Nat.le_of_ble_eq_true rfl) rfl rfl dd_X3_init_18 rfl ?_
  exact cb_vret hc rfl dd_X3_init_21 ⟨q1, c2, q3, c4, rfl, rfl⟩
theorem ht_X5_2 : ∀ (C : String) (T : u_T) (N : Nat), classes[5]? = some (C, T, N) → (T 2).1 = RX5 := by
  intro C T N h
  have e : (RX5, TX5, 3) = (C, T, N) := Option.some.inj h
  cases e
  rfl
set_option maxHeartbeats 4000000 in
set_option maxRecDepth 100000 in
theorem i_X5_init (wr : va_W) (h0 : Nat) : CC X5_init 1 1 12 [.ref h0] wr [(h0, .inr (5, dfX5))] [] (fun wx' tys' => ∃ (q1 : Nat) (c2 : ClassId), wx' = [(h0, .inr (5, [.int 0, .int 0, .ref q1])), (q1, .inl (c2, 12, .inl (fun _ => 0)))] ∧ tys' = [(c2, .int)]) := by
  refine CC.ofW (lv := [some (.ref h0)]) (by decide +kernel) (Nat.le_of_ble_eq_true rfl) (show lvLe _ [some (.ref h0)] from lvs lvz) ?_
  intro p l e s m args below meth c D A hc
  refine cb_aload_n (q := 1) hc dd_X5_init_0 rfl rfl ?_
  refine cb_objInit (q := 4) hc iw_300 iw_90 iw_91 dd_X5_init_1 rfl (Nat.le_of_ble_eq_true rfl) (Nat.le_of_ble_eq_true rfl) ?_
  refine cb_aload_n (q := 5) hc dd_X5_init_4 rfl rfl ?_
  refine cb_bipush (q := 7) (v := 12) hc dd_X5_init_5 rfl (by decide) ?_
  refine cb_newI (q := 9) (N' := 12) hc iw_116 dd_X5_init_7 rfl (by decide) (by decide) (Nat.le_of_ble_eq_true rfl) ⟨Nat.le_of_ble_eq_true rfl, Nat.le_of_ble_eq_true rfl⟩ (fun q1 c2 => ?_)
  refine cb_putR (q := 12) (i := 0) hc fl_X5_9 ht_X5_2 rfl rfl (Nat.le_of_ble_eq_true rfl) rfl rfl dd_X5_init_9 rfl ?_
  exact cb_vret hc rfl dd_X5_init_12 ⟨q1, c2, rfl, rfl⟩
set_option maxHeartbeats 4000000 in
set_option maxRecDepth 100000 in
theorem i_X7_init (wr : va_W) (h0 : Nat) : CC X7_init 1 0 0 [.ref h0] wr [(h0, .inr (7, dfX7))] [] (fun wx' tys' => wx' = [(h0, .inr (7, [.int 0, .int 0, .long 0, .long 0, .int 0]))] ∧ tys' = []) := by
  refine CC.ofW (lv := [some (.ref h0)]) (by decide +kernel) (Nat.le_of_ble_eq_true rfl) (show lvLe _ [some (.ref h0)] from lvs lvz) ?_
  intro p l e s m args below meth c D A hc
  refine cb_aload_n (q := 1) hc dd_X7_init_0 rfl rfl ?_
  refine cb_objInit (q := 4) hc iw_276 iw_90 iw_91 dd_X7_init_1 rfl (Nat.le_of_ble_eq_true rfl) (Nat.le_of_ble_eq_true rfl) ?_
  exact cb_vret hc rfl dd_X7_init_4 ⟨rfl, rfl⟩
set_option maxHeartbeats 4000000 in
theorem i_X0_beginAnew (wr : va_W) (h0 q1 q2 q3 q4 : Nat) (c1 c2 c3 : ClassId) : CC X0_beginAnew 0 0 0 [.ref h0, .int 4] wr [(h0, .inr (0, [.int 0, .int 0, .int 0, .int 0, .ref q1, .ref q2])), (q1, .inl (c1, 8, .inl (fun _ => 0))), (q2, .inr (2, [.int 0, .ref q3, .ref q4, .int 0])), (q3, .inl (c2, 6, .inl (fun _ => 0))), (q4, .inl (c3, 6, .inl (fun _ => 0)))] [(c1, .int), (c2, .int), (c3, .int)] (fun wx' tys' => wx' = [(h0, .inr (0, [.int 4, .int 2, .int 20, .int 0, .ref q1, .ref q2])), (q1, .inl (c1, 8, .inl (fun _ => 0))), (q2, .inr (2, [.int 0, .ref q3, .ref q4, .int 0])), (q3, .inl (c2, 6, .inl (fun _ => 0))), (q4, .inl (c3, 6, .inl (fun _ => 0)))] ∧ tys' = [(c1, .int), (c2, .int), (c3, .int)]) := by
  refine CC.ofW (lv := [some (.ref h0), some (.int 4)]) (by decide +kernel) (Nat.le_of_ble_eq_true rfl) (show lvLe _ [some (.ref h0), some (.int 4)] from lvs (lvs lvz)) ?_
  intro p l e s m args below meth c D A hc
  refine cb_aload_n (q := 1) hc dd_X0_beginAnew_0 rfl rfl ?_
  refine cb_iload_n (q := 2) hc dd_X0_beginAnew_1 rfl rfl ?_
  refine cb_putI (q := 5) (i := 0) hc fl_X0_26 rfl (Nat.le_of_ble_eq_true rfl) dd_X0_beginAnew_2 rfl ?_
  refine cb_aload_n (q := 6) hc dd_X0_beginAnew_5 rfl rfl ?_
  refine cb_iconst (q := 7) (v := 2) hc dd_X0_beginAnew_6 rfl (by decide) ?_
  refine cb_putI (q := 10) (i := 0) hc fl_X0_30 rfl (Nat.le_of_ble_eq_true rfl) dd_X0_beginAnew_7 rfl ?_
  refine cb_aload_n (q := 11) hc dd_X0_beginAnew_10 rfl rfl ?_
  refine cb_bipush (q := 13) (v := 20) hc dd_X0_beginAnew_11 rfl (by decide) ?_
  refine cb_putI (q := 16) (i := 0) hc fl_X0_33 rfl (Nat.le_of_ble_eq_true rfl) dd_X0_beginAnew_13 rfl ?_
  refine cb_aload_n (q := 17) hc dd_X0_beginAnew_16 rfl rfl ?_
  refine cb_iconst (q := 18) (v := 0) hc dd_X0_beginAnew_17 rfl (by decide) ?_
  refine cb_putI (q := 21) (i := 0) hc fl_X0_36 rfl (Nat.le_of_ble_eq_true rfl) dd_X0_beginAnew_18 rfl ?_
  refine cb_aload_n (q := 22) hc dd_X0_beginAnew_21 rfl rfl ?_
  refine cb_getR (q := 25) (i := 0) hc fl_X0_18 rfl rfl dd_X0_beginAnew_22 rfl ?_
  refine cb_iconst (q := 26) (v := 0) hc dd_X0_beginAnew_25 rfl (by decide) ?_
  refine cb_putI (q := 29) (i := 2) hc fl_X0_39 rfl (Nat.le_of_ble_eq_true rfl) dd_X0_beginAnew_26 rfl ?_
  exact cb_vret hc rfl dd_X0_beginAnew_29 ⟨rfl, rfl⟩
theorem ht_X0_4 : ∀ (C : String) (T : u_T) (N : Nat), classes[0]? = some (C, T, N) → (T 4).1 = RX0 := by
  intro C T N h
  have e : (RX0, TX0, 6) = (C, T, N) := Option.some.inj h
  cases e
  rfl
theorem ht_X0_5 : ∀ (C : String) (T : u_T) (N : Nat), classes[0]? = some (C, T, N) → (T 5).1 = RX0 := by
  intro C T N h
  have e : (RX0, TX0, 6) = (C, T, N) := Option.some.inj h
  cases e
  rfl
set_option maxHeartbeats 4000000 in
set_option maxRecDepth 100000 in
theorem i_X0_init (wr : va_W) (h0 : Nat) : CC X0_init 2 4 24 [.ref h0] wr [(h0, .inr (0, dfX0))] [] (fun wx' tys' => ∃ (q1 : Nat) (c2 : ClassId) (q3 : Nat) (q4 : Nat) (c5 : ClassId) (q6 : Nat) (c7 : ClassId), wx' = [(h0, .inr (0, [.int 4, .int 2, .int 20, .int 0, .ref q1, .ref q3])), (q1, .inl (c2, 8, .inl (fun _ => 0))), (q3, .inr (2, [.int 0, .ref q4, .ref q6, .int 0])), (q4, .inl (c5, 6, .inl (fun _ => 0))), (q6, .inl (c7, 6, .inl (fun _ => 0)))] ∧ tys' = [(c2, .int), (c5, .int), (c7, .int)]) := by
  refine CC.ofW (lv := [some (.ref h0)]) (by decide +kernel) (Nat.le_of_ble_eq_true rfl) (show lvLe _ [some (.ref h0)] from lvs lvz) ?_
  intro p l e s m args below meth c D A hc
  refine cb_aload_n (q := 1) hc dd_X0_init_0 rfl rfl ?_
  refine cb_objInit (q := 4) hc iw_122 iw_90 iw_91 dd_X0_init_1 rfl (Nat.le_of_ble_eq_true rfl) (Nat.le_of_ble_eq_true rfl) ?_
  refine cb_aload_n (q := 5) hc dd_X0_init_4 rfl rfl ?_
  refine cb_bipush (q := 7) (v := 8) hc dd_X0_init_5 rfl (by decide) ?_
  refine cb_newI (q := 9) (N' := 8) hc iw_116 dd_X0_init_7 rfl (by decide) (by decide) (Nat.le_of_ble_eq_true rfl) ⟨Nat.le_of_ble_eq_true rfl, Nat.le_of_ble_eq_true rfl⟩ (fun q1 c2 => ?_)
  refine cb_putR (q := 12) (i := 0) hc fl_X0_9 ht_X0_4 rfl rfl (Nat.le_of_ble_eq_true rfl) rfl rfl dd_X0_init_9 rfl ?_
  refine cb_aload_n (q := 13) hc dd_X0_init_12 rfl rfl ?_
  refine cb_new (q := 16) (fs := dfX2) hc ckX2 iw_123 iw_124 iw_69 dfX2_ok dd_X0_init_13 rfl ⟨Nat.le_of_ble_eq_true rfl, Nat.le_of_ble_eq_true rfl⟩ (fun q3 => ?_)
  refine cb_dup (q := 17) hc dd_X0_init_16 rfl rfl ?_
  refine cb_callN (q := 20) (Y := X2_init) (h := q3) (wx1 := [(h0, .inr (0, [.int 0, .int 0, .int 0, .int 0, .ref q1, .null])), (q1, .inl (c2, 8, .inl (fun _ => 0)))]) (wx2 := [(q3, .inr (2, dfX2))]) hc (fun h => h.2.1) iw_126 iw_69 iw_127 rfl rfl ⟨by decide +kernel, by decide +kernel, by decide +kernel⟩ (Nat.le_of_ble_eq_true rfl) (i_X2_init _ q3) rfl rfl (Nat.le_of_ble_eq_true rfl) ⟨Nat.le_of_ble_eq_true rfl, Nat.le_of_ble_eq_true rfl⟩ ⟨Nat.le_of_ble_eq_true rfl, Nat.le_of_ble_eq_true rfl⟩ dd_X0_init_17 rfl (fun wx' tys' hp => ?_)
  obtain ⟨q4, c5, q6, c7, rfl, rfl⟩ := hp
  refine cb_putR (q := 23) (i := 0) hc fl_X0_18 ht_X0_5 rfl rfl (Nat.le_of_ble_eq_true rfl) rfl rfl dd_X0_init_20 rfl ?_
  refine cb_aload_n (q := 24) hc dd_X0_init_23 rfl rfl ?_
  refine cb_iconst (q := 25) (v := 4) hc dd_X0_init_24 rfl (by decide) ?_
  refine cb_callV (q := 28) (i := 0) (vs := [.int 4]) hc mv_X0_22 (i_X0_beginAnew wr h0 q1 q3 q4 q6 c2 c5 c7) rfl rfl rfl rfl (Nat.le_of_ble_eq_true rfl) ⟨Nat.le_of_ble_eq_true rfl, Nat.le_of_ble_eq_true rfl⟩ ⟨Nat.le_of_ble_eq_true rfl, Nat.le_of_ble_eq_true rfl⟩ dd_X0_init_25 rfl (fun wx' tys' hp => ?_)
  obtain ⟨rfl, rfl⟩ := hp
  exact cb_vret hc rfl dd_X0_init_28 ⟨q1, c2, q3, q4, c5, q6, c7, rfl, rfl⟩
theorem ht_X8_0 : ∀ (C : String) (T : u_T) (N : Nat), classes[8]? = some (C, T, N) → (T 0).1 = RX8 := by
  intro C T N h
  have e : (RX8, TX8, 11) = (C, T, N) := Option.some.inj h
  cases e
  rfl
theorem ht_X8_1 : ∀ (C : String) (T : u_T) (N : Nat), classes[8]? = some (C, T, N) → (T 1).1 = RX8 := by
  intro C T N h
  have e : (RX8, TX8, 11) = (C, T, N) := Option.some.inj h
  cases e
  rfl
theorem ht_X8_2 : ∀ (C : String) (T : u_T) (N : Nat), classes[8]? = some (C, T, N) → (T 2).1 = RX8 := by
  intro C T N h
  have e : (RX8, TX8, 11) = (C, T, N) := Option.some.inj h
  cases e
  rfl
theorem ht_X8_3 : ∀ (C : String) (T : u_T) (N : Nat), classes[8]? = some (C, T, N) → (T 3).1 = RX8 := by
  intro C T N h
  have e : (RX8, TX8, 11) = (C, T, N) := Option.some.inj h
  cases e
  rfl
theorem ht_X8_4 : ∀ (C : String) (T : u_T) (N : Nat), classes[8]? = some (C, T, N) → (T 4).1 = RX8 := by
  intro C T N h
  have e : (RX8, TX8, 11) = (C, T, N) := Option.some.inj h
  cases e
  rfl
theorem ht_X8_5 : ∀ (C : String) (T : u_T) (N : Nat), classes[8]? = some (C, T, N) → (T 5).1 = RX8 := by
  intro C T N h
  have e : (RX8, TX8, 11) = (C, T, N) := Option.some.inj h
  cases e
  rfl
theorem ht_X8_6 : ∀ (C : String) (T : u_T) (N : Nat), classes[8]? = some (C, T, N) → (T 6).1 = RX8 := by
  intro C T N h
  have e : (RX8, TX8, 11) = (C, T, N) := Option.some.inj h
  cases e
  rfl
theorem ht_X8_7 : ∀ (C : String) (T : u_T) (N : Nat), classes[8]? = some (C, T, N) → (T 7).1 = RX8 := by
  intro C T N h
  have e : (RX8, TX8, 11) = (C, T, N) := Option.some.inj h
  cases e
  rfl
theorem ht_X8_8 : ∀ (C : String) (T : u_T) (N : Nat), classes[8]? = some (C, T, N) → (T 8).1 = RX8 := by
  intro C T N h
  have e : (RX8, TX8, 11) = (C, T, N) := Option.some.inj h
  cases e
  rfl
theorem ht_X8_9 : ∀ (C : String) (T : u_T) (N : Nat), classes[8]? = some (C, T, N) → (T 9).1 = RX8 := by
  intro C T N h
  have e : (RX8, TX8, 11) = (C, T, N) := Option.some.inj h
  cases e
  rfl
theorem ht_X8_10 : ∀ (C : String) (T : u_T) (N : Nat), classes[8]? = some (C, T, N) → (T 10).1 = RX8 := by
  intro C T N h
  have e : (RX8, TX8, 11) = (C, T, N) := Option.some.inj h
  cases e
  rfl
set_option maxHeartbeats 4000000 in
set_option maxRecDepth 100000 in
theorem i_X8_init (wr : va_W) (h0 : Nat) : CC X8_init 3 41 738 [.ref h0] wr [(h0, .inr (8, dfX8))] [] (fun wx' tys' => ∃ (q1 : Nat) (q2 : Nat) (c3 : ClassId) (q4 : Nat) (q5 : Nat) (c6 : ClassId) (q7 : Nat) (q8 : Nat) (c9 : ClassId) (q10 : Nat) (c11 : ClassId) (q12 : Nat) (q13 : Nat) (c14 : ClassId) (q15 : Nat) (q16 : Nat) (c17 : ClassId) (q18 : Nat) (c19 : ClassId) (q20 : Nat) (q21 : Nat) (c22 : ClassId) (q23 : Nat) (c24 : ClassId) (q25 : Nat) (q26 : Nat) (c27 : ClassId) (q28 : Nat) (c29 : ClassId) (q30 : Nat) (c31 : ClassId) (q32 : Nat) (q33 : Nat) (c34 : ClassId) (q35 : Nat) (c36 : ClassId) (q37 : Nat) (q38 : Nat) (c39 : ClassId) (q40 : Nat) (c41 : ClassId) (q42 : Nat) (q43 : Nat) (c44 : ClassId) (q45 : Nat) (c46 : ClassId) (q47 : Nat) (c48 : ClassId) (q49 : Nat) (c50 : ClassId) (q51 : Nat) (q52 : Nat) (c53 : ClassId) (q54 : Nat) (c55 : ClassId) (q56 : Nat) (q57 : Nat) (c58 : ClassId) (q59 : Nat) (q60 : Nat) (c61 : ClassId) (q62 : Nat) (q63 : Nat) (c64 : ClassId) (q65 : Nat) (q66 : Nat) (c67 : ClassId), wx' = [(h0, .inr (8, [.ref q1, .ref q4, .ref q12, .ref q20, .ref q25, .ref q32, .ref q37, .ref q42, .ref q51, .ref q56, .ref q57])), (q1, .inr (6, [.int 0, .int 0, .ref q2, .int 0, .int 0])), (q2, .inl (c3, 200, .inl (fun _ => 0))), (q4, .inr (0, [.int 4, .int 2, .int 20, .int 0, .ref q5, .ref q7])), (q5, .inl (c6, 8, .inl (fun _ => 0))), (q7, .inr (2, [.int 0, .ref q8, .ref q10, .int 0])), (q8, .inl (c9, 6, .inl (fun _ => 0))), (q10, .inl (c11, 6, .inl (fun _ => 0))), (q12, .inr (0, [.int 4, .int 2, .int 20, .int 0, .ref q13, .ref q15])), (q13, .inl (c14, 8, .inl (fun _ => 0))), (q15, .inr (2, [.int 0, .ref q16, .ref q18, .int 0])), (q16, .inl (c17, 6, .inl (fun _ => 0))), (q18, .inl (c19, 6, .inl (fun _ => 0))), (q20, .inr (2, [.int 0, .ref q21, .ref q23, .int 0])), (q21, .inl (c22, 6, .inl (fun _ => 0))), (q23, .inl (c24, 6, .inl (fun _ => 0))), (q25, .inr (1, [.int 0, .ref q26, .ref q28, .ref q30])), (q26, .inl (c27, 8, .inl (fun _ => 0))), (q28, .inl (c29, 8, .inl (fun _ => 0))), (q30, .inl (c31, 8, .inl (fun _ => 0))), (q32, .inr (2, [.int 0, .ref q33, .ref q35, .int 0])), (q33, .inl (c34, 6, .inl (fun _ => 0))), (q35, .inl (c36, 6, .inl (fun _ => 0))), (q37, .inr (2, [.int 0, .ref q38, .ref q40, .int 0])), (q38, .inl (c39, 6, .inl (fun _ => 0))), (q40, .inl (c41, 6, .inl (fun _ => 0))), (q42, .inr (4, [.int 0, .ref q43, .int 0, .int 0, .ref q45, .ref q47, .ref q49])), (q43, .inl (c44, 6, .inl (fun _ => 0))), (q45, .inl (c46, 6, .inl (fun _ => 0))), (q47, .inl (c48, 6, .inl (fun _ => 0))), (q49, .inl (c50, 8, .inl (fun _ => 0))), (q51, .inr (3, [.ref q52, .ref q54, .int 0, .int 0, .long 0, .long 0, .long 0])), (q52, .inl (c53, 256, .inr (.inl (fun _ => 0)))), (q54, .inl (c55, 48, .inr (.inl (fun _ => 0)))), (q56, .inr (7, [.int 0, .int 0, .long 0, .long 0, .int 0])), (q57, .inl (c58, 3, .inr (.inr (.inr (.inr (va_up (va_up (va_up (fun _ => none) 0 (some q59)) 1 (some q62)) 2 (some q65))))))), (q59, .inr (5, [.int 0, .int 0, .ref q60])), (q60, .inl (c61, 12, .inl (fun _ => 0))), (q62, .inr (5, [.int 0, .int 0, .ref q63])), (q63, .inl (c64, 12, .inl (fun _ => 0))), (q65, .inr (5, [.int 0, .int 0, .ref q66])), (q66, .inl (c67, 12, .inl (fun _ => 0)))] ∧ tys' = [(c3, .int), (c6, .int), (c9, .int), (c11, .int), (c14, .int), (c17, .int), (c19, .int), (c22, .int), (c24, .int), (c27, .int), (c29, .int), (c31, .int), (c34, .int), (c36, .int), (c39, .int), (c41, .int), (c44, .int), (c46, .int), (c48, .int), (c50, .int), (c53, .long), (c55, .long), (c58, .object "HarbourLights$Tape"), (c61, .int), (c64, .int), (c67, .int)]) := by
  refine CC.ofW (lv := [some (.ref h0), none]) (by decide +kernel) (Nat.le_of_ble_eq_true rfl) (show lvLe _ [some (.ref h0)] from lvs (lve lvz)) ?_
  intro p l e s m args below meth c D A hc
  refine cb_aload_n (q := 1) hc dd_X8_init_0 rfl rfl ?_
  refine cb_objInit (q := 4) hc iw_89 iw_90 iw_91 dd_X8_init_1 rfl (Nat.le_of_ble_eq_true rfl) (Nat.le_of_ble_eq_true rfl) ?_
  refine cb_aload_n (q := 5) hc dd_X8_init_4 rfl rfl ?_
  refine cb_new (q := 8) (fs := dfX6) hc ckX6 iw_92 iw_93 iw_67 dfX6_ok dd_X8_init_5 rfl ⟨Nat.le_of_ble_eq_true rfl, Nat.le_of_ble_eq_true rfl⟩ (fun q1 => ?_)
  refine cb_dup (q := 9) hc dd_X8_init_8 rfl rfl ?_
  refine cb_callN (q := 12) (Y := X6_init) (h := q1) (wx1 := [(h0, .inr (8, [.null, .null, .null, .null, .null, .null, .null, .null, .null, .null, .null]))]) (wx2 := [(q1, .inr (6, dfX6))]) hc (fun h => h.1) iw_95 iw_67 iw_96 rfl rfl ⟨by decide +kernel, by decide +kernel, by decide +kernel⟩ (Nat.le_of_ble_eq_true rfl) (i_X6_init _ q1) rfl rfl (Nat.le_of_ble_eq_true rfl) ⟨Nat.le_of_ble_eq_true rfl, Nat.le_of_ble_eq_true rfl⟩ ⟨Nat.le_of_ble_eq_true rfl, Nat.le_of_ble_eq_true rfl⟩ dd_X8_init_9 rfl (fun wx' tys' hp => ?_)
  obtain ⟨q2, c3, rfl, rfl⟩ := hp
  refine cb_putR (q := 15) (i := 0) hc fl_X8_12 ht_X8_0 rfl rfl (Nat.le_of_ble_eq_true rfl) rfl rfl dd_X8_init_12 rfl ?_
  refine cb_aload_n (q := 16) hc dd_X8_init_15 rfl rfl ?_
  refine cb_new (q := 19) (fs := dfX0) hc ckX0 iw_117 iw_118 iw_68 dfX0_ok dd_X8_init_16 rfl ⟨Nat.le_of_ble_eq_true rfl, Nat.le_of_ble_eq_true rfl⟩ (fun q4 => ?_)
  refine cb_dup (q := 20) hc dd_X8_init_19 rfl rfl ?_
  refine cb_callI (q := 23) (Y := X0_init) (h := q4) (wx1 := [(h0, .inr (8, [.ref q1, .null, .null, .null, .null, .null, .null, .null, .null, .null, .null])), (q1, .inr (6, [.int 0, .int 0, .ref q2, .int 0, .int 0])), (q2, .inl (c3, 200, .inl (fun _ => 0)))]) (wx2 := [(q4, .inr (0, dfX0))]) hc iw_119 iw_120 iw_68 iw_121 rfl rfl ⟨by decide +kernel, by decide +kernel, by decide +kernel⟩ (Nat.le_of_ble_eq_true rfl) (i_X0_init _ q4) rfl rfl (Nat.le_of_ble_eq_true rfl) ⟨Nat.le_of_ble_eq_true rfl, Nat.le_of_ble_eq_true rfl⟩ ⟨Nat.le_of_ble_eq_true rfl, Nat.le_of_ble_eq_true rfl⟩ dd_X8_init_20 rfl (fun wx' tys' hp => ?_)
  obtain ⟨q5, c6, q7, q8, c9, q10, c11, rfl, rfl⟩ := hp
  refine cb_putR (q := 26) (i := 0) hc fl_X8_19 ht_X8_1 rfl rfl (Nat.le_of_ble_eq_true rfl) rfl rfl dd_X8_init_23 rfl ?_
  refine cb_aload_n (q := 27) hc dd_X8_init_26 rfl rfl ?_
  refine cb_new (q := 30) (fs := dfX0) hc ckX0 iw_117 iw_118 iw_68 dfX0_ok dd_X8_init_27 rfl ⟨Nat.le_of_ble_eq_true rfl, Nat.le_of_ble_eq_true rfl⟩ (fun q12 => ?_)
  refine cb_dup (q := 31) hc dd_X8_init_30 rfl rfl ?_
  refine cb_callI (q := 34) (Y := X0_init) (h := q12) (wx1 := [(h0, .inr (8, [.ref q1, .ref q4, .null, .null, .null, .null, .null, .null, .null, .null, .null])), (q1, .inr (6, [.int 0, .int 0, .ref q2, .int 0, .int 0])), (q2, .inl (c3, 200, .inl (fun _ => 0))), (q4, .inr (0, [.int 4, .int 2, .int 20, .int 0, .ref q5, .ref q7])), (q5, .inl (c6, 8, .inl (fun _ => 0))), (q7, .inr (2, [.int 0, .ref q8, .ref q10, .int 0])), (q8, .inl (c9, 6, .inl (fun _ => 0))), (q10, .inl (c11, 6, .inl (fun _ => 0)))]) (wx2 := [(q12, .inr (0, dfX0))]) hc iw_119 iw_120 iw_68 iw_121 rfl rfl ⟨by decide +kernel, by decide +kernel, by decide +kernel⟩ (Nat.le_of_ble_eq_true rfl) (i_X0_init _ q12) rfl rfl (Nat.le_of_ble_eq_true rfl) ⟨Nat.le_of_ble_eq_true rfl, Nat.le_of_ble_eq_true rfl⟩ ⟨Nat.le_of_ble_eq_true rfl, Nat.le_of_ble_eq_true rfl⟩ dd_X8_init_31 rfl (fun wx' tys' hp => ?_)
  obtain ⟨q13, c14, q15, q16, c17, q18, c19, rfl, rfl⟩ := hp
  refine cb_putR (q := 37) (i := 0) hc fl_X8_23 ht_X8_2 rfl rfl (Nat.le_of_ble_eq_true rfl) rfl rfl dd_X8_init_34 rfl ?_
  refine cb_aload_n (q := 38) hc dd_X8_init_37 rfl rfl ?_
  refine cb_new (q := 41) (fs := dfX2) hc ckX2 iw_190 iw_124 iw_69 dfX2_ok dd_X8_init_38 rfl ⟨Nat.le_of_ble_eq_true rfl, Nat.le_of_ble_eq_true rfl⟩ (fun q20 => ?_)
  refine cb_dup (q := 42) hc dd_X8_init_41 rfl rfl ?_
  refine cb_callN (q := 45) (Y := X2_init) (h := q20) (wx1 := [(h0, .inr (8, [.ref q1, .ref q4, .ref q12, .null, .null, .null, .null, .null, .null, .null, .null])), (q1, .inr (6, [.int 0, .int 0, .ref q2, .int 0, .int 0])), (q2, .inl (c3, 200, .inl (fun _ => 0))), (q4, .inr (0, [.int 4, .int 2, .int 20, .int 0, .ref q5, .ref q7])), (q5, .inl (c6, 8, .inl (fun _ => 0))), (q7, .inr (2, [.int 0, .ref q8, .ref q10, .int 0])), (q8, .inl (c9, 6, .inl (fun _ => 0))), (q10, .inl (c11, 6, .inl (fun _ => 0))), (q12, .inr (0, [.int 4, .int 2, .int 20, .int 0, .ref q13, .ref q15])), (q13, .inl (c14, 8, .inl (fun _ => 0))), (q15, .inr (2, [.int 0, .ref q16, .ref q18, .int 0])), (q16, .inl (c17, 6, .inl (fun _ => 0))), (q18, .inl (c19, 6, .inl (fun _ => 0)))]) (wx2 := [(q20, .inr (2, dfX2))]) hc (fun h => h.2.2.1) iw_126 iw_69 iw_127 rfl rfl ⟨by decide +kernel, by decide +kernel, by decide +kernel⟩ (Nat.le_of_ble_eq_true rfl) (i_X2_init _ q20) rfl rfl (Nat.le_of_ble_eq_true rfl) ⟨Nat.le_of_ble_eq_true rfl, Nat.le_of_ble_eq_true rfl⟩ ⟨Nat.le_of_ble_eq_true rfl, Nat.le_of_ble_eq_true rfl⟩ dd_X8_init_42 rfl (fun wx' tys' hp => ?_)
  obtain ⟨q21, c22, q23, c24, rfl, rfl⟩ := hp
  refine cb_putR (q := 48) (i := 0) hc fl_X8_29 ht_X8_3 rfl rfl (Nat.le_of_ble_eq_true rfl) rfl rfl dd_X8_init_45 rfl ?_
  refine cb_aload_n (q := 49) hc dd_X8_init_48 rfl rfl ?_
  refine cb_new (q := 52) (fs := dfX1) hc ckX1 iw_192 iw_193 iw_70 dfX1_ok dd_X8_init_49 rfl ⟨Nat.le_of_ble_eq_true rfl, Nat.le_of_ble_eq_true rfl⟩ (fun q25 => ?_)
  refine cb_dup (q := 53) hc dd_X8_init_52 rfl rfl ?_
  refine cb_callN (q := 56) (Y := X1_init) (h := q25) (wx1 := [(h0, .inr (8, [.ref q1, .ref q4, .ref q12, .ref q20, .null, .null, .null, .null, .null, .null, .null])), (q1, .inr (6, [.int 0, .int 0, .ref q2, .int 0, .int 0])), (q2, .inl (c3, 200, .inl (fun _ => 0))), (q4, .inr (0, [.int 4, .int 2, .int 20, .int 0, .ref q5, .ref q7])), (q5, .inl (c6, 8, .inl (fun _ => 0))), (q7, .inr (2, [.int 0, .ref q8, .ref q10, .int 0])), (q8, .inl (c9, 6, .inl (fun _ => 0))), (q10, .inl (c11, 6, .inl (fun _ => 0))), (q12, .inr (0, [.int 4, .int 2, .int 20, .int 0, .ref q13, .ref q15])), (q13, .inl (c14, 8, .inl (fun _ => 0))), (q15, .inr (2, [.int 0, .ref q16, .ref q18, .int 0])), (q16, .inl (c17, 6, .inl (fun _ => 0))), (q18, .inl (c19, 6, .inl (fun _ => 0))), (q20, .inr (2, [.int 0, .ref q21, .ref q23, .int 0])), (q21, .inl (c22, 6, .inl (fun _ => 0))), (q23, .inl (c24, 6, .inl (fun _ => 0)))]) (wx2 := [(q25, .inr (1, dfX1))]) hc (fun h => h.2.2.2.1) iw_195 iw_70 iw_196 rfl rfl ⟨by decide +kernel, by decide +kernel, by decide +kernel⟩ (Nat.le_of_ble_eq_true rfl) (i_X1_init _ q25) rfl rfl (Nat.le_of_ble_eq_true rfl) ⟨Nat.le_of_ble_eq_true rfl, Nat.le_of_ble_eq_true rfl⟩ ⟨Nat.le_of_ble_eq_true rfl, Nat.le_of_ble_eq_true rfl⟩ dd_X8_init_53 rfl (fun wx' tys' hp => ?_)
  obtain ⟨q26, c27, q28, c29, q30, c31, rfl, rfl⟩ := hp
  refine cb_putR (q := 59) (i := 0) hc fl_X8_36 ht_X8_4 rfl rfl (Nat.le_of_ble_eq_true rfl) rfl rfl dd_X8_init_56 rfl ?_
  refine cb_aload_n (q := 60) hc dd_X8_init_59 rfl rfl ?_
  refine cb_new (q := 63) (fs := dfX2) hc ckX2 iw_190 iw_124 iw_69 dfX2_ok dd_X8_init_60 rfl ⟨Nat.le_of_ble_eq_true rfl, Nat.le_of_ble_eq_true rfl⟩ (fun q32 => ?_)
  refine cb_dup (q := 64) hc dd_X8_init_63 rfl rfl ?_
  refine cb_callN (q := 67) (Y := X2_init) (h := q32) (wx1 := [(h0, .inr (8, [.ref q1, .ref q4, .ref q12, .ref q20, .ref q25, .null, .null, .null, .null, .null, .null])), (q1, .inr (6, [.int 0, .int 0, .ref q2, .int 0, .int 0])), (q2, .inl (c3, 200, .inl (fun _ => 0))), (q4, .inr (0, [.int 4, .int 2, .int 20, .int 0, .ref q5, .ref q7])), (q5, .inl (c6, 8, .inl (fun _ => 0))), (q7, .inr (2, [.int 0, .ref q8, .ref q10, .int 0])), (q8, .inl (c9, 6, .inl (fun _ => 0))), (q10, .inl (c11, 6, .inl (fun _ => 0))), (q12, .inr (0, [.int 4, .int 2, .int 20, .int 0, .ref q13, .ref q15])), (q13, .inl (c14, 8, .inl (fun _ => 0))), (q15, .inr (2, [.int 0, .ref q16, .ref q18, .int 0])), (q16, .inl (c17, 6, .inl (fun _ => 0))), (q18, .inl (c19, 6, .inl (fun _ => 0))), (q20, .inr (2, [.int 0, .ref q21, .ref q23, .int 0])), (q21, .inl (c22, 6, .inl (fun _ => 0))), (q23, .inl (c24, 6, .inl (fun _ => 0))), (q25, .inr (1, [.int 0, .ref q26, .ref q28, .ref q30])), (q26, .inl (c27, 8, .inl (fun _ => 0))), (q28, .inl (c29, 8, .inl (fun _ => 0))), (q30, .inl (c31, 8, .inl (fun _ => 0)))]) (wx2 := [(q32, .inr (2, dfX2))]) hc (fun h => h.2.2.1) iw_126 iw_69 iw_127 rfl rfl ⟨by decide +kernel, by decide +kernel, by decide +kernel⟩ (Nat.le_of_ble_eq_true rfl) (i_X2_init _ q32) rfl rfl (Nat.le_of_ble_eq_true rfl) ⟨Nat.le_of_ble_eq_true rfl, Nat.le_of_ble_eq_true rfl⟩ ⟨Nat.le_of_ble_eq_true rfl, Nat.le_of_ble_eq_true rfl⟩ dd_X8_init_64 rfl (fun wx' tys' hp => ?_)
  obtain ⟨q33, c34, q35, c36, rfl, rfl⟩ := hp
  refine cb_putR (q := 70) (i := 0) hc fl_X8_40 ht_X8_5 rfl rfl (Nat.le_of_ble_eq_true rfl) rfl rfl dd_X8_init_67 rfl ?_
  refine cb_aload_n (q := 71) hc dd_X8_init_70 rfl rfl ?_
  refine cb_new (q := 74) (fs := dfX2) hc ckX2 iw_190 iw_124 iw_69 dfX2_ok dd_X8_init_71 rfl ⟨Nat.le_of_ble_eq_true rfl, Nat.le_of_ble_eq_true rfl⟩ (fun q37 => ?_)
  refine cb_dup (q := 75) hc dd_X8_init_74 rfl rfl ?_
  refine cb_callN (q := 78) (Y := X2_init) (h := q37) (wx1 := [(h0, .inr (8, [.ref q1, .ref q4, .ref q12, .ref q20, .ref q25, .ref q32, .null, .null, .null, .null, .null])), (q1, .inr (6, [.int 0, .int 0, .ref q2, .int 0, .int 0])), (q2, .inl (c3, 200, .inl (fun _ => 0))), (q4, .inr (0, [.int 4, .int 2, .int 20, .int 0, .ref q5, .ref q7])), (q5, .inl (c6, 8, .inl (fun _ => 0))), (q7, .inr (2, [.int 0, .ref q8, .ref q10, .int 0])), (q8, .inl (c9, 6, .inl (fun _ => 0))), (q10, .inl (c11, 6, .inl (fun _ => 0))), (q12, .inr (0, [.int 4, .int 2, .int 20, .int 0, .ref q13, .ref q15])), (q13, .inl (c14, 8, .inl (fun _ => 0))), (q15, .inr (2, [.int 0, .ref q16, .ref q18, .int 0])), (q16, .inl (c17, 6, .inl (fun _ => 0))), (q18, .inl (c19, 6, .inl (fun _ => 0))), (q20, .inr (2, [.int 0, .ref q21, .ref q23, .int 0])), (q21, .inl (c22, 6, .inl (fun _ => 0))), (q23, .inl (c24, 6, .inl (fun _ => 0))), (q25, .inr (1, [.int 0, .ref q26, .ref q28, .ref q30])), (q26, .inl (c27, 8, .inl (fun _ => 0))), (q28, .inl (c29, 8, .inl (fun _ => 0))), (q30, .inl (c31, 8, .inl (fun _ => 0))), (q32, .inr (2, [.int 0, .ref q33, .ref q35, .int 0])), (q33, .inl (c34, 6, .inl (fun _ => 0))), (q35, .inl (c36, 6, .inl (fun _ => 0)))]) (wx2 := [(q37, .inr (2, dfX2))]) hc (fun h => h.2.2.1) iw_126 iw_69 iw_127 rfl rfl ⟨by decide +kernel, by decide +kernel, by decide +kernel⟩ (Nat.le_of_ble_eq_true rfl) (i_X2_init _ q37) rfl rfl (Nat.le_of_ble_eq_true rfl) ⟨Nat.le_of_ble_eq_true rfl, Nat.le_of_ble_eq_true rfl⟩ ⟨Nat.le_of_ble_eq_true rfl, Nat.le_of_ble_eq_true rfl⟩ dd_X8_init_75 rfl (fun wx' tys' hp => ?_)
  obtain ⟨q38, c39, q40, c41, rfl, rfl⟩ := hp
  refine cb_putR (q := 81) (i := 0) hc fl_X8_43 ht_X8_6 rfl rfl (Nat.le_of_ble_eq_true rfl) rfl rfl dd_X8_init_78 rfl ?_
  refine cb_aload_n (q := 82) hc dd_X8_init_81 rfl rfl ?_
  refine cb_new (q := 85) (fs := dfX4) hc ckX4 iw_212 iw_213 iw_71 dfX4_ok dd_X8_init_82 rfl ⟨Nat.le_of_ble_eq_true rfl, Nat.le_of_ble_eq_true rfl⟩ (fun q42 => ?_)
  refine cb_dup (q := 86) hc dd_X8_init_85 rfl rfl ?_
  refine cb_callN (q := 89) (Y := X4_init) (h := q42) (wx1 := [(h0, .inr (8, [.ref q1, .ref q4, .ref q12, .ref q20, .ref q25, .ref q32, .ref q37, .null, .null, .null, .null])), (q1, .inr (6, [.int 0, .int 0, .ref q2, .int 0, .int 0])), (q2, .inl (c3, 200, .inl (fun _ => 0))), (q4, .inr (0, [.int 4, .int 2, .int 20, .int 0, .ref q5, .ref q7])), (q5, .inl (c6, 8, .inl (fun _ => 0))), (q7, .inr (2, [.int 0, .ref q8, .ref q10, .int 0])), (q8, .inl (c9, 6, .inl (fun _ => 0))), (q10, .inl (c11, 6, .inl (fun _ => 0))), (q12, .inr (0, [.int 4, .int 2, .int 20, .int 0, .ref q13, .ref q15])), (q13, .inl (c14, 8, .inl (fun _ => 0))), (q15, .inr (2, [.int 0, .ref q16, .ref q18, .int 0])), (q16, .inl (c17, 6, .inl (fun _ => 0))), (q18, .inl (c19, 6, .inl (fun _ => 0))), (q20, .inr (2, [.int 0, .ref q21, .ref q23, .int 0])), (q21, .inl (c22, 6, .inl (fun _ => 0))), (q23, .inl (c24, 6, .inl (fun _ => 0))), (q25, .inr (1, [.int 0, .ref q26, .ref q28, .ref q30])), (q26, .inl (c27, 8, .inl (fun _ => 0))), (q28, .inl (c29, 8, .inl (fun _ => 0))), (q30, .inl (c31, 8, .inl (fun _ => 0))), (q32, .inr (2, [.int 0, .ref q33, .ref q35, .int 0])), (q33, .inl (c34, 6, .inl (fun _ => 0))), (q35, .inl (c36, 6, .inl (fun _ => 0))), (q37, .inr (2, [.int 0, .ref q38, .ref q40, .int 0])), (q38, .inl (c39, 6, .inl (fun _ => 0))), (q40, .inl (c41, 6, .inl (fun _ => 0)))]) (wx2 := [(q42, .inr (4, dfX4))]) hc (fun h => h.2.2.2.2.1) iw_215 iw_71 iw_216 rfl rfl ⟨by decide +kernel, by decide +kernel, by decide +kernel⟩ (Nat.le_of_ble_eq_true rfl) (i_X4_init _ q42) rfl rfl (Nat.le_of_ble_eq_true rfl) ⟨Nat.le_of_ble_eq_true rfl, Nat.le_of_ble_eq_true rfl⟩ ⟨Nat.le_of_ble_eq_true rfl, Nat.le_of_ble_eq_true rfl⟩ dd_X8_init_86 rfl (fun wx' tys' hp => ?_)
  obtain ⟨q43, c44, q45, c46, q47, c48, q49, c50, rfl, rfl⟩ := hp
  refine cb_putR (q := 92) (i := 0) hc fl_X8_49 ht_X8_7 rfl rfl (Nat.le_of_ble_eq_true rfl) rfl rfl dd_X8_init_89 rfl ?_
  refine cb_aload_n (q := 93) hc dd_X8_init_92 rfl rfl ?_
  refine cb_new (q := 96) (fs := dfX3) hc ckX3 iw_242 iw_243 iw_72 dfX3_ok dd_X8_init_93 rfl ⟨Nat.le_of_ble_eq_true rfl, Nat.le_of_ble_eq_true rfl⟩ (fun q51 => ?_)
  refine cb_dup (q := 97) hc dd_X8_init_96 rfl rfl ?_
  refine cb_callN (q := 100) (Y := X3_init) (h := q51) (wx1 := [(h0, .inr (8, [.ref q1, .ref q4, .ref q12, .ref q20, .ref q25, .ref q32, .ref q37, .ref q42, .null, .null, .null])), (q1, .inr (6, [.int 0, .int 0, .ref q2, .int 0, .int 0])), (q2, .inl (c3, 200, .inl (fun _ => 0))), (q4, .inr (0, [.int 4, .int 2, .int 20, .int 0, .ref q5, .ref q7])), (q5, .inl (c6, 8, .inl (fun _ => 0))), (q7, .inr (2, [.int 0, .ref q8, .ref q10, .int 0])), (q8, .inl (c9, 6, .inl (fun _ => 0))), (q10, .inl (c11, 6, .inl (fun _ => 0))), (q12, .inr (0, [.int 4, .int 2, .int 20, .int 0, .ref q13, .ref q15])), (q13, .inl (c14, 8, .inl (fun _ => 0))), (q15, .inr (2, [.int 0, .ref q16, .ref q18, .int 0])), (q16, .inl (c17, 6, .inl (fun _ => 0))), (q18, .inl (c19, 6, .inl (fun _ => 0))), (q20, .inr (2, [.int 0, .ref q21, .ref q23, .int 0])), (q21, .inl (c22, 6, .inl (fun _ => 0))), (q23, .inl (c24, 6, .inl (fun _ => 0))), (q25, .inr (1, [.int 0, .ref q26, .ref q28, .ref q30])), (q26, .inl (c27, 8, .inl (fun _ => 0))), (q28, .inl (c29, 8, .inl (fun _ => 0))), (q30, .inl (c31, 8, .inl (fun _ => 0))), (q32, .inr (2, [.int 0, .ref q33, .ref q35, .int 0])), (q33, .inl (c34, 6, .inl (fun _ => 0))), (q35, .inl (c36, 6, .inl (fun _ => 0))), (q37, .inr (2, [.int 0, .ref q38, .ref q40, .int 0])), (q38, .inl (c39, 6, .inl (fun _ => 0))), (q40, .inl (c41, 6, .inl (fun _ => 0))), (q42, .inr (4, [.int 0, .ref q43, .int 0, .int 0, .ref q45, .ref q47, .ref q49])), (q43, .inl (c44, 6, .inl (fun _ => 0))), (q45, .inl (c46, 6, .inl (fun _ => 0))), (q47, .inl (c48, 6, .inl (fun _ => 0))), (q49, .inl (c50, 8, .inl (fun _ => 0)))]) (wx2 := [(q51, .inr (3, dfX3))]) hc (fun h => h.2.2.2.2.2.1) iw_245 iw_72 iw_246 rfl rfl ⟨by decide +kernel, by decide +kernel, by decide +kernel⟩ (Nat.le_of_ble_eq_true rfl) (i_X3_init _ q51) rfl rfl (Nat.le_of_ble_eq_true rfl) ⟨Nat.le_of_ble_eq_true rfl, Nat.le_of_ble_eq_true rfl⟩ ⟨Nat.le_of_ble_eq_true rfl, Nat.le_of_ble_eq_true rfl⟩ dd_X8_init_97 rfl (fun wx' tys' hp => ?_)
  obtain ⟨q52, c53, q54, c55, rfl, rfl⟩ := hp
  refine cb_putR (q := 103) (i := 0) hc fl_X8_56 ht_X8_8 rfl rfl (Nat.le_of_ble_eq_true rfl) rfl rfl dd_X8_init_100 rfl ?_
  refine cb_aload_n (q := 104) hc dd_X8_init_103 rfl rfl ?_
  refine cb_new (q := 107) (fs := dfX7) hc ckX7 iw_271 iw_272 iw_73 dfX7_ok dd_X8_init_104 rfl ⟨Nat.le_of_ble_eq_true rfl, Nat.le_of_ble_eq_true rfl⟩ (fun q56 => ?_)
  refine cb_dup (q := 108) hc dd_X8_init_107 rfl rfl ?_
  refine cb_callN (q := 111) (Y := X7_init) (h := q56) (wx1 := [(h0, .inr (8, [.ref q1, .ref q4, .ref q12, .ref q20, .ref q25, .ref q32, .ref q37, .ref q42, .ref q51, .null, .null])), (q1, .inr (6, [.int 0, .int 0, .ref q2, .int 0, .int 0])), (q2, .inl (c3, 200, .inl (fun _ => 0))), (q4, .inr (0, [.int 4, .int 2, .int 20, .int 0, .ref q5, .ref q7])), (q5, .inl (c6, 8, .inl (fun _ => 0))), (q7, .inr (2, [.int 0, .ref q8, .ref q10, .int 0])), (q8, .inl (c9, 6, .inl (fun _ => 0))), (q10, .inl (c11, 6, .inl (fun _ => 0))), (q12, .inr (0, [.int 4, .int 2, .int 20, .int 0, .ref q13, .ref q15])), (q13, .inl (c14, 8, .inl (fun _ => 0))), (q15, .inr (2, [.int 0, .ref q16, .ref q18, .int 0])), (q16, .inl (c17, 6, .inl (fun _ => 0))), (q18, .inl (c19, 6, .inl (fun _ => 0))), (q20, .inr (2, [.int 0, .ref q21, .ref q23, .int 0])), (q21, .inl (c22, 6, .inl (fun _ => 0))), (q23, .inl (c24, 6, .inl (fun _ => 0))), (q25, .inr (1, [.int 0, .ref q26, .ref q28, .ref q30])), (q26, .inl (c27, 8, .inl (fun _ => 0))), (q28, .inl (c29, 8, .inl (fun _ => 0))), (q30, .inl (c31, 8, .inl (fun _ => 0))), (q32, .inr (2, [.int 0, .ref q33, .ref q35, .int 0])), (q33, .inl (c34, 6, .inl (fun _ => 0))), (q35, .inl (c36, 6, .inl (fun _ => 0))), (q37, .inr (2, [.int 0, .ref q38, .ref q40, .int 0])), (q38, .inl (c39, 6, .inl (fun _ => 0))), (q40, .inl (c41, 6, .inl (fun _ => 0))), (q42, .inr (4, [.int 0, .ref q43, .int 0, .int 0, .ref q45, .ref q47, .ref q49])), (q43, .inl (c44, 6, .inl (fun _ => 0))), (q45, .inl (c46, 6, .inl (fun _ => 0))), (q47, .inl (c48, 6, .inl (fun _ => 0))), (q49, .inl (c50, 8, .inl (fun _ => 0))), (q51, .inr (3, [.ref q52, .ref q54, .int 0, .int 0, .long 0, .long 0, .long 0])), (q52, .inl (c53, 256, .inr (.inl (fun _ => 0)))), (q54, .inl (c55, 48, .inr (.inl (fun _ => 0))))]) (wx2 := [(q56, .inr (7, dfX7))]) hc (fun h => h.2.2.2.2.2.2.1) iw_274 iw_73 iw_275 rfl rfl ⟨by decide +kernel, by decide +kernel, by decide +kernel⟩ (Nat.le_of_ble_eq_true rfl) (i_X7_init _ q56) rfl rfl (Nat.le_of_ble_eq_true rfl) ⟨Nat.le_of_ble_eq_true rfl, Nat.le_of_ble_eq_true rfl⟩ ⟨Nat.le_of_ble_eq_true rfl, Nat.le_of_ble_eq_true rfl⟩ dd_X8_init_108 rfl (fun wx' tys' hp => ?_)
  obtain ⟨rfl, rfl⟩ := hp
  refine cb_putR (q := 114) (i := 0) hc fl_X8_63 ht_X8_9 rfl rfl (Nat.le_of_ble_eq_true rfl) rfl rfl dd_X8_init_111 rfl ?_
  refine cb_aload_n (q := 115) hc dd_X8_init_114 rfl rfl ?_
  refine cb_iconst (q := 116) (v := 3) hc dd_X8_init_115 rfl (by decide) ?_
  refine cb_newT (q := 119) (N' := 3) hc iw_294 dd_X8_init_116 rfl (by decide) (by decide) (Nat.le_of_ble_eq_true rfl) ⟨Nat.le_of_ble_eq_true rfl, Nat.le_of_ble_eq_true rfl⟩ (fun q57 c58 => ?_)
  refine cb_putR (q := 122) (i := 0) hc fl_X8_69 ht_X8_10 rfl rfl (Nat.le_of_ble_eq_true rfl) rfl rfl dd_X8_init_119 rfl ?_
  refine cb_iconst (q := 123) (v := 0) hc dd_X8_init_122 rfl (by decide) ?_
  refine cb_istore_n (q := 124) (lv' := [some (.ref h0), some (.int 0)]) hc dd_X8_init_123 rfl (by decide) rfl ?_
  refine cb_iload_n (q := 125) hc dd_X8_init_124 rfl rfl ?_
  refine cb_iconst (q := 126) (v := 3) hc dd_X8_init_125 rfl (by decide) ?_
  refine cb_ge_f (q := 129) (tg := 148) hc dd_X8_init_126 rfl (by decide) (by decide) ?_
  refine cb_aload_n (q := 130) hc dd_X8_init_129 rfl rfl ?_
  refine cb_getR (q := 133) (i := 0) hc fl_X8_69 rfl rfl dd_X8_init_130 rfl ?_
  refine cb_iload_n (q := 134) hc dd_X8_init_133 rfl rfl ?_
  refine cb_new (q := 137) (fs := dfX5) hc ckX5 iw_294 iw_296 iw_74 dfX5_ok dd_X8_init_134 rfl ⟨Nat.le_of_ble_eq_true rfl, Nat.le_of_ble_eq_true rfl⟩ (fun q59 => ?_)
  refine cb_dup (q := 138) hc dd_X8_init_137 rfl rfl ?_
  refine cb_callN (q := 141) (Y := X5_init) (h := q59) (wx1 := [(h0, .inr (8, [.ref q1, .ref q4, .ref q12, .ref q20, .ref q25, .ref q32, .ref q37, .ref q42, .ref q51, .ref q56, .ref q57])), (q1, .inr (6, [.int 0, .int 0, .ref q2, .int 0, .int 0])), (q2, .inl (c3, 200, .inl (fun _ => 0))), (q4, .inr (0, [.int 4, .int 2, .int 20, .int 0, .ref q5, .ref q7])), (q5, .inl (c6, 8, .inl (fun _ => 0))), (q7, .inr (2, [.int 0, .ref q8, .ref q10, .int 0])), (q8, .inl (c9, 6, .inl (fun _ => 0))), (q10, .inl (c11, 6, .inl (fun _ => 0))), (q12, .inr (0, [.int 4, .int 2, .int 20, .int 0, .ref q13, .ref q15])), (q13, .inl (c14, 8, .inl (fun _ => 0))), (q15, .inr (2, [.int 0, .ref q16, .ref q18, .int 0])), (q16, .inl (c17, 6, .inl (fun _ => 0))), (q18, .inl (c19, 6, .inl (fun _ => 0))), (q20, .inr (2, [.int 0, .ref q21, .ref q23, .int 0])), (q21, .inl (c22, 6, .inl (fun _ => 0))), (q23, .inl (c24, 6, .inl (fun _ => 0))), (q25, .inr (1, [.int 0, .ref q26, .ref q28, .ref q30])), (q26, .inl (c27, 8, .inl (fun _ => 0))), (q28, .inl (c29, 8, .inl (fun _ => 0))), (q30, .inl (c31, 8, .inl (fun _ => 0))), (q32, .inr (2, [.int 0, .ref q33, .ref q35, .int 0])), (q33, .inl (c34, 6, .inl (fun _ => 0))), (q35, .inl (c36, 6, .inl (fun _ => 0))), (q37, .inr (2, [.int 0, .ref q38, .ref q40, .int 0])), (q38, .inl (c39, 6, .inl (fun _ => 0))), (q40, .inl (c41, 6, .inl (fun _ => 0))), (q42, .inr (4, [.int 0, .ref q43, .int 0, .int 0, .ref q45, .ref q47, .ref q49])), (q43, .inl (c44, 6, .inl (fun _ => 0))), (q45, .inl (c46, 6, .inl (fun _ => 0))), (q47, .inl (c48, 6, .inl (fun _ => 0))), (q49, .inl (c50, 8, .inl (fun _ => 0))), (q51, .inr (3, [.ref q52, .ref q54, .int 0, .int 0, .long 0, .long 0, .long 0])), (q52, .inl (c53, 256, .inr (.inl (fun _ => 0)))), (q54, .inl (c55, 48, .inr (.inl (fun _ => 0)))), (q56, .inr (7, [.int 0, .int 0, .long 0, .long 0, .int 0])), (q57, .inl (c58, 3, .inr (.inr (.inr (.inr (fun _ => none))))))]) (wx2 := [(q59, .inr (5, dfX5))]) hc (fun h => h.2.2.2.2.2.2.2.1) iw_298 iw_74 iw_299 rfl rfl ⟨by decide +kernel, by decide +kernel, by decide +kernel⟩ (Nat.le_of_ble_eq_true rfl) (i_X5_init _ q59) rfl rfl (Nat.le_of_ble_eq_true rfl) ⟨Nat.le_of_ble_eq_true rfl, Nat.le_of_ble_eq_true rfl⟩ ⟨Nat.le_of_ble_eq_true rfl, Nat.le_of_ble_eq_true rfl⟩ dd_X8_init_138 rfl (fun wx' tys' hp => ?_)
  obtain ⟨q60, c61, rfl, rfl⟩ := hp
  refine cb_astT (q := 142) (i := 35) (j := 36) (t0 := 22) (k := 0) hc rfl rfl rfl (vp_in_nI (n := 0) (Nat.le_of_ble_eq_true rfl) (Nat.le_of_ble_eq_true rfl)) (by decide) dd_X8_init_141 rfl ?_
  refine cb_iinc (q := 145) (v := 1) (lv' := [some (.ref h0), some (.int 1)]) hc dd_X8_init_142 rfl rfl (by decide) (by decide) rfl ?_
  refine cb_goto (tg := 124) hc dd_X8_init_145 (by decide) ?_
  refine cb_iload_n (q := 125) hc dd_X8_init_124 rfl rfl ?_
  refine cb_iconst (q := 126) (v := 3) hc dd_X8_init_125 rfl (by decide) ?_
  refine cb_ge_f (q := 129) (tg := 148) hc dd_X8_init_126 rfl (by decide) (by decide) ?_
  refine cb_aload_n (q := 130) hc dd_X8_init_129 rfl rfl ?_
  refine cb_getR (q := 133) (i := 0) hc fl_X8_69 rfl rfl dd_X8_init_130 rfl ?_
  refine cb_iload_n (q := 134) hc dd_X8_init_133 rfl rfl ?_
  refine cb_new (q := 137) (fs := dfX5) hc ckX5 iw_294 iw_296 iw_74 dfX5_ok dd_X8_init_134 rfl ⟨Nat.le_of_ble_eq_true rfl, Nat.le_of_ble_eq_true rfl⟩ (fun q62 => ?_)
  refine cb_dup (q := 138) hc dd_X8_init_137 rfl rfl ?_
  refine cb_callN (q := 141) (Y := X5_init) (h := q62) (wx1 := [(h0, .inr (8, [.ref q1, .ref q4, .ref q12, .ref q20, .ref q25, .ref q32, .ref q37, .ref q42, .ref q51, .ref q56, .ref q57])), (q1, .inr (6, [.int 0, .int 0, .ref q2, .int 0, .int 0])), (q2, .inl (c3, 200, .inl (fun _ => 0))), (q4, .inr (0, [.int 4, .int 2, .int 20, .int 0, .ref q5, .ref q7])), (q5, .inl (c6, 8, .inl (fun _ => 0))), (q7, .inr (2, [.int 0, .ref q8, .ref q10, .int 0])), (q8, .inl (c9, 6, .inl (fun _ => 0))), (q10, .inl (c11, 6, .inl (fun _ => 0))), (q12, .inr (0, [.int 4, .int 2, .int 20, .int 0, .ref q13, .ref q15])), (q13, .inl (c14, 8, .inl (fun _ => 0))), (q15, .inr (2, [.int 0, .ref q16, .ref q18, .int 0])), (q16, .inl (c17, 6, .inl (fun _ => 0))), (q18, .inl (c19, 6, .inl (fun _ => 0))), (q20, .inr (2, [.int 0, .ref q21, .ref q23, .int 0])), (q21, .inl (c22, 6, .inl (fun _ => 0))), (q23, .inl (c24, 6, .inl (fun _ => 0))), (q25, .inr (1, [.int 0, .ref q26, .ref q28, .ref q30])), (q26, .inl (c27, 8, .inl (fun _ => 0))), (q28, .inl (c29, 8, .inl (fun _ => 0))), (q30, .inl (c31, 8, .inl (fun _ => 0))), (q32, .inr (2, [.int 0, .ref q33, .ref q35, .int 0])), (q33, .inl (c34, 6, .inl (fun _ => 0))), (q35, .inl (c36, 6, .inl (fun _ => 0))), (q37, .inr (2, [.int 0, .ref q38, .ref q40, .int 0])), (q38, .inl (c39, 6, .inl (fun _ => 0))), (q40, .inl (c41, 6, .inl (fun _ => 0))), (q42, .inr (4, [.int 0, .ref q43, .int 0, .int 0, .ref q45, .ref q47, .ref q49])), (q43, .inl (c44, 6, .inl (fun _ => 0))), (q45, .inl (c46, 6, .inl (fun _ => 0))), (q47, .inl (c48, 6, .inl (fun _ => 0))), (q49, .inl (c50, 8, .inl (fun _ => 0))), (q51, .inr (3, [.ref q52, .ref q54, .int 0, .int 0, .long 0, .long 0, .long 0])), (q52, .inl (c53, 256, .inr (.inl (fun _ => 0)))), (q54, .inl (c55, 48, .inr (.inl (fun _ => 0)))), (q56, .inr (7, [.int 0, .int 0, .long 0, .long 0, .int 0])), (q57, .inl (c58, 3, .inr (.inr (.inr (.inr (va_up (fun _ => none) 0 (some q59))))))), (q59, .inr (5, [.int 0, .int 0, .ref q60])), (q60, .inl (c61, 12, .inl (fun _ => 0)))]) (wx2 := [(q62, .inr (5, dfX5))]) hc (fun h => h.2.2.2.2.2.2.2.1) iw_298 iw_74 iw_299 rfl rfl ⟨by decide +kernel, by decide +kernel, by decide +kernel⟩ (Nat.le_of_ble_eq_true rfl) (i_X5_init _ q62) rfl rfl (Nat.le_of_ble_eq_true rfl) ⟨Nat.le_of_ble_eq_true rfl, Nat.le_of_ble_eq_true rfl⟩ ⟨Nat.le_of_ble_eq_true rfl, Nat.le_of_ble_eq_true rfl⟩ dd_X8_init_138 rfl (fun wx' tys' hp => ?_)
  obtain ⟨q63, c64, rfl, rfl⟩ := hp
  refine cb_astT (q := 142) (i := 35) (j := 38) (t0 := 22) (k := 1) hc rfl rfl rfl (vp_in_nI (n := 1) (Nat.le_of_ble_eq_true rfl) (Nat.le_of_ble_eq_true rfl)) (by decide) dd_X8_init_141 rfl ?_
  refine cb_iinc (q := 145) (v := 2) (lv' := [some (.ref h0), some (.int 2)]) hc dd_X8_init_142 rfl rfl (by decide) (by decide) rfl ?_
  refine cb_goto (tg := 124) hc dd_X8_init_145 (by decide) ?_
  refine cb_iload_n (q := 125) hc dd_X8_init_124 rfl rfl ?_
  refine cb_iconst (q := 126) (v := 3) hc dd_X8_init_125 rfl (by decide) ?_
  refine cb_ge_f (q := 129) (tg := 148) hc dd_X8_init_126 rfl (by decide) (by decide) ?_
  refine cb_aload_n (q := 130) hc dd_X8_init_129 rfl rfl ?_
  refine cb_getR (q := 133) (i := 0) hc fl_X8_69 rfl rfl dd_X8_init_130 rfl ?_
  refine cb_iload_n (q := 134) hc dd_X8_init_133 rfl rfl ?_
  refine cb_new (q := 137) (fs := dfX5) hc ckX5 iw_294 iw_296 iw_74 dfX5_ok dd_X8_init_134 rfl ⟨Nat.le_of_ble_eq_true rfl, Nat.le_of_ble_eq_true rfl⟩ (fun q65 => ?_)
  refine cb_dup (q := 138) hc dd_X8_init_137 rfl rfl ?_
  refine cb_callN (q := 141) (Y := X5_init) (h := q65) (wx1 := [(h0, .inr (8, [.ref q1, .ref q4, .ref q12, .ref q20, .ref q25, .ref q32, .ref q37, .ref q42, .ref q51, .ref q56, .ref q57])), (q1, .inr (6, [.int 0, .int 0, .ref q2, .int 0, .int 0])), (q2, .inl (c3, 200, .inl (fun _ => 0))), (q4, .inr (0, [.int 4, .int 2, .int 20, .int 0, .ref q5, .ref q7])), (q5, .inl (c6, 8, .inl (fun _ => 0))), (q7, .inr (2, [.int 0, .ref q8, .ref q10, .int 0])), (q8, .inl (c9, 6, .inl (fun _ => 0))), (q10, .inl (c11, 6, .inl (fun _ => 0))), (q12, .inr (0, [.int 4, .int 2, .int 20, .int 0, .ref q13, .ref q15])), (q13, .inl (c14, 8, .inl (fun _ => 0))), (q15, .inr (2, [.int 0, .ref q16, .ref q18, .int 0])), (q16, .inl (c17, 6, .inl (fun _ => 0))), (q18, .inl (c19, 6, .inl (fun _ => 0))), (q20, .inr (2, [.int 0, .ref q21, .ref q23, .int 0])), (q21, .inl (c22, 6, .inl (fun _ => 0))), (q23, .inl (c24, 6, .inl (fun _ => 0))), (q25, .inr (1, [.int 0, .ref q26, .ref q28, .ref q30])), (q26, .inl (c27, 8, .inl (fun _ => 0))), (q28, .inl (c29, 8, .inl (fun _ => 0))), (q30, .inl (c31, 8, .inl (fun _ => 0))), (q32, .inr (2, [.int 0, .ref q33, .ref q35, .int 0])), (q33, .inl (c34, 6, .inl (fun _ => 0))), (q35, .inl (c36, 6, .inl (fun _ => 0))), (q37, .inr (2, [.int 0, .ref q38, .ref q40, .int 0])), (q38, .inl (c39, 6, .inl (fun _ => 0))), (q40, .inl (c41, 6, .inl (fun _ => 0))), (q42, .inr (4, [.int 0, .ref q43, .int 0, .int 0, .ref q45, .ref q47, .ref q49])), (q43, .inl (c44, 6, .inl (fun _ => 0))), (q45, .inl (c46, 6, .inl (fun _ => 0))), (q47, .inl (c48, 6, .inl (fun _ => 0))), (q49, .inl (c50, 8, .inl (fun _ => 0))), (q51, .inr (3, [.ref q52, .ref q54, .int 0, .int 0, .long 0, .long 0, .long 0])), (q52, .inl (c53, 256, .inr (.inl (fun _ => 0)))), (q54, .inl (c55, 48, .inr (.inl (fun _ => 0)))), (q56, .inr (7, [.int 0, .int 0, .long 0, .long 0, .int 0])), (q57, .inl (c58, 3, .inr (.inr (.inr (.inr (va_up (va_up (fun _ => none) 0 (some q59)) 1 (some q62))))))), (q59, .inr (5, [.int 0, .int 0, .ref q60])), (q60, .inl (c61, 12, .inl (fun _ => 0))), (q62, .inr (5, [.int 0, .int 0, .ref q63])), (q63, .inl (c64, 12, .inl (fun _ => 0)))]) (wx2 := [(q65, .inr (5, dfX5))]) hc (fun h => h.2.2.2.2.2.2.2.1) iw_298 iw_74 iw_299 rfl rfl ⟨by decide +kernel, by decide +kernel, by decide +kernel⟩ (Nat.le_of_ble_eq_true rfl) (i_X5_init _ q65) rfl rfl (Nat.le_of_ble_eq_true rfl) ⟨Nat.le_of_ble_eq_true rfl, Nat.le_of_ble_eq_true rfl⟩ ⟨Nat.le_of_ble_eq_true rfl, Nat.le_of_ble_eq_true rfl⟩ dd_X8_init_138 rfl (fun wx' tys' hp => ?_)
  obtain ⟨q66, c67, rfl, rfl⟩ := hp
  refine cb_astT (q := 142) (i := 35) (j := 40) (t0 := 22) (k := 2) hc rfl rfl rfl (vp_in_nI (n := 2) (Nat.le_of_ble_eq_true rfl) (Nat.le_of_ble_eq_true rfl)) (by decide) dd_X8_init_141 rfl ?_
  refine cb_iinc (q := 145) (v := 3) (lv' := [some (.ref h0), some (.int 3)]) hc dd_X8_init_142 rfl rfl (by decide) (by decide) rfl ?_
  refine cb_goto (tg := 124) hc dd_X8_init_145 (by decide) ?_
  refine cb_iload_n (q := 125) hc dd_X8_init_124 rfl rfl ?_
  refine cb_iconst (q := 126) (v := 3) hc dd_X8_init_125 rfl (by decide) ?_
  refine cb_ge_t (tg := 148) hc dd_X8_init_126 (by decide) (by decide) ?_
  exact cb_vret hc rfl dd_X8_init_148 ⟨q1, q2, c3, q4, q5, c6, q7, q8, c9, q10, c11, q12, q13, c14, q15, q16, c17, q18, c19, q20, q21, c22, q23, c24, q25, q26, c27, q28, c29, q30, c31, q32, q33, c34, q35, c36, q37, q38, c39, q40, c41, q42, q43, c44, q45, c46, q47, c48, q49, c50, q51, q52, c53, q54, c55, q56, q57, c58, q59, q60, c61, q62, q63, c64, q65, q66, c67, rfl, rfl⟩
set_option maxHeartbeats 4000000 in
set_option maxRecDepth 100000 in
theorem i_X9_anew (wr wy : va_W) (h0 q1 : Nat) (c1 : ClassId) (f : Nat → Int32) (a1 a2 a3 a4 a5 : Value) (ft : List Value) (ty : Ty) : CC X9_anew 0 0 0 [.ref h0, .int 4] wr ((h0, .inr (9, .ref q1 :: a1 :: a2 :: a3 :: a4 :: a5 :: ft)) :: (q1, .inl (c1, 144, .inl f)) :: wy) ((c1, .int) :: ty) (fun wx' tys' => tys' = (c1, .int) :: ty ∧ ∃ g : Nat → Int32, wx' = (h0, .inr (9, .ref q1 :: .int 4 :: .int 2 :: .int 20 :: .int 0 :: .int 0 :: ft)) :: (q1, .inl (c1, 144, .inl g)) :: wy ∧ ∀ i, i < 6 → g (6 + i) = -1) := by
  refine CC.ofW (lv := [some (.ref h0), some (.int 4), none]) (by decide +kernel) (Nat.le_of_ble_eq_true rfl) (show lvLe _ [some (.ref h0), some (.int 4)] from lvs (lvs (lve lvz))) ?_
  intro p l e s m args below meth c D A hc
  refine cb_aload_n (q := 1) hc dd_X9_anew_0 rfl rfl ?_
  refine cb_iload_n (q := 2) hc dd_X9_anew_1 rfl rfl ?_
  refine cb_putI (q := 5) (i := 0) hc fl_X9_86 rfl (by simp) dd_X9_anew_2 rfl ?_
  refine cb_aload_n (q := 6) hc dd_X9_anew_5 rfl rfl ?_
  refine cb_iconst (q := 7) (v := 2) hc dd_X9_anew_6 rfl (by decide) ?_
  refine cb_putI (q := 10) (i := 0) hc fl_X9_90 rfl (by simp) dd_X9_anew_7 rfl ?_
  refine cb_aload_n (q := 11) hc dd_X9_anew_10 rfl rfl ?_
  refine cb_bipush (q := 13) (v := 20) hc dd_X9_anew_11 rfl (by decide) ?_
  refine cb_putI (q := 16) (i := 0) hc fl_X9_93 rfl (by simp) dd_X9_anew_13 rfl ?_
  refine cb_aload_n (q := 17) hc dd_X9_anew_16 rfl rfl ?_
  refine cb_iconst (q := 18) (v := 0) hc dd_X9_anew_17 rfl (by decide) ?_
  refine cb_putI (q := 21) (i := 0) hc fl_X9_96 rfl (by simp) dd_X9_anew_18 rfl ?_
  refine cb_aload_n (q := 22) hc dd_X9_anew_21 rfl rfl ?_
  refine cb_iconst (q := 23) (v := 0) hc dd_X9_anew_22 rfl (by decide) ?_
  refine cb_putI (q := 26) (i := 0) hc fl_X9_99 rfl (by simp) dd_X9_anew_23 rfl ?_
  refine cb_iconst (q := 27) (v := 0) hc dd_X9_anew_26 rfl (by decide) ?_
  refine cb_istore_n (q := 28) (lv' := [some (.ref h0), some (.int 4), some (.int 0)]) hc dd_X9_anew_27 rfl (by decide) rfl ?_
  refine cb_iload_n (q := 29) hc dd_X9_anew_28 rfl rfl ?_
  refine cb_bipush (q := 31) (v := 6) hc dd_X9_anew_29 rfl (by decide) ?_
  refine cb_ge_f (q := 34) (tg := 59) hc dd_X9_anew_31 rfl (by decide) (by decide) ?_
  refine cb_aload_n (q := 35) hc dd_X9_anew_34 rfl rfl ?_
  refine cb_getR (q := 38) (i := 0) hc fl_X9_7 rfl rfl dd_X9_anew_35 rfl ?_
  refine cb_iconst (q := 39) (v := 0) hc dd_X9_anew_38 rfl (by decide) ?_
  refine cb_iload_n (q := 40) hc dd_X9_anew_39 rfl rfl ?_
  refine cb_iadd (q := 41) (z := 0) hc dd_X9_anew_40 rfl (by decide) ?_
  refine cb_iconst (q := 42) (v := 0) hc dd_X9_anew_41 rfl (by decide) ?_
  refine cb_iast (q := 43) (i := 1) (t0 := 0) (k := 0) hc rfl rfl (vp_in_nI (n := 0) (Nat.le_of_ble_eq_true rfl) (Nat.le_of_ble_eq_true rfl)) (by decide) dd_X9_anew_42 rfl ?_
  refine cb_aload_n (q := 44) hc dd_X9_anew_43 rfl rfl ?_
  refine cb_getR (q := 47) (i := 0) hc fl_X9_7 rfl rfl dd_X9_anew_44 rfl ?_
  refine cb_bipush (q := 49) (v := 6) hc dd_X9_anew_47 rfl (by decide) ?_
  refine cb_iload_n (q := 50) hc dd_X9_anew_49 rfl rfl ?_
  refine cb_iadd (q := 51) (z := 6) hc dd_X9_anew_50 rfl (by decide) ?_
  refine cb_iconst (q := 52) (v := (-1)) hc dd_X9_anew_51 rfl (by decide) ?_
  refine cb_iast (q := 53) (i := 1) (t0 := 0) (k := 6) hc rfl rfl (vp_in_nI (n := 6) (Nat.le_of_ble_eq_true rfl) (Nat.le_of_ble_eq_true rfl)) (by decide) dd_X9_anew_52 rfl ?_
  refine cb_iinc (q := 56) (v := 1) (lv' := [some (.ref h0), some (.int 4), some (.int 1)]) hc dd_X9_anew_53 rfl rfl (by decide) (by decide) rfl ?_
  refine cb_goto (tg := 28) hc dd_X9_anew_56 (by decide) ?_
  refine cb_iload_n (q := 29) hc dd_X9_anew_28 rfl rfl ?_
  refine cb_bipush (q := 31) (v := 6) hc dd_X9_anew_29 rfl (by decide) ?_
  refine cb_ge_f (q := 34) (tg := 59) hc dd_X9_anew_31 rfl (by decide) (by decide) ?_
  refine cb_aload_n (q := 35) hc dd_X9_anew_34 rfl rfl ?_
  refine cb_getR (q := 38) (i := 0) hc fl_X9_7 rfl rfl dd_X9_anew_35 rfl ?_
  refine cb_iconst (q := 39) (v := 0) hc dd_X9_anew_38 rfl (by decide) ?_
  refine cb_iload_n (q := 40) hc dd_X9_anew_39 rfl rfl ?_
  refine cb_iadd (q := 41) (z := 1) hc dd_X9_anew_40 rfl (by decide) ?_
  refine cb_iconst (q := 42) (v := 0) hc dd_X9_anew_41 rfl (by decide) ?_
  refine cb_iast (q := 43) (i := 1) (t0 := 0) (k := 1) hc rfl rfl (vp_in_nI (n := 1) (Nat.le_of_ble_eq_true rfl) (Nat.le_of_ble_eq_true rfl)) (by decide) dd_X9_anew_42 rfl ?_
  refine cb_aload_n (q := 44) hc dd_X9_anew_43 rfl rfl ?_
  refine cb_getR (q := 47) (i := 0) hc fl_X9_7 rfl rfl dd_X9_anew_44 rfl ?_
  refine cb_bipush (q := 49) (v := 6) hc dd_X9_anew_47 rfl (by decide) ?_
  refine cb_iload_n (q := 50) hc dd_X9_anew_49 rfl rfl ?_
  refine cb_iadd (q := 51) (z := 7) hc dd_X9_anew_50 rfl (by decide) ?_
  refine cb_iconst (q := 52) (v := (-1)) hc dd_X9_anew_51 rfl (by decide) ?_
  refine cb_iast (q := 53) (i := 1) (t0 := 0) (k := 7) hc rfl rfl (vp_in_nI (n := 7) (Nat.le_of_ble_eq_true rfl) (Nat.le_of_ble_eq_true rfl)) (by decide) dd_X9_anew_52 rfl ?_
  refine cb_iinc (q := 56) (v := 2) (lv' := [some (.ref h0), some (.int 4), some (.int 2)]) hc dd_X9_anew_53 rfl rfl (by decide) (by decide) rfl ?_
  refine cb_goto (tg := 28) hc dd_X9_anew_56 (by decide) ?_
  refine cb_iload_n (q := 29) hc dd_X9_anew_28 rfl rfl ?_
  refine cb_bipush (q := 31) (v := 6) hc dd_X9_anew_29 rfl (by decide) ?_
  refine cb_ge_f (q := 34) (tg := 59) hc dd_X9_anew_31 rfl (by decide) (by decide) ?_
  refine cb_aload_n (q := 35) hc dd_X9_anew_34 rfl rfl ?_
  refine cb_getR (q := 38) (i := 0) hc fl_X9_7 rfl rfl dd_X9_anew_35 rfl ?_
  refine cb_iconst (q := 39) (v := 0) hc dd_X9_anew_38 rfl (by decide) ?_
  refine cb_iload_n (q := 40) hc dd_X9_anew_39 rfl rfl ?_
  refine cb_iadd (q := 41) (z := 2) hc dd_X9_anew_40 rfl (by decide) ?_
  refine cb_iconst (q := 42) (v := 0) hc dd_X9_anew_41 rfl (by decide) ?_
  refine cb_iast (q := 43) (i := 1) (t0 := 0) (k := 2) hc rfl rfl (vp_in_nI (n := 2) (Nat.le_of_ble_eq_true rfl) (Nat.le_of_ble_eq_true rfl)) (by decide) dd_X9_anew_42 rfl ?_
  refine cb_aload_n (q := 44) hc dd_X9_anew_43 rfl rfl ?_
  refine cb_getR (q := 47) (i := 0) hc fl_X9_7 rfl rfl dd_X9_anew_44 rfl ?_
  refine cb_bipush (q := 49) (v := 6) hc dd_X9_anew_47 rfl (by decide) ?_
  refine cb_iload_n (q := 50) hc dd_X9_anew_49 rfl rfl ?_
  refine cb_iadd (q := 51) (z := 8) hc dd_X9_anew_50 rfl (by decide) ?_
  refine cb_iconst (q := 52) (v := (-1)) hc dd_X9_anew_51 rfl (by decide) ?_
  refine cb_iast (q := 53) (i := 1) (t0 := 0) (k := 8) hc rfl rfl (vp_in_nI (n := 8) (Nat.le_of_ble_eq_true rfl) (Nat.le_of_ble_eq_true rfl)) (by decide) dd_X9_anew_52 rfl ?_
  refine cb_iinc (q := 56) (v := 3) (lv' := [some (.ref h0), some (.int 4), some (.int 3)]) hc dd_X9_anew_53 rfl rfl (by decide) (by decide) rfl ?_
  refine cb_goto (tg := 28) hc dd_X9_anew_56 (by decide) ?_
  refine cb_iload_n (q := 29) hc dd_X9_anew_28 rfl rfl ?_
  refine cb_bipush (q := 31) (v := 6) hc dd_X9_anew_29 rfl (by decide) ?_
  refine cb_ge_f (q := 34) (tg := 59) hc dd_X9_anew_31 rfl (by decide) (by decide) ?_
  refine cb_aload_n (q := 35) hc dd_X9_anew_34 rfl rfl ?_
  refine cb_getR (q := 38) (i := 0) hc fl_X9_7 rfl rfl dd_X9_anew_35 rfl ?_
  refine cb_iconst (q := 39) (v := 0) hc dd_X9_anew_38 rfl (by decide) ?_
  refine cb_iload_n (q := 40) hc dd_X9_anew_39 rfl rfl ?_
  refine cb_iadd (q := 41) (z := 3) hc dd_X9_anew_40 rfl (by decide) ?_
  refine cb_iconst (q := 42) (v := 0) hc dd_X9_anew_41 rfl (by decide) ?_
  refine cb_iast (q := 43) (i := 1) (t0 := 0) (k := 3) hc rfl rfl (vp_in_nI (n := 3) (Nat.le_of_ble_eq_true rfl) (Nat.le_of_ble_eq_true rfl)) (by decide) dd_X9_anew_42 rfl ?_
  refine cb_aload_n (q := 44) hc dd_X9_anew_43 rfl rfl ?_
  refine cb_getR (q := 47) (i := 0) hc fl_X9_7 rfl rfl dd_X9_anew_44 rfl ?_
  refine cb_bipush (q := 49) (v := 6) hc dd_X9_anew_47 rfl (by decide) ?_
  refine cb_iload_n (q := 50) hc dd_X9_anew_49 rfl rfl ?_
  refine cb_iadd (q := 51) (z := 9) hc dd_X9_anew_50 rfl (by decide) ?_
  refine cb_iconst (q := 52) (v := (-1)) hc dd_X9_anew_51 rfl (by decide) ?_
  refine cb_iast (q := 53) (i := 1) (t0 := 0) (k := 9) hc rfl rfl (vp_in_nI (n := 9) (Nat.le_of_ble_eq_true rfl) (Nat.le_of_ble_eq_true rfl)) (by decide) dd_X9_anew_52 rfl ?_
  refine cb_iinc (q := 56) (v := 4) (lv' := [some (.ref h0), some (.int 4), some (.int 4)]) hc dd_X9_anew_53 rfl rfl (by decide) (by decide) rfl ?_
  refine cb_goto (tg := 28) hc dd_X9_anew_56 (by decide) ?_
  refine cb_iload_n (q := 29) hc dd_X9_anew_28 rfl rfl ?_
  refine cb_bipush (q := 31) (v := 6) hc dd_X9_anew_29 rfl (by decide) ?_
  refine cb_ge_f (q := 34) (tg := 59) hc dd_X9_anew_31 rfl (by decide) (by decide) ?_
  refine cb_aload_n (q := 35) hc dd_X9_anew_34 rfl rfl ?_
  refine cb_getR (q := 38) (i := 0) hc fl_X9_7 rfl rfl dd_X9_anew_35 rfl ?_
  refine cb_iconst (q := 39) (v := 0) hc dd_X9_anew_38 rfl (by decide) ?_
  refine cb_iload_n (q := 40) hc dd_X9_anew_39 rfl rfl ?_
  refine cb_iadd (q := 41) (z := 4) hc dd_X9_anew_40 rfl (by decide) ?_
  refine cb_iconst (q := 42) (v := 0) hc dd_X9_anew_41 rfl (by decide) ?_
  refine cb_iast (q := 43) (i := 1) (t0 := 0) (k := 4) hc rfl rfl (vp_in_nI (n := 4) (Nat.le_of_ble_eq_true rfl) (Nat.le_of_ble_eq_true rfl)) (by decide) dd_X9_anew_42 rfl ?_
  refine cb_aload_n (q := 44) hc dd_X9_anew_43 rfl rfl ?_
  refine cb_getR (q := 47) (i := 0) hc fl_X9_7 rfl rfl dd_X9_anew_44 rfl ?_
  refine cb_bipush (q := 49) (v := 6) hc dd_X9_anew_47 rfl (by decide) ?_
  refine cb_iload_n (q := 50) hc dd_X9_anew_49 rfl rfl ?_
  refine cb_iadd (q := 51) (z := 10) hc dd_X9_anew_50 rfl (by decide) ?_
  refine cb_iconst (q := 52) (v := (-1)) hc dd_X9_anew_51 rfl (by decide) ?_
  refine cb_iast (q := 53) (i := 1) (t0 := 0) (k := 10) hc rfl rfl (vp_in_nI (n := 10) (Nat.le_of_ble_eq_true rfl) (Nat.le_of_ble_eq_true rfl)) (by decide) dd_X9_anew_52 rfl ?_
  refine cb_iinc (q := 56) (v := 5) (lv' := [some (.ref h0), some (.int 4), some (.int 5)]) hc dd_X9_anew_53 rfl rfl (by decide) (by decide) rfl ?_
  refine cb_goto (tg := 28) hc dd_X9_anew_56 (by decide) ?_
  refine cb_iload_n (q := 29) hc dd_X9_anew_28 rfl rfl ?_
  refine cb_bipush (q := 31) (v := 6) hc dd_X9_anew_29 rfl (by decide) ?_
  refine cb_ge_f (q := 34) (tg := 59) hc dd_X9_anew_31 rfl (by decide) (by decide) ?_
  refine cb_aload_n (q := 35) hc dd_X9_anew_34 rfl rfl ?_
  refine cb_getR (q := 38) (i := 0) hc fl_X9_7 rfl rfl dd_X9_anew_35 rfl ?_
  refine cb_iconst (q := 39) (v := 0) hc dd_X9_anew_38 rfl (by decide) ?_
  refine cb_iload_n (q := 40) hc dd_X9_anew_39 rfl rfl ?_
  refine cb_iadd (q := 41) (z := 5) hc dd_X9_anew_40 rfl (by decide) ?_
  refine cb_iconst (q := 42) (v := 0) hc dd_X9_anew_41 rfl (by decide) ?_
  refine cb_iast (q := 43) (i := 1) (t0 := 0) (k := 5) hc rfl rfl (vp_in_nI (n := 5) (Nat.le_of_ble_eq_true rfl) (Nat.le_of_ble_eq_true rfl)) (by decide) dd_X9_anew_42 rfl ?_
  refine cb_aload_n (q := 44) hc dd_X9_anew_43 rfl rfl ?_
  refine cb_getR (q := 47) (i := 0) hc fl_X9_7 rfl rfl dd_X9_anew_44 rfl ?_
  refine cb_bipush (q := 49) (v := 6) hc dd_X9_anew_47 rfl (by decide) ?_
  refine cb_iload_n (q := 50) hc dd_X9_anew_49 rfl rfl ?_
  refine cb_iadd (q := 51) (z := 11) hc dd_X9_anew_50 rfl (by decide) ?_
  refine cb_iconst (q := 52) (v := (-1)) hc dd_X9_anew_51 rfl (by decide) ?_
  refine cb_iast (q := 53) (i := 1) (t0 := 0) (k := 11) hc rfl rfl (vp_in_nI (n := 11) (Nat.le_of_ble_eq_true rfl) (Nat.le_of_ble_eq_true rfl)) (by decide) dd_X9_anew_52 rfl ?_
  refine cb_iinc (q := 56) (v := 6) (lv' := [some (.ref h0), some (.int 4), some (.int 6)]) hc dd_X9_anew_53 rfl rfl (by decide) (by decide) rfl ?_
  refine cb_goto (tg := 28) hc dd_X9_anew_56 (by decide) ?_
  refine cb_iload_n (q := 29) hc dd_X9_anew_28 rfl rfl ?_
  refine cb_bipush (q := 31) (v := 6) hc dd_X9_anew_29 rfl (by decide) ?_
  refine cb_ge_t (tg := 59) hc dd_X9_anew_31 (by decide) (by decide) ?_
  refine cb_vret hc rfl dd_X9_anew_59 ⟨rfl, _, rfl, fun i hi => ?_⟩
  match i, hi with
  | 0, _ => rfl
  | 1, _ => rfl
  | 2, _ => rfl
  | 3, _ => rfl
  | 4, _ => rfl
  | 5, _ => rfl
set_option maxHeartbeats 4000000 in
set_option maxRecDepth 100000 in
theorem i_X9_copyRow (wr wy : va_W) (h0 q1 : Nat) (c1 : ClassId) (f : Nat → Int32) (ft : List Value) (ty : Ty) : CC X9_copyRow 0 0 0 [.ref h0, .int 0, .int 132] wr ((h0, .inr (9, .ref q1 :: ft)) :: (q1, .inl (c1, 144, .inl f)) :: wy) ((c1, .int) :: ty) (fun wx' tys' => tys' = (c1, .int) :: ty ∧ ∃ g : Nat → Int32, wx' = (h0, .inr (9, .ref q1 :: ft)) :: (q1, .inl (c1, 144, .inl g)) :: wy ∧ ∀ i, i < 12 → g (132 + i) = f i) := by
  refine CC.ofW (lv := [some (.ref h0), some (.int 0), some (.int 132), none]) (by decide +kernel) (Nat.le_of_ble_eq_true rfl) (show lvLe _ [some (.ref h0), some (.int 0), some (.int 132)] from lvs (lvs (lvs (lve lvz)))) ?_
  intro p l e s m args below meth c D A hc
  refine cb_iconst (q := 1) (v := 0) hc dd_X9_copyRow_0 rfl (by decide) ?_
  refine cb_istore_n (q := 2) (lv' := [some (.ref h0), some (.int 0), some (.int 132), some (.int 0)]) hc dd_X9_copyRow_1 rfl (by decide) rfl ?_
  refine cb_iload_n (q := 3) hc dd_X9_copyRow_2 rfl rfl ?_
  refine cb_bipush (q := 5) (v := 12) hc dd_X9_copyRow_3 rfl (by decide) ?_
  refine cb_ge_f (q := 8) (tg := 30) hc dd_X9_copyRow_5 rfl (by decide) (by decide) ?_
  refine cb_aload_n (q := 9) hc dd_X9_copyRow_8 rfl rfl ?_
  refine cb_getR (q := 12) (i := 0) hc fl_X9_7 rfl rfl dd_X9_copyRow_9 rfl ?_
  refine cb_iload_n (q := 13) hc dd_X9_copyRow_12 rfl rfl ?_
  refine cb_iload_n (q := 14) hc dd_X9_copyRow_13 rfl rfl ?_
  refine cb_iadd (q := 15) (z := 132) hc dd_X9_copyRow_14 rfl (by decide) ?_
  refine cb_aload_n (q := 16) hc dd_X9_copyRow_15 rfl rfl ?_
  refine cb_getR (q := 19) (i := 0) hc fl_X9_7 rfl rfl dd_X9_copyRow_16 rfl ?_
  refine cb_iload_n (q := 20) hc dd_X9_copyRow_19 rfl rfl ?_
  refine cb_iload_n (q := 21) hc dd_X9_copyRow_20 rfl rfl ?_
  refine cb_iadd (q := 22) (z := 0) hc dd_X9_copyRow_21 rfl (by decide) ?_
  refine cb_iald (q := 23) (i := 1) (t0 := 0) (k := 0) hc rfl rfl (vp_in_nI (n := 0) (Nat.le_of_ble_eq_true rfl) (Nat.le_of_ble_eq_true rfl)) (by decide) rfl dd_X9_copyRow_22 rfl ?_
  refine cb_iast (q := 24) (i := 1) (t0 := 0) (k := 132) hc rfl rfl (vp_in_nI (n := 132) (Nat.le_of_ble_eq_true rfl) (Nat.le_of_ble_eq_true rfl)) (by decide) dd_X9_copyRow_23 rfl ?_
  refine cb_iinc (q := 27) (v := 1) (lv' := [some (.ref h0), some (.int 0), some (.int 132), some (.int 1)]) hc dd_X9_copyRow_24 rfl rfl (by decide) (by decide) rfl ?_
  refine cb_goto (tg := 2) hc dd_X9_copyRow_27 (by decide) ?_
  refine cb_iload_n (q := 3) hc dd_X9_copyRow_2 rfl rfl ?_
  refine cb_bipush (q := 5) (v := 12) hc dd_X9_copyRow_3 rfl (by decide) ?_
  refine cb_ge_f (q := 8) (tg := 30) hc dd_X9_copyRow_5 rfl (by decide) (by decide) ?_
  refine cb_aload_n (q := 9) hc dd_X9_copyRow_8 rfl rfl ?_
  refine cb_getR (q := 12) (i := 0) hc fl_X9_7 rfl rfl dd_X9_copyRow_9 rfl ?_
  refine cb_iload_n (q := 13) hc dd_X9_copyRow_12 rfl rfl ?_
  refine cb_iload_n (q := 14) hc dd_X9_copyRow_13 rfl rfl ?_
  refine cb_iadd (q := 15) (z := 133) hc dd_X9_copyRow_14 rfl (by decide) ?_
  refine cb_aload_n (q := 16) hc dd_X9_copyRow_15 rfl rfl ?_
  refine cb_getR (q := 19) (i := 0) hc fl_X9_7 rfl rfl dd_X9_copyRow_16 rfl ?_
  refine cb_iload_n (q := 20) hc dd_X9_copyRow_19 rfl rfl ?_
  refine cb_iload_n (q := 21) hc dd_X9_copyRow_20 rfl rfl ?_
  refine cb_iadd (q := 22) (z := 1) hc dd_X9_copyRow_21 rfl (by decide) ?_
  refine cb_iald (q := 23) (i := 1) (t0 := 0) (k := 1) hc rfl rfl (vp_in_nI (n := 1) (Nat.le_of_ble_eq_true rfl) (Nat.le_of_ble_eq_true rfl)) (by decide) rfl dd_X9_copyRow_22 rfl ?_
  refine cb_iast (q := 24) (i := 1) (t0 := 0) (k := 133) hc rfl rfl (vp_in_nI (n := 133) (Nat.le_of_ble_eq_true rfl) (Nat.le_of_ble_eq_true rfl)) (by decide) dd_X9_copyRow_23 rfl ?_
  refine cb_iinc (q := 27) (v := 2) (lv' := [some (.ref h0), some (.int 0), some (.int 132), some (.int 2)]) hc dd_X9_copyRow_24 rfl rfl (by decide) (by decide) rfl ?_
  refine cb_goto (tg := 2) hc dd_X9_copyRow_27 (by decide) ?_
  refine cb_iload_n (q := 3) hc dd_X9_copyRow_2 rfl rfl ?_
  refine cb_bipush (q := 5) (v := 12) hc dd_X9_copyRow_3 rfl (by decide) ?_
  refine cb_ge_f (q := 8) (tg := 30) hc dd_X9_copyRow_5 rfl (by decide) (by decide) ?_
  refine cb_aload_n (q := 9) hc dd_X9_copyRow_8 rfl rfl ?_
  refine cb_getR (q := 12) (i := 0) hc fl_X9_7 rfl rfl dd_X9_copyRow_9 rfl ?_
  refine cb_iload_n (q := 13) hc dd_X9_copyRow_12 rfl rfl ?_
  refine cb_iload_n (q := 14) hc dd_X9_copyRow_13 rfl rfl ?_
  refine cb_iadd (q := 15) (z := 134) hc dd_X9_copyRow_14 rfl (by decide) ?_
  refine cb_aload_n (q := 16) hc dd_X9_copyRow_15 rfl rfl ?_
  refine cb_getR (q := 19) (i := 0) hc fl_X9_7 rfl rfl dd_X9_copyRow_16 rfl ?_
  refine cb_iload_n (q := 20) hc dd_X9_copyRow_19 rfl rfl ?_
  refine cb_iload_n (q := 21) hc dd_X9_copyRow_20 rfl rfl ?_
  refine cb_iadd (q := 22) (z := 2) hc dd_X9_copyRow_21 rfl (by decide) ?_
  refine cb_iald (q := 23) (i := 1) (t0 := 0) (k := 2) hc rfl rfl (vp_in_nI (n := 2) (Nat.le_of_ble_eq_true rfl) (Nat.le_of_ble_eq_true rfl)) (by decide) rfl dd_X9_copyRow_22 rfl ?_
  refine cb_iast (q := 24) (i := 1) (t0 := 0) (k := 134) hc rfl rfl (vp_in_nI (n := 134) (Nat.le_of_ble_eq_true rfl) (Nat.le_of_ble_eq_true rfl)) (by decide) dd_X9_copyRow_23 rfl ?_
  refine cb_iinc (q := 27) (v := 3) (lv' := [some (.ref h0), some (.int 0), some (.int 132), some (.int 3)]) hc dd_X9_copyRow_24 rfl rfl (by decide) (by decide) rfl ?_
  refine cb_goto (tg := 2) hc dd_X9_copyRow_27 (by decide) ?_
  refine cb_iload_n (q := 3) hc dd_X9_copyRow_2 rfl rfl ?_
  refine cb_bipush (q := 5) (v := 12) hc dd_X9_copyRow_3 rfl (by decide) ?_
  refine cb_ge_f (q := 8) (tg := 30) hc dd_X9_copyRow_5 rfl (by decide) (by decide) ?_
  refine cb_aload_n (q := 9) hc dd_X9_copyRow_8 rfl rfl ?_
  refine cb_getR (q := 12) (i := 0) hc fl_X9_7 rfl rfl dd_X9_copyRow_9 rfl ?_
  refine cb_iload_n (q := 13) hc dd_X9_copyRow_12 rfl rfl ?_
  refine cb_iload_n (q := 14) hc dd_X9_copyRow_13 rfl rfl ?_
  refine cb_iadd (q := 15) (z := 135) hc dd_X9_copyRow_14 rfl (by decide) ?_
  refine cb_aload_n (q := 16) hc dd_X9_copyRow_15 rfl rfl ?_
  refine cb_getR (q := 19) (i := 0) hc fl_X9_7 rfl rfl dd_X9_copyRow_16 rfl ?_
  refine cb_iload_n (q := 20) hc dd_X9_copyRow_19 rfl rfl ?_
  refine cb_iload_n (q := 21) hc dd_X9_copyRow_20 rfl rfl ?_
  refine cb_iadd (q := 22) (z := 3) hc dd_X9_copyRow_21 rfl (by decide) ?_
  refine cb_iald (q := 23) (i := 1) (t0 := 0) (k := 3) hc rfl rfl (vp_in_nI (n := 3) (Nat.le_of_ble_eq_true rfl) (Nat.le_of_ble_eq_true rfl)) (by decide) rfl dd_X9_copyRow_22 rfl ?_
  refine cb_iast (q := 24) (i := 1) (t0 := 0) (k := 135) hc rfl rfl (vp_in_nI (n := 135) (Nat.le_of_ble_eq_true rfl) (Nat.le_of_ble_eq_true rfl)) (by decide) dd_X9_copyRow_23 rfl ?_
  refine cb_iinc (q := 27) (v := 4) (lv' := [some (.ref h0), some (.int 0), some (.int 132), some (.int 4)]) hc dd_X9_copyRow_24 rfl rfl (by decide) (by decide) rfl ?_
  refine cb_goto (tg := 2) hc dd_X9_copyRow_27 (by decide) ?_
  refine cb_iload_n (q := 3) hc dd_X9_copyRow_2 rfl rfl ?_
  refine cb_bipush (q := 5) (v := 12) hc dd_X9_copyRow_3 rfl (by decide) ?_
  refine cb_ge_f (q := 8) (tg := 30) hc dd_X9_copyRow_5 rfl (by decide) (by decide) ?_
  refine cb_aload_n (q := 9) hc dd_X9_copyRow_8 rfl rfl ?_
  refine cb_getR (q := 12) (i := 0) hc fl_X9_7 rfl rfl dd_X9_copyRow_9 rfl ?_
  refine cb_iload_n (q := 13) hc dd_X9_copyRow_12 rfl rfl ?_
  refine cb_iload_n (q := 14) hc dd_X9_copyRow_13 rfl rfl ?_
  refine cb_iadd (q := 15) (z := 136) hc dd_X9_copyRow_14 rfl (by decide) ?_
  refine cb_aload_n (q := 16) hc dd_X9_copyRow_15 rfl rfl ?_
  refine cb_getR (q := 19) (i := 0) hc fl_X9_7 rfl rfl dd_X9_copyRow_16 rfl ?_
  refine cb_iload_n (q := 20) hc dd_X9_copyRow_19 rfl rfl ?_
  refine cb_iload_n (q := 21) hc dd_X9_copyRow_20 rfl rfl ?_
  refine cb_iadd (q := 22) (z := 4) hc dd_X9_copyRow_21 rfl (by decide) ?_
  refine cb_iald (q := 23) (i := 1) (t0 := 0) (k := 4) hc rfl rfl (vp_in_nI (n := 4) (Nat.le_of_ble_eq_true rfl) (Nat.le_of_ble_eq_true rfl)) (by decide) rfl dd_X9_copyRow_22 rfl ?_
  refine cb_iast (q := 24) (i := 1) (t0 := 0) (k := 136) hc rfl rfl (vp_in_nI (n := 136) (Nat.le_of_ble_eq_true rfl) (Nat.le_of_ble_eq_true rfl)) (by decide) dd_X9_copyRow_23 rfl ?_
  refine cb_iinc (q := 27) (v := 5) (lv' := [some (.ref h0), some (.int 0), some (.int 132), some (.int 5)]) hc dd_X9_copyRow_24 rfl rfl (by decide) (by decide) rfl ?_
  refine cb_goto (tg := 2) hc dd_X9_copyRow_27 (by decide) ?_
  refine cb_iload_n (q := 3) hc dd_X9_copyRow_2 rfl rfl ?_
  refine cb_bipush (q := 5) (v := 12) hc dd_X9_copyRow_3 rfl (by decide) ?_
  refine cb_ge_f (q := 8) (tg := 30) hc dd_X9_copyRow_5 rfl (by decide) (by decide) ?_
  refine cb_aload_n (q := 9) hc dd_X9_copyRow_8 rfl rfl ?_
  refine cb_getR (q := 12) (i := 0) hc fl_X9_7 rfl rfl dd_X9_copyRow_9 rfl ?_
  refine cb_iload_n (q := 13) hc dd_X9_copyRow_12 rfl rfl ?_
  refine cb_iload_n (q := 14) hc dd_X9_copyRow_13 rfl rfl ?_
  refine cb_iadd (q := 15) (z := 137) hc dd_X9_copyRow_14 rfl (by decide) ?_
  refine cb_aload_n (q := 16) hc dd_X9_copyRow_15 rfl rfl ?_
  refine cb_getR (q := 19) (i := 0) hc fl_X9_7 rfl rfl dd_X9_copyRow_16 rfl ?_
  refine cb_iload_n (q := 20) hc dd_X9_copyRow_19 rfl rfl ?_
  refine cb_iload_n (q := 21) hc dd_X9_copyRow_20 rfl rfl ?_
  refine cb_iadd (q := 22) (z := 5) hc dd_X9_copyRow_21 rfl (by decide) ?_
  refine cb_iald (q := 23) (i := 1) (t0 := 0) (k := 5) hc rfl rfl (vp_in_nI (n := 5) (Nat.le_of_ble_eq_true rfl) (Nat.le_of_ble_eq_true rfl)) (by decide) rfl dd_X9_copyRow_22 rfl ?_
  refine cb_iast (q := 24) (i := 1) (t0 := 0) (k := 137) hc rfl rfl (vp_in_nI (n := 137) (Nat.le_of_ble_eq_true rfl) (Nat.le_of_ble_eq_true rfl)) (by decide) dd_X9_copyRow_23 rfl ?_
  refine cb_iinc (q := 27) (v := 6) (lv' := [some (.ref h0), some (.int 0), some (.int 132), some (.int 6)]) hc dd_X9_copyRow_24 rfl rfl (by decide) (by decide) rfl ?_
  refine cb_goto (tg := 2) hc dd_X9_copyRow_27 (by decide) ?_
  refine cb_iload_n (q := 3) hc dd_X9_copyRow_2 rfl rfl ?_
  refine cb_bipush (q := 5) (v := 12) hc dd_X9_copyRow_3 rfl (by decide) ?_
  refine cb_ge_f (q := 8) (tg := 30) hc dd_X9_copyRow_5 rfl (by decide) (by decide) ?_
  refine cb_aload_n (q := 9) hc dd_X9_copyRow_8 rfl rfl ?_
  refine cb_getR (q := 12) (i := 0) hc fl_X9_7 rfl rfl dd_X9_copyRow_9 rfl ?_
  refine cb_iload_n (q := 13) hc dd_X9_copyRow_12 rfl rfl ?_
  refine cb_iload_n (q := 14) hc dd_X9_copyRow_13 rfl rfl ?_
  refine cb_iadd (q := 15) (z := 138) hc dd_X9_copyRow_14 rfl (by decide) ?_
  refine cb_aload_n (q := 16) hc dd_X9_copyRow_15 rfl rfl ?_
  refine cb_getR (q := 19) (i := 0) hc fl_X9_7 rfl rfl dd_X9_copyRow_16 rfl ?_
  refine cb_iload_n (q := 20) hc dd_X9_copyRow_19 rfl rfl ?_
  refine cb_iload_n (q := 21) hc dd_X9_copyRow_20 rfl rfl ?_
  refine cb_iadd (q := 22) (z := 6) hc dd_X9_copyRow_21 rfl (by decide) ?_
  refine cb_iald (q := 23) (i := 1) (t0 := 0) (k := 6) hc rfl rfl (vp_in_nI (n := 6) (Nat.le_of_ble_eq_true rfl) (Nat.le_of_ble_eq_true rfl)) (by decide) rfl dd_X9_copyRow_22 rfl ?_
  refine cb_iast (q := 24) (i := 1) (t0 := 0) (k := 138) hc rfl rfl (vp_in_nI (n := 138) (Nat.le_of_ble_eq_true rfl) (Nat.le_of_ble_eq_true rfl)) (by decide) dd_X9_copyRow_23 rfl ?_
  refine cb_iinc (q := 27) (v := 7) (lv' := [some (.ref h0), some (.int 0), some (.int 132), some (.int 7)]) hc dd_X9_copyRow_24 rfl rfl (by decide) (by decide) rfl ?_
  refine cb_goto (tg := 2) hc dd_X9_copyRow_27 (by decide) ?_
  refine cb_iload_n (q := 3) hc dd_X9_copyRow_2 rfl rfl ?_
  refine cb_bipush (q := 5) (v := 12) hc dd_X9_copyRow_3 rfl (by decide) ?_
  refine cb_ge_f (q := 8) (tg := 30) hc dd_X9_copyRow_5 rfl (by decide) (by decide) ?_
  refine cb_aload_n (q := 9) hc dd_X9_copyRow_8 rfl rfl ?_
  refine cb_getR (q := 12) (i := 0) hc fl_X9_7 rfl rfl dd_X9_copyRow_9 rfl ?_
  refine cb_iload_n (q := 13) hc dd_X9_copyRow_12 rfl rfl ?_
  refine cb_iload_n (q := 14) hc dd_X9_copyRow_13 rfl rfl ?_
  refine cb_iadd (q := 15) (z := 139) hc dd_X9_copyRow_14 rfl (by decide) ?_
  refine cb_aload_n (q := 16) hc dd_X9_copyRow_15 rfl rfl ?_
  refine cb_getR (q := 19) (i := 0) hc fl_X9_7 rfl rfl dd_X9_copyRow_16 rfl ?_
  refine cb_iload_n (q := 20) hc dd_X9_copyRow_19 rfl rfl ?_
  refine cb_iload_n (q := 21) hc dd_X9_copyRow_20 rfl rfl ?_
  refine cb_iadd (q := 22) (z := 7) hc dd_X9_copyRow_21 rfl (by decide) ?_
  refine cb_iald (q := 23) (i := 1) (t0 := 0) (k := 7) hc rfl rfl (vp_in_nI (n := 7) (Nat.le_of_ble_eq_true rfl) (Nat.le_of_ble_eq_true rfl)) (by decide) rfl dd_X9_copyRow_22 rfl ?_
  refine cb_iast (q := 24) (i := 1) (t0 := 0) (k := 139) hc rfl rfl (vp_in_nI (n := 139) (Nat.le_of_ble_eq_true rfl) (Nat.le_of_ble_eq_true rfl)) (by decide) dd_X9_copyRow_23 rfl ?_
  refine cb_iinc (q := 27) (v := 8) (lv' := [some (.ref h0), some (.int 0), some (.int 132), some (.int 8)]) hc dd_X9_copyRow_24 rfl rfl (by decide) (by decide) rfl ?_
  refine cb_goto (tg := 2) hc dd_X9_copyRow_27 (by decide) ?_
  refine cb_iload_n (q := 3) hc dd_X9_copyRow_2 rfl rfl ?_
  refine cb_bipush (q := 5) (v := 12) hc dd_X9_copyRow_3 rfl (by decide) ?_
  refine cb_ge_f (q := 8) (tg := 30) hc dd_X9_copyRow_5 rfl (by decide) (by decide) ?_
  refine cb_aload_n (q := 9) hc dd_X9_copyRow_8 rfl rfl ?_
  refine cb_getR (q := 12) (i := 0) hc fl_X9_7 rfl rfl dd_X9_copyRow_9 rfl ?_
  refine cb_iload_n (q := 13) hc dd_X9_copyRow_12 rfl rfl ?_
  refine cb_iload_n (q := 14) hc dd_X9_copyRow_13 rfl rfl ?_
  refine cb_iadd (q := 15) (z := 140) hc dd_X9_copyRow_14 rfl (by decide) ?_
  refine cb_aload_n (q := 16) hc dd_X9_copyRow_15 rfl rfl ?_
  refine cb_getR (q := 19) (i := 0) hc fl_X9_7 rfl rfl dd_X9_copyRow_16 rfl ?_
  refine cb_iload_n (q := 20) hc dd_X9_copyRow_19 rfl rfl ?_
  refine cb_iload_n (q := 21) hc dd_X9_copyRow_20 rfl rfl ?_
  refine cb_iadd (q := 22) (z := 8) hc dd_X9_copyRow_21 rfl (by decide) ?_
  refine cb_iald (q := 23) (i := 1) (t0 := 0) (k := 8) hc rfl rfl (vp_in_nI (n := 8) (Nat.le_of_ble_eq_true rfl) (Nat.le_of_ble_eq_true rfl)) (by decide) rfl dd_X9_copyRow_22 rfl ?_
  refine cb_iast (q := 24) (i := 1) (t0 := 0) (k := 140) hc rfl rfl (vp_in_nI (n := 140) (Nat.le_of_ble_eq_true rfl) (Nat.le_of_ble_eq_true rfl)) (by decide) dd_X9_copyRow_23 rfl ?_
  refine cb_iinc (q := 27) (v := 9) (lv' := [some (.ref h0), some (.int 0), some (.int 132), some (.int 9)]) hc dd_X9_copyRow_24 rfl rfl (by decide) (by decide) rfl ?_
  refine cb_goto (tg := 2) hc dd_X9_copyRow_27 (by decide) ?_
  refine cb_iload_n (q := 3) hc dd_X9_copyRow_2 rfl rfl ?_
  refine cb_bipush (q := 5) (v := 12) hc dd_X9_copyRow_3 rfl (by decide) ?_
  refine cb_ge_f (q := 8) (tg := 30) hc dd_X9_copyRow_5 rfl (by decide) (by decide) ?_
  refine cb_aload_n (q := 9) hc dd_X9_copyRow_8 rfl rfl ?_
  refine cb_getR (q := 12) (i := 0) hc fl_X9_7 rfl rfl dd_X9_copyRow_9 rfl ?_
  refine cb_iload_n (q := 13) hc dd_X9_copyRow_12 rfl rfl ?_
  refine cb_iload_n (q := 14) hc dd_X9_copyRow_13 rfl rfl ?_
  refine cb_iadd (q := 15) (z := 141) hc dd_X9_copyRow_14 rfl (by decide) ?_
  refine cb_aload_n (q := 16) hc dd_X9_copyRow_15 rfl rfl ?_
  refine cb_getR (q := 19) (i := 0) hc fl_X9_7 rfl rfl dd_X9_copyRow_16 rfl ?_
  refine cb_iload_n (q := 20) hc dd_X9_copyRow_19 rfl rfl ?_
  refine cb_iload_n (q := 21) hc dd_X9_copyRow_20 rfl rfl ?_
  refine cb_iadd (q := 22) (z := 9) hc dd_X9_copyRow_21 rfl (by decide) ?_
  refine cb_iald (q := 23) (i := 1) (t0 := 0) (k := 9) hc rfl rfl (vp_in_nI (n := 9) (Nat.le_of_ble_eq_true rfl) (Nat.le_of_ble_eq_true rfl)) (by decide) rfl dd_X9_copyRow_22 rfl ?_
  refine cb_iast (q := 24) (i := 1) (t0 := 0) (k := 141) hc rfl rfl (vp_in_nI (n := 141) (Nat.le_of_ble_eq_true rfl) (Nat.le_of_ble_eq_true rfl)) (by decide) dd_X9_copyRow_23 rfl ?_
  refine cb_iinc (q := 27) (v := 10) (lv' := [some (.ref h0), some (.int 0), some (.int 132), some (.int 10)]) hc dd_X9_copyRow_24 rfl rfl (by decide) (by decide) rfl ?_
  refine cb_goto (tg := 2) hc dd_X9_copyRow_27 (by decide) ?_
  refine cb_iload_n (q := 3) hc dd_X9_copyRow_2 rfl rfl ?_
  refine cb_bipush (q := 5) (v := 12) hc dd_X9_copyRow_3 rfl (by decide) ?_
  refine cb_ge_f (q := 8) (tg := 30) hc dd_X9_copyRow_5 rfl (by decide) (by decide) ?_
  refine cb_aload_n (q := 9) hc dd_X9_copyRow_8 rfl rfl ?_
  refine cb_getR (q := 12) (i := 0) hc fl_X9_7 rfl rfl dd_X9_copyRow_9 rfl ?_
  refine cb_iload_n (q := 13) hc dd_X9_copyRow_12 rfl rfl ?_
  refine cb_iload_n (q := 14) hc dd_X9_copyRow_13 rfl rfl ?_
  refine cb_iadd (q := 15) (z := 142) hc dd_X9_copyRow_14 rfl (by decide) ?_
  refine cb_aload_n (q := 16) hc dd_X9_copyRow_15 rfl rfl ?_
  refine cb_getR (q := 19) (i := 0) hc fl_X9_7 rfl rfl dd_X9_copyRow_16 rfl ?_
  refine cb_iload_n (q := 20) hc dd_X9_copyRow_19 rfl rfl ?_
  refine cb_iload_n (q := 21) hc dd_X9_copyRow_20 rfl rfl ?_
  refine cb_iadd (q := 22) (z := 10) hc dd_X9_copyRow_21 rfl (by decide) ?_
  refine cb_iald (q := 23) (i := 1) (t0 := 0) (k := 10) hc rfl rfl (vp_in_nI (n := 10) (Nat.le_of_ble_eq_true rfl) (Nat.le_of_ble_eq_true rfl)) (by decide) rfl dd_X9_copyRow_22 rfl ?_
  refine cb_iast (q := 24) (i := 1) (t0 := 0) (k := 142) hc rfl rfl (vp_in_nI (n := 142) (Nat.le_of_ble_eq_true rfl) (Nat.le_of_ble_eq_true rfl)) (by decide) dd_X9_copyRow_23 rfl ?_
  refine cb_iinc (q := 27) (v := 11) (lv' := [some (.ref h0), some (.int 0), some (.int 132), some (.int 11)]) hc dd_X9_copyRow_24 rfl rfl (by decide) (by decide) rfl ?_
  refine cb_goto (tg := 2) hc dd_X9_copyRow_27 (by decide) ?_
  refine cb_iload_n (q := 3) hc dd_X9_copyRow_2 rfl rfl ?_
  refine cb_bipush (q := 5) (v := 12) hc dd_X9_copyRow_3 rfl (by decide) ?_
  refine cb_ge_f (q := 8) (tg := 30) hc dd_X9_copyRow_5 rfl (by decide) (by decide) ?_
  refine cb_aload_n (q := 9) hc dd_X9_copyRow_8 rfl rfl ?_
  refine cb_getR (q := 12) (i := 0) hc fl_X9_7 rfl rfl dd_X9_copyRow_9 rfl ?_
  refine cb_iload_n (q := 13) hc dd_X9_copyRow_12 rfl rfl ?_
  refine cb_iload_n (q := 14) hc dd_X9_copyRow_13 rfl rfl ?_
  refine cb_iadd (q := 15) (z := 143) hc dd_X9_copyRow_14 rfl (by decide) ?_
  refine cb_aload_n (q := 16) hc dd_X9_copyRow_15 rfl rfl ?_
  refine cb_getR (q := 19) (i := 0) hc fl_X9_7 rfl rfl dd_X9_copyRow_16 rfl ?_
  refine cb_iload_n (q := 20) hc dd_X9_copyRow_19 rfl rfl ?_
  refine cb_iload_n (q := 21) hc dd_X9_copyRow_20 rfl rfl ?_
  refine cb_iadd (q := 22) (z := 11) hc dd_X9_copyRow_21 rfl (by decide) ?_
  refine cb_iald (q := 23) (i := 1) (t0 := 0) (k := 11) hc rfl rfl (vp_in_nI (n := 11) (Nat.le_of_ble_eq_true rfl) (Nat.le_of_ble_eq_true rfl)) (by decide) rfl dd_X9_copyRow_22 rfl ?_
  refine cb_iast (q := 24) (i := 1) (t0 := 0) (k := 143) hc rfl rfl (vp_in_nI (n := 143) (Nat.le_of_ble_eq_true rfl) (Nat.le_of_ble_eq_true rfl)) (by decide) dd_X9_copyRow_23 rfl ?_
  refine cb_iinc (q := 27) (v := 12) (lv' := [some (.ref h0), some (.int 0), some (.int 132), some (.int 12)]) hc dd_X9_copyRow_24 rfl rfl (by decide) (by decide) rfl ?_
  refine cb_goto (tg := 2) hc dd_X9_copyRow_27 (by decide) ?_
  refine cb_iload_n (q := 3) hc dd_X9_copyRow_2 rfl rfl ?_
  refine cb_bipush (q := 5) (v := 12) hc dd_X9_copyRow_3 rfl (by decide) ?_
  refine cb_ge_t (tg := 30) hc dd_X9_copyRow_5 (by decide) (by decide) ?_
  refine cb_vret hc rfl dd_X9_copyRow_30 ⟨rfl, _, rfl, fun i hi => ?_⟩
  match i, hi with
  | 0, _ => rfl
  | 1, _ => rfl
  | 2, _ => rfl
  | 3, _ => rfl
  | 4, _ => rfl
  | 5, _ => rfl
  | 6, _ => rfl
  | 7, _ => rfl
  | 8, _ => rfl
  | 9, _ => rfl
  | 10, _ => rfl
  | 11, _ => rfl
theorem ht_X9_0 : ∀ (C : String) (T : u_T) (N : Nat), classes[9]? = some (C, T, N) → (T 0).1 = RX9 := by
  intro C T N h
  have e : (RX9, TX9, 38) = (C, T, N) := Option.some.inj h
  cases e
  rfl
theorem ht_X9_6 : ∀ (C : String) (T : u_T) (N : Nat), classes[9]? = some (C, T, N) → (T 6).1 = RX9 := by
  intro C T N h
  have e : (RX9, TX9, 38) = (C, T, N) := Option.some.inj h
  cases e
  rfl
theorem ht_X9_8 : ∀ (C : String) (T : u_T) (N : Nat), classes[9]? = some (C, T, N) → (T 8).1 = RX9 := by
  intro C T N h
  have e : (RX9, TX9, 38) = (C, T, N) := Option.some.inj h
  cases e
  rfl
theorem ht_X9_9 : ∀ (C : String) (T : u_T) (N : Nat), classes[9]? = some (C, T, N) → (T 9).1 = RX9 := by
  intro C T N h
  have e : (RX9, TX9, 38) = (C, T, N) := Option.some.inj h
  cases e
  rfl
theorem ht_X9_13 : ∀ (C : String) (T : u_T) (N : Nat), classes[9]? = some (C, T, N) → (T 13).1 = RX9 := by
  intro C T N h
  have e : (RX9, TX9, 38) = (C, T, N) := Option.some.inj h
  cases e
  rfl
theorem ht_X9_14 : ∀ (C : String) (T : u_T) (N : Nat), classes[9]? = some (C, T, N) → (T 14).1 = RX9 := by
  intro C T N h
  have e : (RX9, TX9, 38) = (C, T, N) := Option.some.inj h
  cases e
  rfl
theorem ht_X9_15 : ∀ (C : String) (T : u_T) (N : Nat), classes[9]? = some (C, T, N) → (T 15).1 = RX9 := by
  intro C T N h
  have e : (RX9, TX9, 38) = (C, T, N) := Option.some.inj h
  cases e
  rfl
theorem ht_X9_16 : ∀ (C : String) (T : u_T) (N : Nat), classes[9]? = some (C, T, N) → (T 16).1 = RX9 := by
  intro C T N h
  have e : (RX9, TX9, 38) = (C, T, N) := Option.some.inj h
  cases e
  rfl
theorem ht_X9_17 : ∀ (C : String) (T : u_T) (N : Nat), classes[9]? = some (C, T, N) → (T 17).1 = RX9 := by
  intro C T N h
  have e : (RX9, TX9, 38) = (C, T, N) := Option.some.inj h
  cases e
  rfl
theorem ht_X9_25 : ∀ (C : String) (T : u_T) (N : Nat), classes[9]? = some (C, T, N) → (T 25).1 = RX9 := by
  intro C T N h
  have e : (RX9, TX9, 38) = (C, T, N) := Option.some.inj h
  cases e
  rfl
theorem ht_X9_26 : ∀ (C : String) (T : u_T) (N : Nat), classes[9]? = some (C, T, N) → (T 26).1 = RX9 := by
  intro C T N h
  have e : (RX9, TX9, 38) = (C, T, N) := Option.some.inj h
  cases e
  rfl
theorem ht_X9_27 : ∀ (C : String) (T : u_T) (N : Nat), classes[9]? = some (C, T, N) → (T 27).1 = RX9 := by
  intro C T N h
  have e : (RX9, TX9, 38) = (C, T, N) := Option.some.inj h
  cases e
  rfl
theorem ht_X9_28 : ∀ (C : String) (T : u_T) (N : Nat), classes[9]? = some (C, T, N) → (T 28).1 = RX9 := by
  intro C T N h
  have e : (RX9, TX9, 38) = (C, T, N) := Option.some.inj h
  cases e
  rfl
theorem ht_X9_29 : ∀ (C : String) (T : u_T) (N : Nat), classes[9]? = some (C, T, N) → (T 29).1 = RX9 := by
  intro C T N h
  have e : (RX9, TX9, 38) = (C, T, N) := Option.some.inj h
  cases e
  rfl
theorem ht_X9_30 : ∀ (C : String) (T : u_T) (N : Nat), classes[9]? = some (C, T, N) → (T 30).1 = RX9 := by
  intro C T N h
  have e : (RX9, TX9, 38) = (C, T, N) := Option.some.inj h
  cases e
  rfl
theorem ht_X9_31 : ∀ (C : String) (T : u_T) (N : Nat), classes[9]? = some (C, T, N) → (T 31).1 = RX9 := by
  intro C T N h
  have e : (RX9, TX9, 38) = (C, T, N) := Option.some.inj h
  cases e
  rfl
theorem ht_X9_32 : ∀ (C : String) (T : u_T) (N : Nat), classes[9]? = some (C, T, N) → (T 32).1 = RX9 := by
  intro C T N h
  have e : (RX9, TX9, 38) = (C, T, N) := Option.some.inj h
  cases e
  rfl
theorem ht_X9_33 : ∀ (C : String) (T : u_T) (N : Nat), classes[9]? = some (C, T, N) → (T 33).1 = RX9 := by
  intro C T N h
  have e : (RX9, TX9, 38) = (C, T, N) := Option.some.inj h
  cases e
  rfl
theorem ht_X9_34 : ∀ (C : String) (T : u_T) (N : Nat), classes[9]? = some (C, T, N) → (T 34).1 = RX9 := by
  intro C T N h
  have e : (RX9, TX9, 38) = (C, T, N) := Option.some.inj h
  cases e
  rfl
theorem ht_X9_35 : ∀ (C : String) (T : u_T) (N : Nat), classes[9]? = some (C, T, N) → (T 35).1 = RX9 := by
  intro C T N h
  have e : (RX9, TX9, 38) = (C, T, N) := Option.some.inj h
  cases e
  rfl
theorem ht_X9_36 : ∀ (C : String) (T : u_T) (N : Nat), classes[9]? = some (C, T, N) → (T 36).1 = RX9 := by
  intro C T N h
  have e : (RX9, TX9, 38) = (C, T, N) := Option.some.inj h
  cases e
  rfl
theorem ht_X9_37 : ∀ (C : String) (T : u_T) (N : Nat), classes[9]? = some (C, T, N) → (T 37).1 = RX9 := by
  intro C T N h
  have e : (RX9, TX9, 38) = (C, T, N) := Option.some.inj h
  cases e
  rfl
set_option maxHeartbeats 4000000 in
set_option maxRecDepth 100000 in
theorem i_X9_init (wr : va_W) (h0 : Nat) : CC X9_init 1 22 1485 [.ref h0] wr [(h0, .inr (9, dfX9))] [] (fun wx' tys' => ∃ (q1 : Nat) (c2 : ClassId) (q3 : Nat) (c4 : ClassId) (q5 : Nat) (c6 : ClassId) (q7 : Nat) (c8 : ClassId) (q9 : Nat) (c10 : ClassId) (q11 : Nat) (c12 : ClassId) (q13 : Nat) (c14 : ClassId) (q15 : Nat) (c16 : ClassId) (q17 : Nat) (c18 : ClassId) (q19 : Nat) (c20 : ClassId) (q21 : Nat) (c22 : ClassId) (q23 : Nat) (c24 : ClassId) (q25 : Nat) (c26 : ClassId) (q27 : Nat) (c28 : ClassId) (q29 : Nat) (c30 : ClassId) (q31 : Nat) (c32 : ClassId) (q33 : Nat) (c34 : ClassId) (q35 : Nat) (c36 : ClassId) (q37 : Nat) (c38 : ClassId) (q39 : Nat) (c40 : ClassId) (q41 : Nat) (c42 : ClassId) (q43 : Nat) (c44 : ClassId) (g2 : Nat → Int32), wx' = [(h0, .inr (9, [.ref q1, .int 4, .int 2, .int 20, .int 0, .int 0, .ref q3, .int 0, .ref q5, .ref q7, .int 0, .int 0, .int 0, .ref q9, .ref q11, .ref q13, .ref q15, .ref q17, .int 0, .int 0, .int 0, .int 0, .int 0, .int 0, .int 0, .ref q19, .ref q21, .ref q23, .ref q25, .ref q27, .ref q29, .ref q31, .ref q33, .ref q35, .ref q37, .ref q39, .ref q41, .ref q43])), (q1, .inl (c2, 144, .inl g2)), (q3, .inl (c4, 8, .inl (fun _ => 0))), (q5, .inl (c6, 2, .inl (fun _ => 0))), (q7, .inl (c8, 200, .inl (fun _ => 0))), (q9, .inl (c10, 48, .inl (fun _ => 0))), (q11, .inl (c12, 48, .inl (fun _ => 0))), (q13, .inl (c14, 48, .inl (fun _ => 0))), (q15, .inl (c16, 3, .inl (upd (upd (upd (fun _ => 0) 0 (-1)) 1 (-1)) 2 (-1)))), (q17, .inl (c18, 36, .inl (fun _ => 0))), (q19, .inl (c20, 2, .inl (fun _ => 0))), (q21, .inl (c22, 5, .inl (upd (upd (upd (upd (upd (fun _ => 0) 0 98) 1 101) 2 97) 3 116) 4 115))), (q23, .inl (c24, 6, .inl (upd (upd (upd (upd (upd (upd (fun _ => 0) 0 119) 1 105) 2 110) 3 100) 4 111) 5 119))), (q25, .inl (c26, 5, .inl (upd (upd (upd (upd (upd (fun _ => 0) 0 115) 1 105) 2 103) 3 104) 4 116))), (q27, .inl (c28, 6, .inl (upd (upd (upd (upd (upd (upd (fun _ => 0) 0 114) 1 104) 2 121) 3 116) 4 104) 5 109))), (q29, .inl (c30, 5, .inl (upd (upd (upd (upd (upd (fun _ => 0) 0 108) 1 105) 2 103) 3 104) 4 116))), (q31, .inl (c32, 3, .inl (upd (upd (upd (fun _ => 0) 0 108) 1 105) 2 116))), (q33, .inl (c34, 8, .inl (fun _ => 0))), (q35, .inl (c36, 6, .inl (fun _ => 0))), (q37, .inl (c38, 6, .inl (fun _ => 0))), (q39, .inl (c40, 640, .inr (.inl (fun _ => 0)))), (q41, .inl (c42, 128, .inr (.inl (fun _ => 0)))), (q43, .inl (c44, 128, .inr (.inl (fun _ => 0))))] ∧ tys' = [(c2, .int), (c4, .int), (c6, .boolean), (c8, .int), (c10, .boolean), (c12, .int), (c14, .boolean), (c16, .int), (c18, .int), (c20, .int), (c22, .int), (c24, .int), (c26, .int), (c28, .int), (c30, .int), (c32, .int), (c34, .int), (c36, .int), (c38, .int), (c40, .long), (c42, .long), (c44, .long)] ∧ ∀ i, i < 6 → g2 (132 + 6 + i) = -1) := by
  refine CC.ofW (lv := [some (.ref h0)]) (by decide +kernel) (Nat.le_of_ble_eq_true rfl) (show lvLe _ [some (.ref h0)] from lvs lvz) ?_
  intro p l e s m args below meth c D A hc
  refine cb_aload_n (q := 1) hc dd_X9_init_0 rfl rfl ?_
  refine cb_objInit (q := 4) hc iw_866 iw_90 iw_91 dd_X9_init_1 rfl (Nat.le_of_ble_eq_true rfl) (Nat.le_of_ble_eq_true rfl) ?_
  refine cb_aload_n (q := 5) hc dd_X9_init_4 rfl rfl ?_
  refine cb_sipush (q := 8) (v := 144) hc dd_X9_init_5 rfl (by decide) ?_
  refine cb_newI (q := 10) (N' := 144) hc iw_116 dd_X9_init_8 rfl (by decide) (by decide) (Nat.le_of_ble_eq_true rfl) ⟨Nat.le_of_ble_eq_true rfl, Nat.le_of_ble_eq_true rfl⟩ (fun q1 c2 => ?_)
  refine cb_putR (q := 13) (i := 0) hc fl_X9_7 ht_X9_0 rfl rfl (Nat.le_of_ble_eq_true rfl) rfl rfl dd_X9_init_10 rfl ?_
  refine cb_aload_n (q := 14) hc dd_X9_init_13 rfl rfl ?_
  refine cb_bipush (q := 16) (v := 8) hc dd_X9_init_14 rfl (by decide) ?_
  refine cb_newI (q := 18) (N' := 8) hc iw_116 dd_X9_init_16 rfl (by decide) (by decide) (Nat.le_of_ble_eq_true rfl) ⟨Nat.le_of_ble_eq_true rfl, Nat.le_of_ble_eq_true rfl⟩ (fun q3 c4 => ?_)
  refine cb_putR (q := 21) (i := 0) hc fl_X9_13 ht_X9_6 rfl rfl (Nat.le_of_ble_eq_true rfl) rfl rfl dd_X9_init_18 rfl ?_
  refine cb_aload_n (q := 22) hc dd_X9_init_21 rfl rfl ?_
  refine cb_iconst (q := 23) (v := 2) hc dd_X9_init_22 rfl (by decide) ?_
  refine cb_newZ (q := 25) (N' := 2) hc iw_990 dd_X9_init_23 rfl (by decide) (by decide) (Nat.le_of_ble_eq_true rfl) ⟨Nat.le_of_ble_eq_true rfl, Nat.le_of_ble_eq_true rfl⟩ (fun q5 c6 => ?_)
  refine cb_putR (q := 28) (i := 0) hc fl_X9_16 ht_X9_8 rfl rfl (Nat.le_of_ble_eq_true rfl) rfl rfl dd_X9_init_25 rfl ?_
  refine cb_aload_n (q := 29) hc dd_X9_init_28 rfl rfl ?_
  refine cb_sipush (q := 32) (v := 200) hc dd_X9_init_29 rfl (by decide) ?_
  refine cb_newI (q := 34) (N' := 200) hc iw_116 dd_X9_init_32 rfl (by decide) (by decide) (Nat.le_of_ble_eq_true rfl) ⟨Nat.le_of_ble_eq_true rfl, Nat.le_of_ble_eq_true rfl⟩ (fun q7 c8 => ?_)
  refine cb_putR (q := 37) (i := 0) hc fl_X9_20 ht_X9_9 rfl rfl (Nat.le_of_ble_eq_true rfl) rfl rfl dd_X9_init_34 rfl ?_
  refine cb_aload_n (q := 38) hc dd_X9_init_37 rfl rfl ?_
  refine cb_bipush (q := 40) (v := 48) hc dd_X9_init_38 rfl (by decide) ?_
  refine cb_newZ (q := 42) (N' := 48) hc iw_990 dd_X9_init_40 rfl (by decide) (by decide) (Nat.le_of_ble_eq_true rfl) ⟨Nat.le_of_ble_eq_true rfl, Nat.le_of_ble_eq_true rfl⟩ (fun q9 c10 => ?_)
  refine cb_putR (q := 45) (i := 0) hc fl_X9_23 ht_X9_13 rfl rfl (Nat.le_of_ble_eq_true rfl) rfl rfl dd_X9_init_42 rfl ?_
  refine cb_aload_n (q := 46) hc dd_X9_init_45 rfl rfl ?_
  refine cb_bipush (q := 48) (v := 48) hc dd_X9_init_46 rfl (by decide) ?_
  refine cb_newI (q := 50) (N' := 48) hc iw_116 dd_X9_init_48 rfl (by decide) (by decide) (Nat.le_of_ble_eq_true rfl) ⟨Nat.le_of_ble_eq_true rfl, Nat.le_of_ble_eq_true rfl⟩ (fun q11 c12 => ?_)
  refine cb_putR (q := 53) (i := 0) hc fl_X9_26 ht_X9_14 rfl rfl (Nat.le_of_ble_eq_true rfl) rfl rfl dd_X9_init_50 rfl ?_
  refine cb_aload_n (q := 54) hc dd_X9_init_53 rfl rfl ?_
  refine cb_bipush (q := 56) (v := 48) hc dd_X9_init_54 rfl (by decide) ?_
  refine cb_newZ (q := 58) (N' := 48) hc iw_990 dd_X9_init_56 rfl (by decide) (by decide) (Nat.le_of_ble_eq_true rfl) ⟨Nat.le_of_ble_eq_true rfl, Nat.le_of_ble_eq_true rfl⟩ (fun q13 c14 => ?_)
  refine cb_putR (q := 61) (i := 0) hc fl_X9_29 ht_X9_15 rfl rfl (Nat.le_of_ble_eq_true rfl) rfl rfl dd_X9_init_58 rfl ?_
  refine cb_aload_n (q := 62) hc dd_X9_init_61 rfl rfl ?_
  refine cb_iconst (q := 63) (v := 3) hc dd_X9_init_62 rfl (by decide) ?_
  refine cb_newI (q := 65) (N' := 3) hc iw_116 dd_X9_init_63 rfl (by decide) (by decide) (Nat.le_of_ble_eq_true rfl) ⟨Nat.le_of_ble_eq_true rfl, Nat.le_of_ble_eq_true rfl⟩ (fun q15 c16 => ?_)
  refine cb_dup (q := 66) hc dd_X9_init_65 rfl rfl ?_
  refine cb_iconst (q := 67) (v := 0) hc dd_X9_init_66 rfl (by decide) ?_
  refine cb_iconst (q := 68) (v := (-1)) hc dd_X9_init_67 rfl (by decide) ?_
  refine cb_iast (q := 69) (i := 8) (t0 := 7) (k := 0) hc rfl rfl (vp_in_nI (n := 0) (Nat.le_of_ble_eq_true rfl) (Nat.le_of_ble_eq_true rfl)) (by decide) dd_X9_init_68 rfl ?_
  refine cb_dup (q := 70) hc dd_X9_init_69 rfl rfl ?_
  refine cb_iconst (q := 71) (v := 1) hc dd_X9_init_70 rfl (by decide) ?_
  refine cb_iconst (q := 72) (v := (-1)) hc dd_X9_init_71 rfl (by decide) ?_
  refine cb_iast (q := 73) (i := 8) (t0 := 7) (k := 1) hc rfl rfl (vp_in_nI (n := 1) (Nat.le_of_ble_eq_true rfl) (Nat.le_of_ble_eq_true rfl)) (by decide) dd_X9_init_72 rfl ?_
  refine cb_dup (q := 74) hc dd_X9_init_73 rfl rfl ?_
  refine cb_iconst (q := 75) (v := 2) hc dd_X9_init_74 rfl (by decide) ?_
  refine cb_iconst (q := 76) (v := (-1)) hc dd_X9_init_75 rfl (by decide) ?_
  refine cb_iast (q := 77) (i := 8) (t0 := 7) (k := 2) hc rfl rfl (vp_in_nI (n := 2) (Nat.le_of_ble_eq_true rfl) (Nat.le_of_ble_eq_true rfl)) (by decide) dd_X9_init_76 rfl ?_
  refine cb_putR (q := 80) (i := 0) hc fl_X9_32 ht_X9_16 rfl rfl (Nat.le_of_ble_eq_true rfl) rfl rfl dd_X9_init_77 rfl ?_
  refine cb_aload_n (q := 81) hc dd_X9_init_80 rfl rfl ?_
  refine cb_bipush (q := 83) (v := 36) hc dd_X9_init_81 rfl (by decide) ?_
  refine cb_newI (q := 85) (N' := 36) hc iw_116 dd_X9_init_83 rfl (by decide) (by decide) (Nat.le_of_ble_eq_true rfl) ⟨Nat.le_of_ble_eq_true rfl, Nat.le_of_ble_eq_true rfl⟩ (fun q17 c18 => ?_)
  refine cb_putR (q := 88) (i := 0) hc fl_X9_35 ht_X9_17 rfl rfl (Nat.le_of_ble_eq_true rfl) rfl rfl dd_X9_init_85 rfl ?_
  refine cb_aload_n (q := 89) hc dd_X9_init_88 rfl rfl ?_
  refine cb_iconst (q := 90) (v := 2) hc dd_X9_init_89 rfl (by decide) ?_
  refine cb_newI (q := 92) (N' := 2) hc iw_116 dd_X9_init_90 rfl (by decide) (by decide) (Nat.le_of_ble_eq_true rfl) ⟨Nat.le_of_ble_eq_true rfl, Nat.le_of_ble_eq_true rfl⟩ (fun q19 c20 => ?_)
  refine cb_putR (q := 95) (i := 0) hc fl_X9_38 ht_X9_25 rfl rfl (Nat.le_of_ble_eq_true rfl) rfl rfl dd_X9_init_92 rfl ?_
  refine cb_aload_n (q := 96) hc dd_X9_init_95 rfl rfl ?_
  refine cb_iconst (q := 97) (v := 5) hc dd_X9_init_96 rfl (by decide) ?_
  refine cb_newI (q := 99) (N' := 5) hc iw_116 dd_X9_init_97 rfl (by decide) (by decide) (Nat.le_of_ble_eq_true rfl) ⟨Nat.le_of_ble_eq_true rfl, Nat.le_of_ble_eq_true rfl⟩ (fun q21 c22 => ?_)
  refine cb_dup (q := 100) hc dd_X9_init_99 rfl rfl ?_
  refine cb_iconst (q := 101) (v := 0) hc dd_X9_init_100 rfl (by decide) ?_
  refine cb_bipush (q := 103) (v := 98) hc dd_X9_init_101 rfl (by decide) ?_
  refine cb_iast (q := 104) (i := 11) (t0 := 10) (k := 0) hc rfl rfl (vp_in_nI (n := 0) (Nat.le_of_ble_eq_true rfl) (Nat.le_of_ble_eq_true rfl)) (by decide) dd_X9_init_103 rfl ?_
  refine cb_dup (q := 105) hc dd_X9_init_104 rfl rfl ?_
  refine cb_iconst (q := 106) (v := 1) hc dd_X9_init_105 rfl (by decide) ?_
  refine cb_bipush (q := 108) (v := 101) hc dd_X9_init_106 rfl (by decide) ?_
  refine cb_iast (q := 109) (i := 11) (t0 := 10) (k := 1) hc rfl rfl (vp_in_nI (n := 1) (Nat.le_of_ble_eq_true rfl) (Nat.le_of_ble_eq_true rfl)) (by decide) dd_X9_init_108 rfl ?_
  refine cb_dup (q := 110) hc dd_X9_init_109 rfl rfl ?_
  refine cb_iconst (q := 111) (v := 2) hc dd_X9_init_110 rfl (by decide) ?_
  refine cb_bipush (q := 113) (v := 97) hc dd_X9_init_111 rfl (by decide) ?_
  refine cb_iast (q := 114) (i := 11) (t0 := 10) (k := 2) hc rfl rfl (vp_in_nI (n := 2) (Nat.le_of_ble_eq_true rfl) (Nat.le_of_ble_eq_true rfl)) (by decide) dd_X9_init_113 rfl ?_
  refine cb_dup (q := 115) hc dd_X9_init_114 rfl rfl ?_
  refine cb_iconst (q := 116) (v := 3) hc dd_X9_init_115 rfl (by decide) ?_
  refine cb_bipush (q := 118) (v := 116) hc dd_X9_init_116 rfl (by decide) ?_
  refine cb_iast (q := 119) (i := 11) (t0 := 10) (k := 3) hc rfl rfl (vp_in_nI (n := 3) (Nat.le_of_ble_eq_true rfl) (Nat.le_of_ble_eq_true rfl)) (by decide) dd_X9_init_118 rfl ?_
  refine cb_dup (q := 120) hc dd_X9_init_119 rfl rfl ?_
  refine cb_iconst (q := 121) (v := 4) hc dd_X9_init_120 rfl (by decide) ?_
  refine cb_bipush (q := 123) (v := 115) hc dd_X9_init_121 rfl (by decide) ?_
  refine cb_iast (q := 124) (i := 11) (t0 := 10) (k := 4) hc rfl rfl (vp_in_nI (n := 4) (Nat.le_of_ble_eq_true rfl) (Nat.le_of_ble_eq_true rfl)) (by decide) dd_X9_init_123 rfl ?_
  refine cb_putR (q := 127) (i := 0) hc fl_X9_41 ht_X9_26 rfl rfl (Nat.le_of_ble_eq_true rfl) rfl rfl dd_X9_init_124 rfl ?_
  refine cb_aload_n (q := 128) hc dd_X9_init_127 rfl rfl ?_
  refine cb_bipush (q := 130) (v := 6) hc dd_X9_init_128 rfl (by decide) ?_
  refine cb_newI (q := 132) (N' := 6) hc iw_116 dd_X9_init_130 rfl (by decide) (by decide) (Nat.le_of_ble_eq_true rfl) ⟨Nat.le_of_ble_eq_true rfl, Nat.le_of_ble_eq_true rfl⟩ (fun q23 c24 => ?_)
  refine cb_dup (q := 133) hc dd_X9_init_132 rfl rfl ?_
  refine cb_iconst (q := 134) (v := 0) hc dd_X9_init_133 rfl (by decide) ?_
  refine cb_bipush (q := 136) (v := 119) hc dd_X9_init_134 rfl (by decide) ?_
  refine cb_iast (q := 137) (i := 12) (t0 := 11) (k := 0) hc rfl rfl (vp_in_nI (n := 0) (Nat.le_of_ble_eq_true rfl) (Nat.le_of_ble_eq_true rfl)) (by decide) dd_X9_init_136 rfl ?_
  refine cb_dup (q := 138) hc dd_X9_init_137 rfl rfl ?_
  refine cb_iconst (q := 139) (v := 1) hc dd_X9_init_138 rfl (by decide) ?_
  refine cb_bipush (q := 141) (v := 105) hc dd_X9_init_139 rfl (by decide) ?_
  refine cb_iast (q := 142) (i := 12) (t0 := 11) (k := 1) hc rfl rfl (vp_in_nI (n := 1) (Nat.le_of_ble_eq_true rfl) (Nat.le_of_ble_eq_true rfl)) (by decide) dd_X9_init_141 rfl ?_
  refine cb_dup (q := 143) hc dd_X9_init_142 rfl rfl ?_
  refine cb_iconst (q := 144) (v := 2) hc dd_X9_init_143 rfl (by decide) ?_
  refine cb_bipush (q := 146) (v := 110) hc dd_X9_init_144 rfl (by decide) ?_
  refine cb_iast (q := 147) (i := 12) (t0 := 11) (k := 2) hc rfl rfl (vp_in_nI (n := 2) (Nat.le_of_ble_eq_true rfl) (Nat.le_of_ble_eq_true rfl)) (by decide) dd_X9_init_146 rfl ?_
  refine cb_dup (q := 148) hc dd_X9_init_147 rfl rfl ?_
  refine cb_iconst (q := 149) (v := 3) hc dd_X9_init_148 rfl (by decide) ?_
  refine cb_bipush (q := 151) (v := 100) hc dd_X9_init_149 rfl (by decide) ?_
  refine cb_iast (q := 152) (i := 12) (t0 := 11) (k := 3) hc rfl rfl (vp_in_nI (n := 3) (Nat.le_of_ble_eq_true rfl) (Nat.le_of_ble_eq_true rfl)) (by decide) dd_X9_init_151 rfl ?_
  refine cb_dup (q := 153) hc dd_X9_init_152 rfl rfl ?_
  refine cb_iconst (q := 154) (v := 4) hc dd_X9_init_153 rfl (by decide) ?_
  refine cb_bipush (q := 156) (v := 111) hc dd_X9_init_154 rfl (by decide) ?_
  refine cb_iast (q := 157) (i := 12) (t0 := 11) (k := 4) hc rfl rfl (vp_in_nI (n := 4) (Nat.le_of_ble_eq_true rfl) (Nat.le_of_ble_eq_true rfl)) (by decide) dd_X9_init_156 rfl ?_
  refine cb_dup (q := 158) hc dd_X9_init_157 rfl rfl ?_
  refine cb_iconst (q := 159) (v := 5) hc dd_X9_init_158 rfl (by decide) ?_
  refine cb_bipush (q := 161) (v := 119) hc dd_X9_init_159 rfl (by decide) ?_
  refine cb_iast (q := 162) (i := 12) (t0 := 11) (k := 5) hc rfl rfl (vp_in_nI (n := 5) (Nat.le_of_ble_eq_true rfl) (Nat.le_of_ble_eq_true rfl)) (by decide) dd_X9_init_161 rfl ?_
  refine cb_putR (q := 165) (i := 0) hc fl_X9_44 ht_X9_27 rfl rfl (Nat.le_of_ble_eq_true rfl) rfl rfl dd_X9_init_162 rfl ?_
  refine cb_aload_n (q := 166) hc dd_X9_init_165 rfl rfl ?_
  refine cb_iconst (q := 167) (v := 5) hc dd_X9_init_166 rfl (by decide) ?_
  refine cb_newI (q := 169) (N' := 5) hc iw_116 dd_X9_init_167 rfl (by decide) (by decide) (Nat.le_of_ble_eq_true rfl) ⟨Nat.le_of_ble_eq_true rfl, Nat.le_of_ble_eq_true rfl⟩ (fun q25 c26 => ?_)
  refine cb_dup (q := 170) hc dd_X9_init_169 rfl rfl ?_
  refine cb_iconst (q := 171) (v := 0) hc dd_X9_init_170 rfl (by decide) ?_
  refine cb_bipush (q := 173) (v := 115) hc dd_X9_init_171 rfl (by decide) ?_
  refine cb_iast (q := 174) (i := 13) (t0 := 12) (k := 0) hc rfl rfl (vp_in_nI (n := 0) (Nat.le_of_ble_eq_true rfl) (Nat.le_of_ble_eq_true rfl)) (by decide) dd_X9_init_173 rfl ?_
  refine cb_dup (q := 175) hc dd_X9_init_174 rfl rfl ?_
  refine cb_iconst (q := 176) (v := 1) hc dd_X9_init_175 rfl (by decide) ?_
  refine cb_bipush (q := 178) (v := 105) hc dd_X9_init_176 rfl (by decide) ?_
  refine cb_iast (q := 179) (i := 13) (t0 := 12) (k := 1) hc rfl rfl (vp_in_nI (n := 1) (Nat.le_of_ble_eq_true rfl) (Nat.le_of_ble_eq_true rfl)) (by decide) dd_X9_init_178 rfl ?_
  refine cb_dup (q := 180) hc dd_X9_init_179 rfl rfl ?_
  refine cb_iconst (q := 181) (v := 2) hc dd_X9_init_180 rfl (by decide) ?_
  refine cb_bipush (q := 183) (v := 103) hc dd_X9_init_181 rfl (by decide) ?_
  refine cb_iast (q := 184) (i := 13) (t0 := 12) (k := 2) hc rfl rfl (vp_in_nI (n := 2) (Nat.le_of_ble_eq_true rfl) (Nat.le_of_ble_eq_true rfl)) (by decide) dd_X9_init_183 rfl ?_
  refine cb_dup (q := 185) hc dd_X9_init_184 rfl rfl ?_
  refine cb_iconst (q := 186) (v := 3) hc dd_X9_init_185 rfl (by decide) ?_
  refine cb_bipush (q := 188) (v := 104) hc dd_X9_init_186 rfl (by decide) ?_
  refine cb_iast (q := 189) (i := 13) (t0 := 12) (k := 3) hc rfl rfl (vp_in_nI (n := 3) (Nat.le_of_ble_eq_true rfl) (Nat.le_of_ble_eq_true rfl)) (by decide) dd_X9_init_188 rfl ?_
  refine cb_dup (q := 190) hc dd_X9_init_189 rfl rfl ?_
  refine cb_iconst (q := 191) (v := 4) hc dd_X9_init_190 rfl (by decide) ?_
  refine cb_bipush (q := 193) (v := 116) hc dd_X9_init_191 rfl (by decide) ?_
  refine cb_iast (q := 194) (i := 13) (t0 := 12) (k := 4) hc rfl rfl (vp_in_nI (n := 4) (Nat.le_of_ble_eq_true rfl) (Nat.le_of_ble_eq_true rfl)) (by decide) dd_X9_init_193 rfl ?_
  refine cb_putR (q := 197) (i := 0) hc fl_X9_47 ht_X9_28 rfl rfl (Nat.le_of_ble_eq_true rfl) rfl rfl dd_X9_init_194 rfl ?_
  refine cb_aload_n (q := 198) hc dd_X9_init_197 rfl rfl ?_
  refine cb_bipush (q := 200) (v := 6) hc dd_X9_init_198 rfl (by decide) ?_
  refine cb_newI (q := 202) (N' := 6) hc iw_116 dd_X9_init_200 rfl (by decide) (by decide) (Nat.le_of_ble_eq_true rfl) ⟨Nat.le_of_ble_eq_true rfl, Nat.le_of_ble_eq_true rfl⟩ (fun q27 c28 => ?_)
  refine cb_dup (q := 203) hc dd_X9_init_202 rfl rfl ?_
  refine cb_iconst (q := 204) (v := 0) hc dd_X9_init_203 rfl (by decide) ?_
  refine cb_bipush (q := 206) (v := 114) hc dd_X9_init_204 rfl (by decide) ?_
  refine cb_iast (q := 207) (i := 14) (t0 := 13) (k := 0) hc rfl rfl (vp_in_nI (n := 0) (Nat.le_of_ble_eq_true rfl) (Nat.le_of_ble_eq_true rfl)) (by decide) dd_X9_init_206 rfl ?_
  refine cb_dup (q := 208) hc dd_X9_init_207 rfl rfl ?_
  refine cb_iconst (q := 209) (v := 1) hc dd_X9_init_208 rfl (by decide) ?_
  refine cb_bipush (q := 211) (v := 104) hc dd_X9_init_209 rfl (by decide) ?_
  refine cb_iast (q := 212) (i := 14) (t0 := 13) (k := 1) hc rfl rfl (vp_in_nI (n := 1) (Nat.le_of_ble_eq_true rfl) (Nat.le_of_ble_eq_true rfl)) (by decide) dd_X9_init_211 rfl ?_
  refine cb_dup (q := 213) hc dd_X9_init_212 rfl rfl ?_
  refine cb_iconst (q := 214) (v := 2) hc dd_X9_init_213 rfl (by decide) ?_
  refine cb_bipush (q := 216) (v := 121) hc dd_X9_init_214 rfl (by decide) ?_
  refine cb_iast (q := 217) (i := 14) (t0 := 13) (k := 2) hc rfl rfl (vp_in_nI (n := 2) (Nat.le_of_ble_eq_true rfl) (Nat.le_of_ble_eq_true rfl)) (by decide) dd_X9_init_216 rfl ?_
  refine cb_dup (q := 218) hc dd_X9_init_217 rfl rfl ?_
  refine cb_iconst (q := 219) (v := 3) hc dd_X9_init_218 rfl (by decide) ?_
  refine cb_bipush (q := 221) (v := 116) hc dd_X9_init_219 rfl (by decide) ?_
  refine cb_iast (q := 222) (i := 14) (t0 := 13) (k := 3) hc rfl rfl (vp_in_nI (n := 3) (Nat.le_of_ble_eq_true rfl) (Nat.le_of_ble_eq_true rfl)) (by decide) dd_X9_init_221 rfl ?_
  refine cb_dup (q := 223) hc dd_X9_init_222 rfl rfl ?_
  refine cb_iconst (q := 224) (v := 4) hc dd_X9_init_223 rfl (by decide) ?_
  refine cb_bipush (q := 226) (v := 104) hc dd_X9_init_224 rfl (by decide) ?_
  refine cb_iast (q := 227) (i := 14) (t0 := 13) (k := 4) hc rfl rfl (vp_in_nI (n := 4) (Nat.le_of_ble_eq_true rfl) (Nat.le_of_ble_eq_true rfl)) (by decide) dd_X9_init_226 rfl ?_
  refine cb_dup (q := 228) hc dd_X9_init_227 rfl rfl ?_
  refine cb_iconst (q := 229) (v := 5) hc dd_X9_init_228 rfl (by decide) ?_
  refine cb_bipush (q := 231) (v := 109) hc dd_X9_init_229 rfl (by decide) ?_
  refine cb_iast (q := 232) (i := 14) (t0 := 13) (k := 5) hc rfl rfl (vp_in_nI (n := 5) (Nat.le_of_ble_eq_true rfl) (Nat.le_of_ble_eq_true rfl)) (by decide) dd_X9_init_231 rfl ?_
  refine cb_putR (q := 235) (i := 0) hc fl_X9_50 ht_X9_29 rfl rfl (Nat.le_of_ble_eq_true rfl) rfl rfl dd_X9_init_232 rfl ?_
  refine cb_aload_n (q := 236) hc dd_X9_init_235 rfl rfl ?_
  refine cb_iconst (q := 237) (v := 5) hc dd_X9_init_236 rfl (by decide) ?_
  refine cb_newI (q := 239) (N' := 5) hc iw_116 dd_X9_init_237 rfl (by decide) (by decide) (Nat.le_of_ble_eq_true rfl) ⟨Nat.le_of_ble_eq_true rfl, Nat.le_of_ble_eq_true rfl⟩ (fun q29 c30 => ?_)
  refine cb_dup (q := 240) hc dd_X9_init_239 rfl rfl ?_
  refine cb_iconst (q := 241) (v := 0) hc dd_X9_init_240 rfl (by decide) ?_
  refine cb_bipush (q := 243) (v := 108) hc dd_X9_init_241 rfl (by decide) ?_
  refine cb_iast (q := 244) (i := 15) (t0 := 14) (k := 0) hc rfl rfl (vp_in_nI (n := 0) (Nat.le_of_ble_eq_true rfl) (Nat.le_of_ble_eq_true rfl)) (by decide) dd_X9_init_243 rfl ?_
  refine cb_dup (q := 245) hc dd_X9_init_244 rfl rfl ?_
  refine cb_iconst (q := 246) (v := 1) hc dd_X9_init_245 rfl (by decide) ?_
  refine cb_bipush (q := 248) (v := 105) hc dd_X9_init_246 rfl (by decide) ?_
  refine cb_iast (q := 249) (i := 15) (t0 := 14) (k := 1) hc rfl rfl (vp_in_nI (n := 1) (Nat.le_of_ble_eq_true rfl) (Nat.le_of_ble_eq_true rfl)) (by decide) dd_X9_init_248 rfl ?_
  refine cb_dup (q := 250) hc dd_X9_init_249 rfl rfl ?_
  refine cb_iconst (q := 251) (v := 2) hc dd_X9_init_250 rfl (by decide) ?_
  refine cb_bipush (q := 253) (v := 103) hc dd_X9_init_251 rfl (by decide) ?_
  refine cb_iast (q := 254) (i := 15) (t0 := 14) (k := 2) hc rfl rfl (vp_in_nI (n := 2) (Nat.le_of_ble_eq_true rfl) (Nat.le_of_ble_eq_true rfl)) (by decide) dd_X9_init_253 rfl ?_
  refine cb_dup (q := 255) hc dd_X9_init_254 rfl rfl ?_
  refine cb_iconst (q := 256) (v := 3) hc dd_X9_init_255 rfl (by decide) ?_
  refine cb_bipush (q := 258) (v := 104) hc dd_X9_init_256 rfl (by decide) ?_
  refine cb_iast (q := 259) (i := 15) (t0 := 14) (k := 3) hc rfl rfl (vp_in_nI (n := 3) (Nat.le_of_ble_eq_true rfl) (Nat.le_of_ble_eq_true rfl)) (by decide) dd_X9_init_258 rfl ?_
  refine cb_dup (q := 260) hc dd_X9_init_259 rfl rfl ?_
  refine cb_iconst (q := 261) (v := 4) hc dd_X9_init_260 rfl (by decide) ?_
  refine cb_bipush (q := 263) (v := 116) hc dd_X9_init_261 rfl (by decide) ?_
  refine cb_iast (q := 264) (i := 15) (t0 := 14) (k := 4) hc rfl rfl (vp_in_nI (n := 4) (Nat.le_of_ble_eq_true rfl) (Nat.le_of_ble_eq_true rfl)) (by decide) dd_X9_init_263 rfl ?_
  refine cb_putR (q := 267) (i := 0) hc fl_X9_53 ht_X9_30 rfl rfl (Nat.le_of_ble_eq_true rfl) rfl rfl dd_X9_init_264 rfl ?_
  refine cb_aload_n (q := 268) hc dd_X9_init_267 rfl rfl ?_
  refine cb_iconst (q := 269) (v := 3) hc dd_X9_init_268 rfl (by decide) ?_
  refine cb_newI (q := 271) (N' := 3) hc iw_116 dd_X9_init_269 rfl (by decide) (by decide) (Nat.le_of_ble_eq_true rfl) ⟨Nat.le_of_ble_eq_true rfl, Nat.le_of_ble_eq_true rfl⟩ (fun q31 c32 => ?_)
  refine cb_dup (q := 272) hc dd_X9_init_271 rfl rfl ?_
  refine cb_iconst (q := 273) (v := 0) hc dd_X9_init_272 rfl (by decide) ?_
  refine cb_bipush (q := 275) (v := 108) hc dd_X9_init_273 rfl (by decide) ?_
  refine cb_iast (q := 276) (i := 16) (t0 := 15) (k := 0) hc rfl rfl (vp_in_nI (n := 0) (Nat.le_of_ble_eq_true rfl) (Nat.le_of_ble_eq_true rfl)) (by decide) dd_X9_init_275 rfl ?_
  refine cb_dup (q := 277) hc dd_X9_init_276 rfl rfl ?_
  refine cb_iconst (q := 278) (v := 1) hc dd_X9_init_277 rfl (by decide) ?_
  refine cb_bipush (q := 280) (v := 105) hc dd_X9_init_278 rfl (by decide) ?_
  refine cb_iast (q := 281) (i := 16) (t0 := 15) (k := 1) hc rfl rfl (vp_in_nI (n := 1) (Nat.le_of_ble_eq_true rfl) (Nat.le_of_ble_eq_true rfl)) (by decide) dd_X9_init_280 rfl ?_
  refine cb_dup (q := 282) hc dd_X9_init_281 rfl rfl ?_
  refine cb_iconst (q := 283) (v := 2) hc dd_X9_init_282 rfl (by decide) ?_
  refine cb_bipush (q := 285) (v := 116) hc dd_X9_init_283 rfl (by decide) ?_
  refine cb_iast (q := 286) (i := 16) (t0 := 15) (k := 2) hc rfl rfl (vp_in_nI (n := 2) (Nat.le_of_ble_eq_true rfl) (Nat.le_of_ble_eq_true rfl)) (by decide) dd_X9_init_285 rfl ?_
  refine cb_putR (q := 289) (i := 0) hc fl_X9_56 ht_X9_31 rfl rfl (Nat.le_of_ble_eq_true rfl) rfl rfl dd_X9_init_286 rfl ?_
  refine cb_aload_n (q := 290) hc dd_X9_init_289 rfl rfl ?_
  refine cb_bipush (q := 292) (v := 8) hc dd_X9_init_290 rfl (by decide) ?_
  refine cb_newI (q := 294) (N' := 8) hc iw_116 dd_X9_init_292 rfl (by decide) (by decide) (Nat.le_of_ble_eq_true rfl) ⟨Nat.le_of_ble_eq_true rfl, Nat.le_of_ble_eq_true rfl⟩ (fun q33 c34 => ?_)
  refine cb_putR (q := 297) (i := 0) hc fl_X9_59 ht_X9_32 rfl rfl (Nat.le_of_ble_eq_true rfl) rfl rfl dd_X9_init_294 rfl ?_
  refine cb_aload_n (q := 298) hc dd_X9_init_297 rfl rfl ?_
  refine cb_bipush (q := 300) (v := 6) hc dd_X9_init_298 rfl (by decide) ?_
  refine cb_newI (q := 302) (N' := 6) hc iw_116 dd_X9_init_300 rfl (by decide) (by decide) (Nat.le_of_ble_eq_true rfl) ⟨Nat.le_of_ble_eq_true rfl, Nat.le_of_ble_eq_true rfl⟩ (fun q35 c36 => ?_)
  refine cb_putR (q := 305) (i := 0) hc fl_X9_62 ht_X9_33 rfl rfl (Nat.le_of_ble_eq_true rfl) rfl rfl dd_X9_init_302 rfl ?_
  refine cb_aload_n (q := 306) hc dd_X9_init_305 rfl rfl ?_
  refine cb_bipush (q := 308) (v := 6) hc dd_X9_init_306 rfl (by decide) ?_
  refine cb_newI (q := 310) (N' := 6) hc iw_116 dd_X9_init_308 rfl (by decide) (by decide) (Nat.le_of_ble_eq_true rfl) ⟨Nat.le_of_ble_eq_true rfl, Nat.le_of_ble_eq_true rfl⟩ (fun q37 c38 => ?_)
  refine cb_putR (q := 313) (i := 0) hc fl_X9_65 ht_X9_34 rfl rfl (Nat.le_of_ble_eq_true rfl) rfl rfl dd_X9_init_310 rfl ?_
  refine cb_aload_n (q := 314) hc dd_X9_init_313 rfl rfl ?_
  refine cb_sipush (q := 317) (v := 640) hc dd_X9_init_314 rfl (by decide) ?_
  refine cb_newL (q := 319) (N' := 640) hc iw_270 dd_X9_init_317 rfl (by decide) (by decide) (Nat.le_of_ble_eq_true rfl) ⟨Nat.le_of_ble_eq_true rfl, Nat.le_of_ble_eq_true rfl⟩ (fun q39 c40 => ?_)
  refine cb_putR (q := 322) (i := 0) hc fl_X9_68 ht_X9_35 rfl rfl (Nat.le_of_ble_eq_true rfl) rfl rfl dd_X9_init_319 rfl ?_
  refine cb_aload_n (q := 323) hc dd_X9_init_322 rfl rfl ?_
  refine cb_sipush (q := 326) (v := 128) hc dd_X9_init_323 rfl (by decide) ?_
  refine cb_newL (q := 328) (N' := 128) hc iw_270 dd_X9_init_326 rfl (by decide) (by decide) (Nat.le_of_ble_eq_true rfl) ⟨Nat.le_of_ble_eq_true rfl, Nat.le_of_ble_eq_true rfl⟩ (fun q41 c42 => ?_)
  refine cb_putR (q := 331) (i := 0) hc fl_X9_72 ht_X9_36 rfl rfl (Nat.le_of_ble_eq_true rfl) rfl rfl dd_X9_init_328 rfl ?_
  refine cb_aload_n (q := 332) hc dd_X9_init_331 rfl rfl ?_
  refine cb_sipush (q := 335) (v := 128) hc dd_X9_init_332 rfl (by decide) ?_
  refine cb_newL (q := 337) (N' := 128) hc iw_270 dd_X9_init_335 rfl (by decide) (by decide) (Nat.le_of_ble_eq_true rfl) ⟨Nat.le_of_ble_eq_true rfl, Nat.le_of_ble_eq_true rfl⟩ (fun q43 c44 => ?_)
  refine cb_putR (q := 340) (i := 0) hc fl_X9_75 ht_X9_37 rfl rfl (Nat.le_of_ble_eq_true rfl) rfl rfl dd_X9_init_337 rfl ?_
  refine cb_aload_n (q := 341) hc dd_X9_init_340 rfl rfl ?_
  refine cb_iconst (q := 342) (v := 4) hc dd_X9_init_341 rfl (by decide) ?_
  refine cb_callV (q := 345) (i := 0) (vs := [.int 4]) hc mv_X9_78 (i_X9_anew wr _ h0 q1 c2 _ _ _ _ _ _ _ _) rfl rfl rfl rfl (Nat.le_of_ble_eq_true rfl) ⟨Nat.le_of_ble_eq_true rfl, Nat.le_of_ble_eq_true rfl⟩ ⟨Nat.le_of_ble_eq_true rfl, Nat.le_of_ble_eq_true rfl⟩ dd_X9_init_342 rfl (fun wx' tys' hp => ?_)
  obtain ⟨rfl, g1, rfl, hg1⟩ := hp
  refine cb_aload_n (q := 346) hc dd_X9_init_345 rfl rfl ?_
  refine cb_iconst (q := 347) (v := 0) hc dd_X9_init_346 rfl (by decide) ?_
  refine cb_sipush (q := 350) (v := 132) hc dd_X9_init_347 rfl (by decide) ?_
  refine cb_callV (q := 353) (i := 0) (vs := [.int 0, .int 132]) hc mv_X9_82 (i_X9_copyRow wr _ h0 q1 c2 _ _ _) rfl rfl rfl rfl (Nat.le_of_ble_eq_true rfl) ⟨Nat.le_of_ble_eq_true rfl, Nat.le_of_ble_eq_true rfl⟩ ⟨Nat.le_of_ble_eq_true rfl, Nat.le_of_ble_eq_true rfl⟩ dd_X9_init_350 rfl (fun wx' tys' hp => ?_)
  obtain ⟨rfl, g2, rfl, hg2⟩ := hp
  exact cb_vret hc rfl dd_X9_init_353 ⟨q1, c2, q3, c4, q5, c6, q7, c8, q9, c10, q11, c12, q13, c14, q15, c16, q17, c18, q19, c20, q21, c22, q23, c24, q25, c26, q27, c28, q29, c30, q31, c32, q33, c34, q35, c36, q37, c38, q39, c40, q41, c42, q43, c44, g2, rfl, rfl, fun i hi => by
    have e1 := hg2 (6 + i) (by omega)
    rw [← Nat.add_assoc] at e1
    rw [e1]; exact hg1 i hi⟩
