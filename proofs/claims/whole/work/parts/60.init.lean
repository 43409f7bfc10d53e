/-! THE CONSTRUCTORS, by program. -/
theorem ht_X2_1 : ∀ (C : String) (T : u_T) (N : Nat), classes[2]? = some (C, T, N) → (T 1).1 = RX2 := by
  intro C T N h
  have e : (RX2, TX2, 4) = (C, T, N) := Option.some.inj h
  cases e
  rfl
theorem ht_X2_2 : ∀ (C : String) (T : u_T) (N : Nat), classes[2]? = some (C, T, N) → (T 2).1 = RX2 := by
  intro C T N h
  have e : (RX2, TX2, 4) = (C, T, N) := Option.some.inj h
  cases e
  rfl
set_option maxHeartbeats 4000000 in
set_option maxRecDepth 100000 in
theorem i_X2_init (wr : va_W) (h0 : Nat) : CC X2_init 1 2 12 [.ref h0] wr [(h0, .inr (2, dfX2))] [] (fun wx' tys' => ∃ (q1 : Nat) (c2 : ClassId) (q3 : Nat) (c4 : ClassId), wx' = [(h0, .inr (2, [.int 0, .ref q1, .ref q3, .int 0])), (q1, .inl (c2, 6, .inl (fun _ => 0))), (q3, .inl (c4, 6, .inl (fun _ => 0)))] ∧ tys' = [(c2, .int), (c4, .int)]) := by
  refine CC.ofW (lv := [some (.ref h0)]) (by decide +kernel) (Nat.le_of_ble_eq_true rfl) (show lvLe _ [some (.ref h0)] from lvs lvz) ?_
  intro p l e s m args below meth c D A hc
  refine cb_aload_n (q := 1) hc dd_X2_init_0 rfl rfl ?_
  refine cb_objInit (q := 4) hc iw_128 iw_90 iw_91 dd_X2_init_1 rfl (Nat.le_of_ble_eq_true rfl) (Nat.le_of_ble_eq_true rfl) ?_
  refine cb_aload_n (q := 5) hc dd_X2_init_4 rfl rfl ?_
  refine cb_bipush (q := 7) (v := 6) hc dd_X2_init_5 rfl (by decide) ?_
  refine cb_newI (q := 9) (N' := 6) hc iw_116 dd_X2_init_7 rfl (by decide) (by decide) (Nat.le_of_ble_eq_true rfl) ⟨Nat.le_of_ble_eq_true rfl, Nat.le_of_ble_eq_true rfl⟩ (fun q1 c2 => ?_)
  refine cb_putR (q := 12) (i := 0) hc fl_X2_9 ht_X2_1 rfl rfl (Nat.le_of_ble_eq_true rfl) rfl rfl dd_X2_init_9 rfl ?_
  refine cb_aload_n (q := 13) hc dd_X2_init_12 rfl rfl ?_
  refine cb_bipush (q := 15) (v := 6) hc dd_X2_init_13 rfl (by decide) ?_
  refine cb_newI (q := 17) (N' := 6) hc iw_116 dd_X2_init_15 rfl (by decide) (by decide) (Nat.le_of_ble_eq_true rfl) ⟨Nat.le_of_ble_eq_true rfl, Nat.le_of_ble_eq_true rfl⟩ (fun q3 c4 => ?_)
  refine cb_putR (q := 20) (i := 0) hc fl_X2_15 ht_X2_2 rfl rfl (Nat.le_of_ble_eq_true rfl) rfl rfl dd_X2_init_17 rfl ?_
  exact cb_vret hc rfl dd_X2_init_20 ⟨q1, c2, q3, c4, rfl, rfl⟩
theorem ht_X6_2 : ∀ (C : String) (T : u_T) (N : Nat), classes[6]? = some (C, T, N) → (T 2).1 = RX6 := by
  intro C T N h
  have e : (RX6, TX6, 5) = (C, T, N) := Option.some.inj h
  cases e
  rfl
set_option maxHeartbeats 4000000 in
set_option maxRecDepth 100000 in
theorem i_X6_init (wr : va_W) (h0 : Nat) : CC X6_init 1 1 200 [.ref h0] wr [(h0, .inr (6, dfX6))] [] (fun wx' tys' => ∃ (q1 : Nat) (c2 : ClassId), wx' = [(h0, .inr (6, [.int 0, .int 0, .ref q1, .int 0, .int 0])), (q1, .inl (c2, 200, .inl (fun _ => 0)))] ∧ tys' = [(c2, .int)]) := by
  refine CC.ofW (lv := [some (.ref h0)]) (by decide +kernel) (Nat.le_of_ble_eq_true rfl) (show lvLe _ [some (.ref h0)] from lvs lvz) ?_
  intro p l e s m args below meth c D A hc
  refine cb_aload_n (q := 1) hc dd_X6_init_0 rfl rfl ?_
  refine cb_objInit (q := 4) hc iw_97 iw_90 iw_91 dd_X6_init_1 rfl (Nat.le_of_ble_eq_true rfl) (Nat.le_of_ble_eq_true rfl) ?_
  refine cb_aload_n (q := 5) hc dd_X6_init_4 rfl rfl ?_
  refine cb_sipush (q := 8) (v := 200) hc dd_X6_init_5 rfl (by decide) ?_
  refine cb_newI (q := 10) (N' := 200) hc iw_116 dd_X6_init_8 rfl (by decide) (by decide) (Nat.le_of_ble_eq_true rfl) ⟨Nat.le_of_ble_eq_true rfl, Nat.le_of_ble_eq_true rfl⟩ (fun q1 c2 => ?_)
  refine cb_putR (q := 13) (i := 0) hc fl_X6_9 ht_X6_2 rfl rfl (Nat.le_of_ble_eq_true rfl) rfl rfl dd_X6_init_10 rfl ?_
  exact cb_vret hc rfl dd_X6_init_13 ⟨q1, c2, rfl, rfl⟩
theorem ht_X1_1 : ∀ (C : String) (T : u_T) (N : Nat), classes[1]? = some (C, T, N) → (T 1).1 = RX1 := by
  intro C T N h
  have e : (RX1, TX1, 4) = (C, T, N) := Option.some.inj h
  cases e
  rfl
theorem ht_X1_2 : ∀ (C : String) (T : u_T) (N : Nat), classes[1]? = some (C, T, N) → (T 2).1 = RX1 := by
  intro C T N h
  have e : (RX1, TX1, 4) = (C, T, N) := Option.some.inj h
  cases e
  rfl
theorem ht_X1_3 : ∀ (C : String) (T : u_T) (N : Nat), classes[1]? = some (C, T, N) → (T 3).1 = RX1 := by
  intro C T N h
  have e : (RX1, TX1, 4) = (C, T, N) := Option.some.inj h
  cases e
  rfl
set_option maxHeartbeats 4000000 in
set_option maxRecDepth 100000 in
theorem i_X1_init (wr : va_W) (h0 : Nat) : CC X1_init 1 3 24 [.ref h0] wr [(h0, .inr (1, dfX1))] [] (fun wx' tys' => ∃ (q1 : Nat) (c2 : ClassId) (q3 : Nat) (c4 : ClassId) (q5 : Nat) (c6 : ClassId), wx' = [(h0, .inr (1, [.int 0, .ref q1, .ref q3, .ref q5])), (q1, .inl (c2, 8, .inl (fun _ => 0))), (q3, .inl (c4, 8, .inl (fun _ => 0))), (q5, .inl (c6, 8, .inl (fun _ => 0)))] ∧ tys' = [(c2, .int), (c4, .int), (c6, .int)]) := by
  refine CC.ofW (lv := [some (.ref h0)]) (by decide +kernel) (Nat.le_of_ble_eq_true rfl) (show lvLe _ [some (.ref h0)] from lvs lvz) ?_
  intro p l e s m args below meth c D A hc
  refine cb_aload_n (q := 1) hc dd_X1_init_0 rfl rfl ?_
  refine cb_objInit (q := 4) hc iw_197 iw_90 iw_91 dd_X1_init_1 rfl (Nat.le_of_ble_eq_true rfl) (Nat.le_of_ble_eq_true rfl) ?_
  refine cb_aload_n (q := 5) hc dd_X1_init_4 rfl rfl ?_
  refine cb_bipush (q := 7) (v := 8) hc dd_X1_init_5 rfl (by decide) ?_
  refine cb_newI (q := 9) (N' := 8) hc iw_116 dd_X1_init_7 rfl (by decide) (by decide) (Nat.le_of_ble_eq_true rfl) ⟨Nat.le_of_ble_eq_true rfl, Nat.le_of_ble_eq_true rfl⟩ (fun q1 c2 => ?_)
  refine cb_putR (q := 12) (i := 0) hc fl_X1_9 ht_X1_1 rfl rfl (Nat.le_of_ble_eq_true rfl) rfl rfl dd_X1_init_9 rfl ?_
  refine cb_aload_n (q := 13) hc dd_X1_init_12 rfl rfl ?_
  refine cb_bipush (q := 15) (v := 8) hc dd_X1_init_13 rfl (by decide) ?_
  refine cb_newI (q := 17) (N' := 8) hc iw_116 dd_X1_init_15 rfl (by decide) (by decide) (Nat.le_of_ble_eq_true rfl) ⟨Nat.le_of_ble_eq_true rfl, Nat.le_of_ble_eq_true rfl⟩ (fun q3 c4 => ?_)
  refine cb_putR (q := 20) (i := 0) hc fl_X1_15 ht_X1_2 rfl rfl (Nat.le_of_ble_eq_true rfl) rfl rfl dd_X1_init_17 rfl ?_
  refine cb_aload_n (q := 21) hc dd_X1_init_20 rfl rfl ?_
  refine cb_bipush (q := 23) (v := 8) hc dd_X1_init_21 rfl (by decide) ?_
  refine cb_newI (q := 25) (N' := 8) hc iw_116 dd_X1_init_23 rfl (by decide) (by decide) (Nat.le_of_ble_eq_true rfl) ⟨Nat.le_of_ble_eq_true rfl, Nat.le_of_ble_eq_true rfl⟩ (fun q5 c6 => ?_)
  refine cb_putR (q := 28) (i := 0) hc fl_X1_18 ht_X1_3 rfl rfl (Nat.le_of_ble_eq_true rfl) rfl rfl dd_X1_init_25 rfl ?_
  exact cb_vret hc rfl dd_X1_init_28 ⟨q1, c2, q3, c4, q5, c6, rfl, rfl⟩
theorem ht_X4_1 : ∀ (C : String) (T : u_T) (N : Nat), classes[4]? = some (C, T, N) → (T 1).1 = RX4 := by
  intro C T N h
  have e : (RX4, TX4, 7) = (C, T, N) := Option.some.inj h
  cases e
  rfl
theorem ht_X4_4 : ∀ (C : String) (T : u_T) (N : Nat), classes[4]? = some (C, T, N) → (T 4).1 = RX4 := by
  intro C T N h
  have e : (RX4, TX4, 7) = (C, T, N) := Option.some.inj h
  cases e
  rfl
theorem ht_X4_5 : ∀ (C : String) (T : u_T) (N : Nat), classes[4]? = some (C, T, N) → (T 5).1 = RX4 := by
  intro C T N h
  have e : (RX4, TX4, 7) = (C, T, N) := Option.some.inj h
  cases e
  rfl
theorem ht_X4_6 : ∀ (C : String) (T : u_T) (N : Nat), classes[4]? = some (C, T, N) → (T 6).1 = RX4 := by
  intro C T N h
  have e : (RX4, TX4, 7) = (C, T, N) := Option.some.inj h
  cases e
  rfl
set_option maxHeartbeats 4000000 in
set_option maxRecDepth 100000 in
theorem i_X4_init (wr : va_W) (h0 : Nat) : CC X4_init 1 4 26 [.ref h0] wr [(h0, .inr (4, dfX4))] [] (fun wx' tys' => ∃ (q1 : Nat) (c2 : ClassId) (q3 : Nat) (c4 : ClassId) (q5 : Nat) (c6 : ClassId) (q7 : Nat) (c8 : ClassId), wx' = [(h0, .inr (4, [.int 0, .ref q1, .int 0, .int 0, .ref q3, .ref q5, .ref q7])), (q1, .inl (c2, 6, .inl (fun _ => 0))), (q3, .inl (c4, 6, .inl (fun _ => 0))), (q5, .inl (c6, 6, .inl (fun _ => 0))), (q7, .inl (c8, 8, .inl (fun _ => 0)))] ∧ tys' = [(c2, .int), (c4, .int), (c6, .int), (c8, .int)]) := by
  refine CC.ofW (lv := [some (.ref h0)]) (by decide +kernel) (Nat.le_of_ble_eq_true rfl) (show lvLe _ [some (.ref h0)] from lvs lvz) ?_
  intro p l e s m args below meth c D A hc
  refine cb_aload_n (q := 1) hc dd_X4_init_0 rfl rfl ?_
  refine cb_objInit (q := 4) hc iw_217 iw_90 iw_91 dd_X4_init_1 rfl (Nat.le_of_ble_eq_true rfl) (Nat.le_of_ble_eq_true rfl) ?_
  refine cb_aload_n (q := 5) hc dd_X4_init_4 rfl rfl ?_
  refine cb_bipush (q := 7) (v := 6) hc dd_X4_init_5 rfl (by decide) ?_
  refine cb_newI (q := 9) (N' := 6) hc iw_116 dd_X4_init_7 rfl (by decide) (by decide) (Nat.le_of_ble_eq_true rfl) ⟨Nat.le_of_ble_eq_true rfl, Nat.le_of_ble_eq_true rfl⟩ (fun q1 c2 => ?_)
  refine cb_putR (q := 12) (i := 0) hc fl_X4_9 ht_X4_1 rfl rfl (Nat.le_of_ble_eq_true rfl) rfl rfl dd_X4_init_9 rfl ?_
  refine cb_aload_n (q := 13) hc dd_X4_init_12 rfl rfl ?_
  refine cb_bipush (q := 15) (v := 6) hc dd_X4_init_13 rfl (by decide) ?_
  refine cb_newI (q := 17) (N' := 6) hc iw_116 dd_X4_init_15 rfl (by decide) (by decide) (Nat.le_of_ble_eq_true rfl) ⟨Nat.le_of_ble_eq_true rfl, Nat.le_of_ble_eq_true rfl⟩ (fun q3 c4 => ?_)
  refine cb_putR (q := 20) (i := 0) hc fl_X4_15 ht_X4_4 rfl rfl (Nat.le_of_ble_eq_true rfl) rfl rfl dd_X4_init_17 rfl ?_
  refine cb_aload_n (q := 21) hc dd_X4_init_20 rfl rfl ?_
  refine cb_bipush (q := 23) (v := 6) hc dd_X4_init_21 rfl (by decide) ?_
  refine cb_newI (q := 25) (N' := 6) hc iw_116 dd_X4_init_23 rfl (by decide) (by decide) (Nat.le_of_ble_eq_true rfl) ⟨Nat.le_of_ble_eq_true rfl, Nat.le_of_ble_eq_true rfl⟩ (fun q5 c6 => ?_)
  refine cb_putR (q := 28) (i := 0) hc fl_X4_18 ht_X4_5 rfl rfl (Nat.le_of_ble_eq_true rfl) rfl rfl dd_X4_init_25 rfl ?_
  refine cb_aload_n (q := 29) hc dd_X4_init_28 rfl rfl ?_
  refine cb_bipush (q := 31) (v := 8) hc dd_X4_init_29 rfl (by decide) ?_
  refine cb_newI (q := 33) (N' := 8) hc iw_116 dd_X4_init_31 rfl (by decide) (by decide) (Nat.le_of_ble_eq_true rfl) ⟨Nat.le_of_ble_eq_true rfl, Nat.le_of_ble_eq_true rfl⟩ (fun q7 c8 => ?_)
  refine cb_putR (q := 36) (i := 0) hc fl_X4_21 ht_X4_6 rfl rfl (Nat.le_of_ble_eq_true rfl) rfl rfl dd_X4_init_33 rfl ?_
  exact cb_vret hc rfl dd_X4_init_36 ⟨q1, c2, q3, c4, q5, c6, q7, c8, rfl, rfl⟩
theorem ht_X3_0 : ∀ (C : String) (T : u_T) (N : Nat), classes[3]? = some (C, T, N) → (T 0).1 = RX3 := by
  intro C T N h
  have e : (RX3, TX3, 7) = (C, T, N) := Option.some.inj h
  cases e
  rfl
theorem ht_X3_1 : ∀ (C : String) (T : u_T) (N : Nat), classes[3]? = some (C, T, N) → (T 1).1 = RX3 := by
  intro C T N h
  have e : (RX3, TX3, 7) = (C, T, N) := Option.some.inj h
  cases e
  rfl
set_option maxHeartbeats 4000000 in
set_option maxRecDepth 100000 in
theorem i_X3_init (wr : va_W) (h0 : Nat) : CC X3_init 1 2 304 [.ref h0] wr [(h0, .inr (3, dfX3))] [] (fun wx' tys' => ∃ (q1 : Nat) (c2 : ClassId) (q3 : Nat) (c4 : ClassId), wx' = [(h0, .inr (3, [.ref q1, .ref q3, .int 0, .int 0, .long 0, .long 0, .long 0])), (q1, .inl (c2, 256, .inr (.inl (fun _ => 0)))), (q3, .inl (c4, 48, .inr (.inl (fun _ => 0))))] ∧ tys' = [(c2, .long), (c4, .long)]) := by
  refine CC.ofW (lv := [some (.ref h0)]) (by decide +kernel) (Nat.le_of_ble_eq_true rfl) (show lvLe _ [some (.ref h0)] from lvs lvz) ?_
  intro p l e s m args below meth c D A hc
  refine cb_aload_n (q := 1) hc dd_X3_init_0 rfl rfl ?_
  refine cb_objInit (q := 4) hc iw_247 iw_90 iw_91 dd_X3_init_1 rfl (Nat.le_of_ble_eq_true rfl) (Nat.le_of_ble_eq_true rfl) ?_
  refine cb_aload_n (q := 5) hc dd_X3_init_4 rfl rfl ?_
  refine cb_sipush (q := 8) (v := 256) hc dd_X3_init_5 rfl (by decide) ?_
  refine cb_newL (q := 10) (N' := 256) hc iw_270 dd_X3_init_8 rfl (by decide) (by decide) (Nat.le_of_ble_eq_true rfl) ⟨Nat.le_of_ble_eq_true rfl, Nat.le_of_ble_eq_true rfl⟩ (fun q1 c2 => ?_)
  refine cb_putR (q := 13) (i := 0) hc fl_X3_11 ht_X3_0 rfl rfl (Nat.le_of_ble_eq_true rfl) rfl rfl dd_X3_init_10 rfl ?_
  refine cb_aload_n (q := 14) hc dd_X3_init_13 rfl rfl ?_
  refine cb_bipush (q := 16) (v := 48) hc dd_X3_init_14 rfl (by decide) ?_
  refine cb_newL (q := 18) (N' := 48) hc iw_270 dd_X3_init_16 rfl (by decide) (by decide) (Nat.le_of_ble_eq_true rfl) ⟨Nat.le_of_ble_eq_true rfl, Nat.le_of_ble_eq_true rfl⟩ (fun q3 c4 => ?_)
  refine cb_putR (q := 21) (i := 0) hc fl_X3_15 ht_X3_1 rfl rfl (Nat.le_of_ble_eq_true rfl) rfl rfl dd_X3_init_18 rfl ?_
  exact cb_vret hc rfl dd_X3_init_21 ⟨q1, c2, q3, c4, rfl, rfl⟩
theorem ht_X5_2 : ∀ (C : String) (T : u_T) (N : Nat), classes[5]? = some (C, T, N) → (T 2).1 = RX5 := by
  intro C T N h
  have e : (RX5, TX5, 3) = (C, T, N) := Option.some.inj h
  cases e
  rfl
set_option maxHeartbeats 4000000 in
set_option maxRecDepth 100000 in
theorem i_X5_init (wr : va_W) (h0 : Nat) : CC X5_init 1 1 12 [.ref h0] wr [(h0, .inr (5, dfX5))] [] (fun wx' tys' => ∃ (q1 : Nat) (c2 : ClassId), wx' = [(h0, .inr (5, [.int 0, .int 0, .ref q1])), (q1, .inl (c2, 12, .inl (fun _ => 0)))] ∧ tys' = [(c2, .int)]) := by
  refine CC.ofW (lv := [some (.ref h0)]) (by decide +kernel) (Nat.le_of_ble_eq_true rfl) (show lvLe _ [some (.ref h0)] from lvs lvz) ?_
  intro p l e s m args below meth c D A hc
  refine cb_aload_n (q := 1) hc dd_X5_init_0 rfl rfl ?_
  refine cb_objInit (q := 4) hc iw_300 iw_90 iw_91 dd_X5_init_1 rfl (Nat.le_of_ble_eq_true rfl) (Nat.le_of_ble_eq_true rfl) ?_
  refine cb_aload_n (q := 5) hc dd_X5_init_4 rfl rfl ?_
  refine cb_bipush (q := 7) (v := 12) hc dd_X5_init_5 rfl (by decide) ?_
  refine cb_newI (q := 9) (N' := 12) hc iw_116 dd_X5_init_7 rfl (by decide) (by decide) (Nat.le_of_ble_eq_true rfl) ⟨Nat.le_of_ble_eq_true rfl, Nat.le_of_ble_eq_true rfl⟩ (fun q1 c2 => ?_)
  refine cb_putR (q := 12) (i := 0) hc fl_X5_9 ht_X5_2 rfl rfl (Nat.le_of_ble_eq_true rfl) rfl rfl dd_X5_init_9 rfl ?_
  exact cb_vret hc rfl dd_X5_init_12 ⟨q1, c2, rfl, rfl⟩
set_option maxHeartbeats 4000000 in
set_option maxRecDepth 100000 in
theorem i_X7_init (wr : va_W) (h0 : Nat) : CC X7_init 1 0 0 [.ref h0] wr [(h0, .inr (7, dfX7))] [] (fun wx' tys' => wx' = [(h0, .inr (7, [.int 0, .int 0, .long 0, .long 0, .int 0]))] ∧ tys' = []) := by
  refine CC.ofW (lv := [some (.ref h0)]) (by decide +kernel) (Nat.le_of_ble_eq_true rfl) (show lvLe _ [some (.ref h0)] from lvs lvz) ?_
  intro p l e s m args below meth c D A hc
  refine cb_aload_n (q := 1) hc dd_X7_init_0 rfl rfl ?_
  refine cb_objInit (q := 4) hc iw_276 iw_90 iw_91 dd_X7_init_1 rfl (Nat.le_of_ble_eq_true rfl) (Nat.le_of_ble_eq_true rfl) ?_
  exact cb_vret hc rfl dd_X7_init_4 ⟨rfl, rfl⟩
set_option maxHeartbeats 4000000 in
theorem i_X0_beginAnew (wr : va_W) (h0 q1 q2 q3 q4 : Nat) (c1 c2 c3 : ClassId) : CC X0_beginAnew 0 0 0 [.ref h0, .int 4] wr [(h0, .inr (0, [.int 0, .int 0, .int 0, .int 0, .ref q1, .ref q2])), (q1, .inl (c1, 8, .inl (fun _ => 0))), (q2, .inr (2, [.int 0, .ref q3, .ref q4, .int 0])), (q3, .inl (c2, 6, .inl (fun _ => 0))), (q4, .inl (c3, 6, .inl (fun _ => 0)))] [(c1, .int), (c2, .int), (c3, .int)] (fun wx' tys' => wx' = [(h0, .inr (0, [.int 4, .int 2, .int 20, .int 0, .ref q1, .ref q2])), (q1, .inl (c1, 8, .inl (fun _ => 0))), (q2, .inr (2, [.int 0, .ref q3, .ref q4, .int 0])), (q3, .inl (c2, 6, .inl (fun _ => 0))), (q4, .inl (c3, 6, .inl (fun _ => 0)))] ∧ tys' = [(c1, .int), (c2, .int), (c3, .int)]) := by
  refine CC.ofW (lv := [some (.ref h0), some (.int 4)]) (by decide +kernel) (Nat.le_of_ble_eq_true rfl) (show lvLe _ [some (.ref h0), some (.int 4)] from lvs (lvs lvz)) ?_
  intro p l e s m args below meth c D A hc
  refine cb_aload_n (q := 1) hc dd_X0_beginAnew_0 rfl rfl ?_
  refine cb_iload_n (q := 2) hc dd_X0_beginAnew_1 rfl rfl ?_
  refine cb_putI (q := 5) (i := 0) hc fl_X0_26 rfl (Nat.le_of_ble_eq_true rfl) dd_X0_beginAnew_2 rfl ?_
  refine cb_aload_n (q := 6) hc dd_X0_beginAnew_5 rfl rfl ?_
  refine cb_iconst (q := 7) (v := 2) hc dd_X0_beginAnew_6 rfl (by decide) ?_
  refine cb_putI (q := 10) (i := 0) hc fl_X0_30 rfl (Nat.le_of_ble_eq_true rfl) dd_X0_beginAnew_7 rfl ?_
  refine cb_aload_n (q := 11) hc dd_X0_beginAnew_10 rfl rfl ?_
  refine cb_bipush (q := 13) (v := 20) hc dd_X0_beginAnew_11 rfl (by decide) ?_
  refine cb_putI (q := 16) (i := 0) hc fl_X0_33 rfl (Nat.le_of_ble_eq_true rfl) dd_X0_beginAnew_13 rfl ?_
  refine cb_aload_n (q := 17) hc dd_X0_beginAnew_16 rfl rfl ?_
  refine cb_iconst (q := 18) (v := 0) hc dd_X0_beginAnew_17 rfl (by decide) ?_
  refine cb_putI (q := 21) (i := 0) hc fl_X0_36 rfl (Nat.le_of_ble_eq_true rfl) dd_X0_beginAnew_18 rfl ?_
  refine cb_aload_n (q := 22) hc dd_X0_beginAnew_21 rfl rfl ?_
  refine cb_getR (q := 25) (i := 0) hc fl_X0_18 rfl rfl dd_X0_beginAnew_22 rfl ?_
  refine cb_iconst (q := 26) (v := 0) hc dd_X0_beginAnew_25 rfl (by decide) ?_
  refine cb_putI (q := 29) (i := 2) hc fl_X0_39 rfl (Nat.le_of_ble_eq_true rfl) dd_X0_beginAnew_26 rfl ?_
  exact cb_vret hc rfl dd_X0_beginAnew_29 ⟨rfl, rfl⟩
theorem ht_X0_4 : ∀ (C : String) (T : u_T) (N : Nat), classes[0]? = some (C, T, N) → (T 4).1 = RX0 := by
  intro C T N h
  have e : (RX0, TX0, 6) = (C, T, N) := Option.some.inj h
  cases e
  rfl
theorem ht_X0_5 : ∀ (C : String) (T : u_T) (N : Nat), classes[0]? = some (C, T, N) → (T 5).1 = RX0 := by
  intro C T N h
  have e : (RX0, TX0, 6) = (C, T, N) := Option.some.inj h
  cases e
  rfl
set_option maxHeartbeats 4000000 in
set_option maxRecDepth 100000 in
theorem i_X0_init (wr : va_W) (h0 : Nat) : CC X0_init 2 4 24 [.ref h0] wr [(h0, .inr (0, dfX0))] [] (fun wx' tys' => ∃ (q1 : Nat) (c2 : ClassId) (q3 : Nat) (q4 : Nat) (c5 : ClassId) (q6 : Nat) (c7 : ClassId), wx' = [(h0, .inr (0, [.int 4, .int 2, .int 20, .int 0, .ref q1, .ref q3])), (q1, .inl (c2, 8, .inl (fun _ => 0))), (q3, .inr (2, [.int 0, .ref q4, .ref q6, .int 0])), (q4, .inl (c5, 6, .inl (fun _ => 0))), (q6, .inl (c7, 6, .inl (fun _ => 0)))] ∧ tys' = [(c2, .int), (c5, .int), (c7, .int)]) := by
  refine CC.ofW (lv := [some (.ref h0)]) (by decide +kernel) (Nat.le_of_ble_eq_true rfl) (show lvLe _ [some (.ref h0)] from lvs lvz) ?_
  intro p l e s m args below meth c D A hc
  refine cb_aload_n (q := 1) hc dd_X0_init_0 rfl rfl ?_
  refine cb_objInit (q := 4) hc iw_122 iw_90 iw_91 dd_X0_init_1 rfl (Nat.le_of_ble_eq_true rfl) (Nat.le_of_ble_eq_true rfl) ?_
  refine cb_aload_n (q := 5) hc dd_X0_init_4 rfl rfl ?_
  refine cb_bipush (q := 7) (v := 8) hc dd_X0_init_5 rfl (by decide) ?_
  refine cb_newI (q := 9) (N' := 8) hc iw_116 dd_X0_init_7 rfl (by decide) (by decide) (Nat.le_of_ble_eq_true rfl) ⟨Nat.le_of_ble_eq_true rfl, Nat.le_of_ble_eq_true rfl⟩ (fun q1 c2 => ?_)
  refine cb_putR (q := 12) (i := 0) hc fl_X0_9 ht_X0_4 rfl rfl (Nat.le_of_ble_eq_true rfl) rfl rfl dd_X0_init_9 rfl ?_
  refine cb_aload_n (q := 13) hc dd_X0_init_12 rfl rfl ?_
  refine cb_new (q := 16) (fs := dfX2) hc ckX2 iw_123 iw_124 iw_69 dfX2_ok dd_X0_init_13 rfl ⟨Nat.le_of_ble_eq_true rfl, Nat.le_of_ble_eq_true rfl⟩ (fun q3 => ?_)
  refine cb_dup (q := 17) hc dd_X0_init_16 rfl rfl ?_
  refine cb_callN (q := 20) (Y := X2_init) (h := q3) (wx1 := [(h0, .inr (0, [.int 0, .int 0, .int 0, .int 0, .ref q1, .null])), (q1, .inl (c2, 8, .inl (fun _ => 0)))]) (wx2 := [(q3, .inr (2, dfX2))]) hc (fun h => h.2.1) iw_126 iw_69 iw_127 rfl rfl ⟨by decide +kernel, by decide +kernel, by decide +kernel⟩ (Nat.le_of_ble_eq_true rfl) (i_X2_init _ q3) rfl rfl (Nat.le_of_ble_eq_true rfl) ⟨Nat.le_of_ble_eq_true rfl, Nat.le_of_ble_eq_true rfl⟩ ⟨Nat.le_of_ble_eq_true rfl, Nat.le_of_ble_eq_true rfl⟩ dd_X0_init_17 rfl (fun wx' tys' hp => ?_)
  obtain ⟨q4, c5, q6, c7, rfl, rfl⟩ := hp
  refine cb_putR (q := 23) (i := 0) hc fl_X0_18 ht_X0_5 rfl rfl (Nat.le_of_ble_eq_true rfl) rfl rfl dd_X0_init_20 rfl ?_
  refine cb_aload_n (q := 24) hc dd_X0_init_23 rfl rfl ?_
  refine cb_iconst (q := 25) (v := 4) hc dd_X0_init_24 rfl (by decide) ?_
  refine cb_callV (cl := 0) (sl := 0) (q := 28) (i := 0) (vs := [.int 4]) hc mv_X0_22 (i_X0_beginAnew wr h0 q1 q3 q4 q6 c2 c5 c7) rfl rfl rfl rfl (Nat.le_of_ble_eq_true rfl) ⟨Nat.le_of_ble_eq_true rfl, Nat.le_of_ble_eq_true rfl⟩ ⟨Nat.le_of_ble_eq_true rfl, Nat.le_of_ble_eq_true rfl⟩ dd_X0_init_25 rfl (fun wx' tys' hp => ?_)
  obtain ⟨rfl, rfl⟩ := hp
  exact cb_vret hc rfl dd_X0_init_28 ⟨q1, c2, q3, q4, c5, q6, c7, rfl, rfl⟩
theorem ht_X8_0 : ∀ (C : String) (T : u_T) (N : Nat), classes[8]? = some (C, T, N) → (T 0).1 = RX8 := by
  intro C T N h
  have e : (RX8, TX8, 11) = (C, T, N) := Option.some.inj h
  cases e
  rfl
theorem ht_X8_1 : ∀ (C : String) (T : u_T) (N : Nat), classes[8]? = some (C, T, N) → (T 1).1 = RX8 := by
  intro C T N h
  have e : (RX8, TX8, 11) = (C, T, N) := Option.some.inj h
  cases e
  rfl
theorem ht_X8_2 : ∀ (C : String) (T : u_T) (N : Nat), classes[8]? = some (C, T, N) → (T 2).1 = RX8 := by
  intro C T N h
  have e : (RX8, TX8, 11) = (C, T, N) := Option.some.inj h
  cases e
  rfl
theorem ht_X8_3 : ∀ (C : String) (T : u_T) (N : Nat), classes[8]? = some (C, T, N) → (T 3).1 = RX8 := by
  intro C T N h
  have e : (RX8, TX8, 11) = (C, T, N) := Option.some.inj h
  cases e
  rfl
theorem ht_X8_4 : ∀ (C : String) (T : u_T) (N : Nat), classes[8]? = some (C, T, N) → (T 4).1 = RX8 := by
  intro C T N h
  have e : (RX8, TX8, 11) = (C, T, N) := Option.some.inj h
  cases e
  rfl
theorem ht_X8_5 : ∀ (C : String) (T : u_T) (N : Nat), classes[8]? = some (C, T, N) → (T 5).1 = RX8 := by
  intro C T N h
  have e : (RX8, TX8, 11) = (C, T, N) := Option.some.inj h
  cases e
  rfl
theorem ht_X8_6 : ∀ (C : String) (T : u_T) (N : Nat), classes[8]? = some (C, T, N) → (T 6).1 = RX8 := by
  intro C T N h
  have e : (RX8, TX8, 11) = (C, T, N) := Option.some.inj h
  cases e
  rfl
theorem ht_X8_7 : ∀ (C : String) (T : u_T) (N : Nat), classes[8]? = some (C, T, N) → (T 7).1 = RX8 := by
  intro C T N h
  have e : (RX8, TX8, 11) = (C, T, N) := Option.some.inj h
  cases e
  rfl
theorem ht_X8_8 : ∀ (C : String) (T : u_T) (N : Nat), classes[8]? = some (C, T, N) → (T 8).1 = RX8 := by
  intro C T N h
  have e : (RX8, TX8, 11) = (C, T, N) := Option.some.inj h
  cases e
  rfl
theorem ht_X8_9 : ∀ (C : String) (T : u_T) (N : Nat), classes[8]? = some (C, T, N) → (T 9).1 = RX8 := by
  intro C T N h
  have e : (RX8, TX8, 11) = (C, T, N) := Option.some.inj h
  cases e
  rfl
theorem ht_X8_10 : ∀ (C : String) (T : u_T) (N : Nat), classes[8]? = some (C, T, N) → (T 10).1 = RX8 := by
  intro C T N h
  have e : (RX8, TX8, 11) = (C, T, N) := Option.some.inj h
  cases e
  rfl
set_option maxHeartbeats 4000000 in
set_option maxRecDepth 100000 in
theorem i_X8_init (wr : va_W) (h0 : Nat) : CC X8_init 3 41 738 [.ref h0] wr [(h0, .inr (8, dfX8))] [] (fun wx' tys' => ∃ (q1 : Nat) (q2 : Nat) (c3 : ClassId) (q4 : Nat) (q5 : Nat) (c6 : ClassId) (q7 : Nat) (q8 : Nat) (c9 : ClassId) (q10 : Nat) (c11 : ClassId) (q12 : Nat) (q13 : Nat) (c14 : ClassId) (q15 : Nat) (q16 : Nat) (c17 : ClassId) (q18 : Nat) (c19 : ClassId) (q20 : Nat) (q21 : Nat) (c22 : ClassId) (q23 : Nat) (c24 : ClassId) (q25 : Nat) (q26 : Nat) (c27 : ClassId) (q28 : Nat) (c29 : ClassId) (q30 : Nat) (c31 : ClassId) (q32 : Nat) (q33 : Nat) (c34 : ClassId) (q35 : Nat) (c36 : ClassId) (q37 : Nat) (q38 : Nat) (c39 : ClassId) (q40 : Nat) (c41 : ClassId) (q42 : Nat) (q43 : Nat) (c44 : ClassId) (q45 : Nat) (c46 : ClassId) (q47 : Nat) (c48 : ClassId) (q49 : Nat) (c50 : ClassId) (q51 : Nat) (q52 : Nat) (c53 : ClassId) (q54 : Nat) (c55 : ClassId) (q56 : Nat) (q57 : Nat) (c58 : ClassId) (q59 : Nat) (q60 : Nat) (c61 : ClassId) (q62 : Nat) (q63 : Nat) (c64 : ClassId) (q65 : Nat) (q66 : Nat) (c67 : ClassId), wx' = [(h0, .inr (8, [.ref q1, .ref q4, .ref q12, .ref q20, .ref q25, .ref q32, .ref q37, .ref q42, .ref q51, .ref q56, .ref q57])), (q1, .inr (6, [.int 0, .int 0, .ref q2, .int 0, .int 0])), (q2, .inl (c3, 200, .inl (fun _ => 0))), (q4, .inr (0, [.int 4, .int 2, .int 20, .int 0, .ref q5, .ref q7])), (q5, .inl (c6, 8, .inl (fun _ => 0))), (q7, .inr (2, [.int 0, .ref q8, .ref q10, .int 0])), (q8, .inl (c9, 6, .inl (fun _ => 0))), (q10, .inl (c11, 6, .inl (fun _ => 0))), (q12, .inr (0, [.int 4, .int 2, .int 20, .int 0, .ref q13, .ref q15])), (q13, .inl (c14, 8, .inl (fun _ => 0))), (q15, .inr (2, [.int 0, .ref q16, .ref q18, .int 0])), (q16, .inl (c17, 6, .inl (fun _ => 0))), (q18, .inl (c19, 6, .inl (fun _ => 0))), (q20, .inr (2, [.int 0, .ref q21, .ref q23, .int 0])), (q21, .inl (c22, 6, .inl (fun _ => 0))), (q23, .inl (c24, 6, .inl (fun _ => 0))), (q25, .inr (1, [.int 0, .ref q26, .ref q28, .ref q30])), (q26, .inl (c27, 8, .inl (fun _ => 0))), (q28, .inl (c29, 8, .inl (fun _ => 0))), (q30, .inl (c31, 8, .inl (fun _ => 0))), (q32, .inr (2, [.int 0, .ref q33, .ref q35, .int 0])), (q33, .inl (c34, 6, .inl (fun _ => 0))), (q35, .inl (c36, 6, .inl (fun _ => 0))), (q37, .inr (2, [.int 0, .ref q38, .ref q40, .int 0])), (q38, .inl (c39, 6, .inl (fun _ => 0))), (q40, .inl (c41, 6, .inl (fun _ => 0))), (q42, .inr (4, [.int 0, .ref q43, .int 0, .int 0, .ref q45, .ref q47, .ref q49])), (q43, .inl (c44, 6, .inl (fun _ => 0))), (q45, .inl (c46, 6, .inl (fun _ => 0))), (q47, .inl (c48, 6, .inl (fun _ => 0))), (q49, .inl (c50, 8, .inl (fun _ => 0))), (q51, .inr (3, [.ref q52, .ref q54, .int 0, .int 0, .long 0, .long 0, .long 0])), (q52, .inl (c53, 256, .inr (.inl (fun _ => 0)))), (q54, .inl (c55, 48, .inr (.inl (fun _ => 0)))), (q56, .inr (7, [.int 0, .int 0, .long 0, .long 0, .int 0])), (q57, .inl (c58, 3, .inr (.inr (.inr (.inr (va_up (va_up (va_up (fun _ => none) 0 (some q59)) 1 (some q62)) 2 (some q65))))))), (q59, .inr (5, [.int 0, .int 0, .ref q60])), (q60, .inl (c61, 12, .inl (fun _ => 0))), (q62, .inr (5, [.int 0, .int 0, .ref q63])), (q63, .inl (c64, 12, .inl (fun _ => 0))), (q65, .inr (5, [.int 0, .int 0, .ref q66])), (q66, .inl (c67, 12, .inl (fun _ => 0)))] ∧ tys' = [(c3, .int), (c6, .int), (c9, .int), (c11, .int), (c14, .int), (c17, .int), (c19, .int), (c22, .int), (c24, .int), (c27, .int), (c29, .int), (c31, .int), (c34, .int), (c36, .int), (c39, .int), (c41, .int), (c44, .int), (c46, .int), (c48, .int), (c50, .int), (c53, .long), (c55, .long), (c58, .object "HarbourLights$Tape"), (c61, .int), (c64, .int), (c67, .int)]) := by
  refine CC.ofW (lv := [some (.ref h0), none]) (by decide +kernel) (Nat.le_of_ble_eq_true rfl) (show lvLe _ [some (.ref h0)] from lvs (lve lvz)) ?_
  intro p l e s m args below meth c D A hc
  refine cb_aload_n (q := 1) hc dd_X8_init_0 rfl rfl ?_
  refine cb_objInit (q := 4) hc iw_89 iw_90 iw_91 dd_X8_init_1 rfl (Nat.le_of_ble_eq_true rfl) (Nat.le_of_ble_eq_true rfl) ?_
  refine cb_aload_n (q := 5) hc dd_X8_init_4 rfl rfl ?_
  refine cb_new (q := 8) (fs := dfX6) hc ckX6 iw_92 iw_93 iw_67 dfX6_ok dd_X8_init_5 rfl ⟨Nat.le_of_ble_eq_true rfl, Nat.le_of_ble_eq_true rfl⟩ (fun q1 => ?_)
  refine cb_dup (q := 9) hc dd_X8_init_8 rfl rfl ?_
  refine cb_callN (q := 12) (Y := X6_init) (h := q1) (wx1 := [(h0, .inr (8, [.null, .null, .null, .null, .null, .null, .null, .null, .null, .null, .null]))]) (wx2 := [(q1, .inr (6, dfX6))]) hc (fun h => h.1) iw_95 iw_67 iw_96 rfl rfl ⟨by decide +kernel, by decide +kernel, by decide +kernel⟩ (Nat.le_of_ble_eq_true rfl) (i_X6_init _ q1) rfl rfl (Nat.le_of_ble_eq_true rfl) ⟨Nat.le_of_ble_eq_true rfl, Nat.le_of_ble_eq_true rfl⟩ ⟨Nat.le_of_ble_eq_true rfl, Nat.le_of_ble_eq_true rfl⟩ dd_X8_init_9 rfl (fun wx' tys' hp => ?_)
  obtain ⟨q2, c3, rfl, rfl⟩ := hp
  refine cb_putR (q := 15) (i := 0) hc fl_X8_12 ht_X8_0 rfl rfl (Nat.le_of_ble_eq_true rfl) rfl rfl dd_X8_init_12 rfl ?_
  refine cb_aload_n (q := 16) hc dd_X8_init_15 rfl rfl ?_
  refine cb_new (q := 19) (fs := dfX0) hc ckX0 iw_117 iw_118 iw_68 dfX0_ok dd_X8_init_16 rfl ⟨Nat.le_of_ble_eq_true rfl, Nat.le_of_ble_eq_true rfl⟩ (fun q4 => ?_)
  refine cb_dup (q := 20) hc dd_X8_init_19 rfl rfl ?_
  refine cb_callI (q := 23) (Y := X0_init) (h := q4) (wx1 := [(h0, .inr (8, [.ref q1, .null, .null, .null, .null, .null, .null, .null, .null, .null, .null])), (q1, .inr (6, [.int 0, .int 0, .ref q2, .int 0, .int 0])), (q2, .inl (c3, 200, .inl (fun _ => 0)))]) (wx2 := [(q4, .inr (0, dfX0))]) hc iw_119 iw_120 iw_68 iw_121 rfl rfl ⟨by decide +kernel, by decide +kernel, by decide +kernel⟩ (Nat.le_of_ble_eq_true rfl) (i_X0_init _ q4) rfl rfl (Nat.le_of_ble_eq_true rfl) ⟨Nat.le_of_ble_eq_true rfl, Nat.le_of_ble_eq_true rfl⟩ ⟨Nat.le_of_ble_eq_true rfl, Nat.le_of_ble_eq_true rfl⟩ dd_X8_init_20 rfl (fun wx' tys' hp => ?_)
  obtain ⟨q5, c6, q7, q8, c9, q10, c11, rfl, rfl⟩ := hp
  refine cb_putR (q := 26) (i := 0) hc fl_X8_19 ht_X8_1 rfl rfl (Nat.le_of_ble_eq_true rfl) rfl rfl dd_X8_init_23 rfl ?_
  refine cb_aload_n (q := 27) hc dd_X8_init_26 rfl rfl ?_
  refine cb_new (q := 30) (fs := dfX0) hc ckX0 iw_117 iw_118 iw_68 dfX0_ok dd_X8_init_27 rfl ⟨Nat.le_of_ble_eq_true rfl, Nat.le_of_ble_eq_true rfl⟩ (fun q12 => ?_)
  refine cb_dup (q := 31) hc dd_X8_init_30 rfl rfl ?_
  refine cb_callI (q := 34) (Y := X0_init) (h := q12) (wx1 := [(h0, .inr (8, [.ref q1, .ref q4, .null, .null, .null, .null, .null, .null, .null, .null, .null])), (q1, .inr (6, [.int 0, .int 0, .ref q2, .int 0, .int 0])), (q2, .inl (c3, 200, .inl (fun _ => 0))), (q4, .inr (0, [.int 4, .int 2, .int 20, .int 0, .ref q5, .ref q7])), (q5, .inl (c6, 8, .inl (fun _ => 0))), (q7, .inr (2, [.int 0, .ref q8, .ref q10, .int 0])), (q8, .inl (c9, 6, .inl (fun _ => 0))), (q10, .inl (c11, 6, .inl (fun _ => 0)))]) (wx2 := [(q12, .inr (0, dfX0))]) hc iw_119 iw_120 iw_68 iw_121 rfl rfl ⟨by decide +kernel, by decide +kernel, by decide +kernel⟩ (Nat.le_of_ble_eq_true rfl) (i_X0_init _ q12) rfl rfl (Nat.le_of_ble_eq_true rfl) ⟨Nat.le_of_ble_eq_true rfl, Nat.le_of_ble_eq_true rfl⟩ ⟨Nat.le_of_ble_eq_true rfl, Nat.le_of_ble_eq_true rfl⟩ dd_X8_init_31 rfl (fun wx' tys' hp => ?_)
  obtain ⟨q13, c14, q15, q16, c17, q18, c19, rfl, rfl⟩ := hp
  refine cb_putR (q := 37) (i := 0) hc fl_X8_23 ht_X8_2 rfl rfl (Nat.le_of_ble_eq_true rfl) rfl rfl dd_X8_init_34 rfl ?_
  refine cb_aload_n (q := 38) hc dd_X8_init_37 rfl rfl ?_
  refine cb_new (q := 41) (fs := dfX2) hc ckX2 iw_190 iw_124 iw_69 dfX2_ok dd_X8_init_38 rfl ⟨Nat.le_of_ble_eq_true rfl, Nat.le_of_ble_eq_true rfl⟩ (fun q20 => ?_)
  refine cb_dup (q := 42) hc dd_X8_init_41 rfl rfl ?_
  refine cb_callN (q := 45) (Y := X2_init) (h := q20) (wx1 := [(h0, .inr (8, [.ref q1, .ref q4, .ref q12, .null, .null, .null, .null, .null, .null, .null, .null])), (q1, .inr (6, [.int 0, .int 0, .ref q2, .int 0, .int 0])), (q2, .inl (c3, 200, .inl (fun _ => 0))), (q4, .inr (0, [.int 4, .int 2, .int 20, .int 0, .ref q5, .ref q7])), (q5, .inl (c6, 8, .inl (fun _ => 0))), (q7, .inr (2, [.int 0, .ref q8, .ref q10, .int 0])), (q8, .inl (c9, 6, .inl (fun _ => 0))), (q10, .inl (c11, 6, .inl (fun _ => 0))), (q12, .inr (0, [.int 4, .int 2, .int 20, .int 0, .ref q13, .ref q15])), (q13, .inl (c14, 8, .inl (fun _ => 0))), (q15, .inr (2, [.int 0, .ref q16, .ref q18, .int 0])), (q16, .inl (c17, 6, .inl (fun _ => 0))), (q18, .inl (c19, 6, .inl (fun _ => 0)))]) (wx2 := [(q20, .inr (2, dfX2))]) hc (fun h => h.2.2.1) iw_126 iw_69 iw_127 rfl rfl ⟨by decide +kernel, by decide +kernel, by decide +kernel⟩ (Nat.le_of_ble_eq_true rfl) (i_X2_init _ q20) rfl rfl (Nat.le_of_ble_eq_true rfl) ⟨Nat.le_of_ble_eq_true rfl, Nat.le_of_ble_eq_true rfl⟩ ⟨Nat.le_of_ble_eq_true rfl, Nat.le_of_ble_eq_true rfl⟩ dd_X8_init_42 rfl (fun wx' tys' hp => ?_)
  obtain ⟨q21, c22, q23, c24, rfl, rfl⟩ := hp
  refine cb_putR (q := 48) (i := 0) hc fl_X8_29 ht_X8_3 rfl rfl (Nat.le_of_ble_eq_true rfl) rfl rfl dd_X8_init_45 rfl ?_
  refine cb_aload_n (q := 49) hc dd_X8_init_48 rfl rfl ?_
  refine cb_new (q := 52) (fs := dfX1) hc ckX1 iw_192 iw_193 iw_70 dfX1_ok dd_X8_init_49 rfl ⟨Nat.le_of_ble_eq_true rfl, Nat.le_of_ble_eq_true rfl⟩ (fun q25 => ?_)
  refine cb_dup (q := 53) hc dd_X8_init_52 rfl rfl ?_
  refine cb_callN (q := 56) (Y := X1_init) (h := q25) (wx1 := [(h0, .inr (8, [.ref q1, .ref q4, .ref q12, .ref q20, .null, .null, .null, .null, .null, .null, .null])), (q1, .inr (6, [.int 0, .int 0, .ref q2, .int 0, .int 0])), (q2, .inl (c3, 200, .inl (fun _ => 0))), (q4, .inr (0, [.int 4, .int 2, .int 20, .int 0, .ref q5, .ref q7])), (q5, .inl (c6, 8, .inl (fun _ => 0))), (q7, .inr (2, [.int 0, .ref q8, .ref q10, .int 0])), (q8, .inl (c9, 6, .inl (fun _ => 0))), (q10, .inl (c11, 6, .inl (fun _ => 0))), (q12, .inr (0, [.int 4, .int 2, .int 20, .int 0, .ref q13, .ref q15])), (q13, .inl (c14, 8, .inl (fun _ => 0))), (q15, .inr (2, [.int 0, .ref q16, .ref q18, .int 0])), (q16, .inl (c17, 6, .inl (fun _ => 0))), (q18, .inl (c19, 6, .inl (fun _ => 0))), (q20, .inr (2, [.int 0, .ref q21, .ref q23, .int 0])), (q21, .inl (c22, 6, .inl (fun _ => 0))), (q23, .inl (c24, 6, .inl (fun _ => 0)))]) (wx2 := [(q25, .inr (1, dfX1))]) hc (fun h => h.2.2.2.1) iw_195 iw_70 iw_196 rfl rfl ⟨by decide +kernel, by decide +kernel, by decide +kernel⟩ (Nat.le_of_ble_eq_true rfl) (i_X1_init _ q25) rfl rfl (Nat.le_of_ble_eq_true rfl) ⟨Nat.le_of_ble_eq_true rfl, Nat.le_of_ble_eq_true rfl⟩ ⟨Nat.le_of_ble_eq_true rfl, Nat.le_of_ble_eq_true rfl⟩ dd_X8_init_53 rfl (fun wx' tys' hp => ?_)
  obtain ⟨q26, c27, q28, c29, q30, c31, rfl, rfl⟩ := hp
  refine cb_putR (q := 59) (i := 0) hc fl_X8_36 ht_X8_4 rfl rfl (Nat.le_of_ble_eq_true rfl) rfl rfl dd_X8_init_56 rfl ?_
  refine cb_aload_n (q := 60) hc dd_X8_init_59 rfl rfl ?_
  refine cb_new (q := 63) (fs := dfX2) hc ckX2 iw_190 iw_124 iw_69 dfX2_ok dd_X8_init_60 rfl ⟨Nat.le_of_ble_eq_true rfl, Nat.le_of_ble_eq_true rfl⟩ (fun q32 => ?_)
  refine cb_dup (q := 64) hc dd_X8_init_63 rfl rfl ?_
  refine cb_callN (q := 67) (Y := X2_init) (h := q32) (wx1 := [(h0, .inr (8, [.ref q1, .ref q4, .ref q12, .ref q20, .ref q25, .null, .null, .null, .null, .null, .null])), (q1, .inr (6, [.int 0, .int 0, .ref q2, .int 0, .int 0])), (q2, .inl (c3, 200, .inl (fun _ => 0))), (q4, .inr (0, [.int 4, .int 2, .int 20, .int 0, .ref q5, .ref q7])), (q5, .inl (c6, 8, .inl (fun _ => 0))), (q7, .inr (2, [.int 0, .ref q8, .ref q10, .int 0])), (q8, .inl (c9, 6, .inl (fun _ => 0))), (q10, .inl (c11, 6, .inl (fun _ => 0))), (q12, .inr (0, [.int 4, .int 2, .int 20, .int 0, .ref q13, .ref q15])), (q13, .inl (c14, 8, .inl (fun _ => 0))), (q15, .inr (2, [.int 0, .ref q16, .ref q18, .int 0])), (q16, .inl (c17, 6, .inl (fun _ => 0))), (q18, .inl (c19, 6, .inl (fun _ => 0))), (q20, .inr (2, [.int 0, .ref q21, .ref q23, .int 0])), (q21, .inl (c22, 6, .inl (fun _ => 0))), (q23, .inl (c24, 6, .inl (fun _ => 0))), (q25, .inr (1, [.int 0, .ref q26, .ref q28, .ref q30])), (q26, .inl (c27, 8, .inl (fun _ => 0))), (q28, .inl (c29, 8, .inl (fun _ => 0))), (q30, .inl (c31, 8, .inl (fun _ => 0)))]) (wx2 := [(q32, .inr (2, dfX2))]) hc (fun h => h.2.2.1) iw_126 iw_69 iw_127 rfl rfl ⟨by decide +kernel, by decide +kernel, by decide +kernel⟩ (Nat.le_of_ble_eq_true rfl) (i_X2_init _ q32) rfl rfl (Nat.le_of_ble_eq_true rfl) ⟨Nat.le_of_ble_eq_true rfl, Nat.le_of_ble_eq_true rfl⟩ ⟨Nat.le_of_ble_eq_true rfl, Nat.le_of_ble_eq_true rfl⟩ dd_X8_init_64 rfl (fun wx' tys' hp => ?_)
  obtain ⟨q33, c34, q35, c36, rfl, rfl⟩ := hp
  refine cb_putR (q := 70) (i := 0) hc fl_X8_40 ht_X8_5 rfl rfl (Nat.le_of_ble_eq_true rfl) rfl rfl dd_X8_init_67 rfl ?_
  refine cb_aload_n (q := 71) hc dd_X8_init_70 rfl rfl ?_
  refine cb_new (q := 74) (fs := dfX2) hc ckX2 iw_190 iw_124 iw_69 dfX2_ok dd_X8_init_71 rfl ⟨Nat.le_of_ble_eq_true rfl, Nat.le_of_ble_eq_true rfl⟩ (fun q37 => ?_)
  refine cb_dup (q := 75) hc dd_X8_init_74 rfl rfl ?_
  refine cb_callN (q := 78) (Y := X2_init) (h := q37) (wx1 := [(h0, .inr (8, [.ref q1, .ref q4, .ref q12, .ref q20, .ref q25, .ref q32, .null, .null, .null, .null, .null])), (q1, .inr (6, [.int 0, .int 0, .ref q2, .int 0, .int 0])), (q2, .inl (c3, 200, .inl (fun _ => 0))), (q4, .inr (0, [.int 4, .int 2, .int 20, .int 0, .ref q5, .ref q7])), (q5, .inl (c6, 8, .inl (fun _ => 0))), (q7, .inr (2, [.int 0, .ref q8, .ref q10, .int 0])), (q8, .inl (c9, 6, .inl (fun _ => 0))), (q10, .inl (c11, 6, .inl (fun _ => 0))), (q12, .inr (0, [.int 4, .int 2, .int 20, .int 0, .ref q13, .ref q15])), (q13, .inl (c14, 8, .inl (fun _ => 0))), (q15, .inr (2, [.int 0, .ref q16, .ref q18, .int 0])), (q16, .inl (c17, 6, .inl (fun _ => 0))), (q18, .inl (c19, 6, .inl (fun _ => 0))), (q20, .inr (2, [.int 0, .ref q21, .ref q23, .int 0])), (q21, .inl (c22, 6, .inl (fun _ => 0))), (q23, .inl (c24, 6, .inl (fun _ => 0))), (q25, .inr (1, [.int 0, .ref q26, .ref q28, .ref q30])), (q26, .inl (c27, 8, .inl (fun _ => 0))), (q28, .inl (c29, 8, .inl (fun _ => 0))), (q30, .inl (c31, 8, .inl (fun _ => 0))), (q32, .inr (2, [.int 0, .ref q33, .ref q35, .int 0])), (q33, .inl (c34, 6, .inl (fun _ => 0))), (q35, .inl (c36, 6, .inl (fun _ => 0)))]) (wx2 := [(q37, .inr (2, dfX2))]) hc (fun h => h.2.2.1) iw_126 iw_69 iw_127 rfl rfl ⟨by decide +kernel, by decide +kernel, by decide +kernel⟩ (Nat.le_of_ble_eq_true rfl) (i_X2_init _ q37) rfl rfl (Nat.le_of_ble_eq_true rfl) ⟨Nat.le_of_ble_eq_true rfl, Nat.le_of_ble_eq_true rfl⟩ ⟨Nat.le_of_ble_eq_true rfl, Nat.le_of_ble_eq_true rfl⟩ dd_X8_init_75 rfl (fun wx' tys' hp => ?_)
  obtain ⟨q38, c39, q40, c41, rfl, rfl⟩ := hp
  refine cb_putR (q := 81) (i := 0) hc fl_X8_43 ht_X8_6 rfl rfl (Nat.le_of_ble_eq_true rfl) rfl rfl dd_X8_init_78 rfl ?_
  refine cb_aload_n (q := 82) hc dd_X8_init_81 rfl rfl ?_
  refine cb_new (q := 85) (fs := dfX4) hc ckX4 iw_212 iw_213 iw_71 dfX4_ok dd_X8_init_82 rfl ⟨Nat.le_of_ble_eq_true rfl, Nat.le_of_ble_eq_true rfl⟩ (fun q42 => ?_)
  refine cb_dup (q := 86) hc dd_X8_init_85 rfl rfl ?_
  refine cb_callN (q := 89) (Y := X4_init) (h := q42) (wx1 := [(h0, .inr (8, [.ref q1, .ref q4, .ref q12, .ref q20, .ref q25, .ref q32, .ref q37, .null, .null, .null, .null])), (q1, .inr (6, [.int 0, .int 0, .ref q2, .int 0, .int 0])), (q2, .inl (c3, 200, .inl (fun _ => 0))), (q4, .inr (0, [.int 4, .int 2, .int 20, .int 0, .ref q5, .ref q7])), (q5, .inl (c6, 8, .inl (fun _ => 0))), (q7, .inr (2, [.int 0, .ref q8, .ref q10, .int 0])), (q8, .inl (c9, 6, .inl (fun _ => 0))), (q10, .inl (c11, 6, .inl (fun _ => 0))), (q12, .inr (0, [.int 4, .int 2, .int 20, .int 0, .ref q13, .ref q15])), (q13, .inl (c14, 8, .inl (fun _ => 0))), (q15, .inr (2, [.int 0, .ref q16, .ref q18, .int 0])), (q16, .inl (c17, 6, .inl (fun _ => 0))), (q18, .inl (c19, 6, .inl (fun _ => 0))), (q20, .inr (2, [.int 0, .ref q21, .ref q23, .int 0])), (q21, .inl (c22, 6, .inl (fun _ => 0))), (q23, .inl (c24, 6, .inl (fun _ => 0))), (q25, .inr (1, [.int 0, .ref q26, .ref q28, .ref q30])), (q26, .inl (c27, 8, .inl (fun _ => 0))), (q28, .inl (c29, 8, .inl (fun _ => 0))), (q30, .inl (c31, 8, .inl (fun _ => 0))), (q32, .inr (2, [.int 0, .ref q33, .ref q35, .int 0])), (q33, .inl (c34, 6, .inl (fun _ => 0))), (q35, .inl (c36, 6, .inl (fun _ => 0))), (q37, .inr (2, [.int 0, .ref q38, .ref q40, .int 0])), (q38, .inl (c39, 6, .inl (fun _ => 0))), (q40, .inl (c41, 6, .inl (fun _ => 0)))]) (wx2 := [(q42, .inr (4, dfX4))]) hc (fun h => h.2.2.2.2.1) iw_215 iw_71 iw_216 rfl rfl ⟨by decide +kernel, by decide +kernel, by decide +kernel⟩ (Nat.le_of_ble_eq_true rfl) (i_X4_init _ q42) rfl rfl (Nat.le_of_ble_eq_true rfl) ⟨Nat.le_of_ble_eq_true rfl, Nat.le_of_ble_eq_true rfl⟩ ⟨Nat.le_of_ble_eq_true rfl, Nat.le_of_ble_eq_true rfl⟩ dd_X8_init_86 rfl (fun wx' tys' hp => ?_)
  obtain ⟨q43, c44, q45, c46, q47, c48, q49, c50, rfl, rfl⟩ := hp
  refine cb_putR (q := 92) (i := 0) hc fl_X8_49 ht_X8_7 rfl rfl (Nat.le_of_ble_eq_true rfl) rfl rfl dd_X8_init_89 rfl ?_
  refine cb_aload_n (q := 93) hc dd_X8_init_92 rfl rfl ?_
  refine cb_new (q := 96) (fs := dfX3) hc ckX3 iw_242 iw_243 iw_72 dfX3_ok dd_X8_init_93 rfl ⟨Nat.le_of_ble_eq_true rfl, Nat.le_of_ble_eq_true rfl⟩ (fun q51 => ?_)
  refine cb_dup (q := 97) hc dd_X8_init_96 rfl rfl ?_
  refine cb_callN (q := 100) (Y := X3_init) (h := q51) (wx1 := [(h0, .inr (8, [.ref q1, .ref q4, .ref q12, .ref q20, .ref q25, .ref q32, .ref q37, .ref q42, .null, .null, .null])), (q1, .inr (6, [.int 0, .int 0, .ref q2, .int 0, .int 0])), (q2, .inl (c3, 200, .inl (fun _ => 0))), (q4, .inr (0, [.int 4, .int 2, .int 20, .int 0, .ref q5, .ref q7])), (q5, .inl (c6, 8, .inl (fun _ => 0))), (q7, .inr (2, [.int 0, .ref q8, .ref q10, .int 0])), (q8, .inl (c9, 6, .inl (fun _ => 0))), (q10, .inl (c11, 6, .inl (fun _ => 0))), (q12, .inr (0, [.int 4, .int 2, .int 20, .int 0, .ref q13, .ref q15])), (q13, .inl (c14, 8, .inl (fun _ => 0))), (q15, .inr (2, [.int 0, .ref q16, .ref q18, .int 0])), (q16, .inl (c17, 6, .inl (fun _ => 0))), (q18, .inl (c19, 6, .inl (fun _ => 0))), (q20, .inr (2, [.int 0, .ref q21, .ref q23, .int 0])), (q21, .inl (c22, 6, .inl (fun _ => 0))), (q23, .inl (c24, 6, .inl (fun _ => 0))), (q25, .inr (1, [.int 0, .ref q26, .ref q28, .ref q30])), (q26, .inl (c27, 8, .inl (fun _ => 0))), (q28, .inl (c29, 8, .inl (fun _ => 0))), (q30, .inl (c31, 8, .inl (fun _ => 0))), (q32, .inr (2, [.int 0, .ref q33, .ref q35, .int 0])), (q33, .inl (c34, 6, .inl (fun _ => 0))), (q35, .inl (c36, 6, .inl (fun _ => 0))), (q37, .inr (2, [.int 0, .ref q38, .ref q40, .int 0])), (q38, .inl (c39, 6, .inl (fun _ => 0))), (q40, .inl (c41, 6, .inl (fun _ => 0))), (q42, .inr (4, [.int 0, .ref q43, .int 0, .int 0, .ref q45, .ref q47, .ref q49])), (q43, .inl (c44, 6, .inl (fun _ => 0))), (q45, .inl (c46, 6, .inl (fun _ => 0))), (q47, .inl (c48, 6, .inl (fun _ => 0))), (q49, .inl (c50, 8, .inl (fun _ => 0)))]) (wx2 := [(q51, .inr (3, dfX3))]) hc (fun h => h.2.2.2.2.2.1) iw_245 iw_72 iw_246 rfl rfl ⟨by decide +kernel, by decide +kernel, by decide +kernel⟩ (Nat.le_of_ble_eq_true rfl) (i_X3_init _ q51) rfl rfl (Nat.le_of_ble_eq_true rfl) ⟨Nat.le_of_ble_eq_true rfl, Nat.le_of_ble_eq_true rfl⟩ ⟨Nat.le_of_ble_eq_true rfl, Nat.le_of_ble_eq_true rfl⟩ dd_X8_init_97 rfl (fun wx' tys' hp => ?_)
  obtain ⟨q52, c53, q54, c55, rfl, rfl⟩ := hp
  refine cb_putR (q := 103) (i := 0) hc fl_X8_56 ht_X8_8 rfl rfl (Nat.le_of_ble_eq_true rfl) rfl rfl dd_X8_init_100 rfl ?_
  refine cb_aload_n (q := 104) hc dd_X8_init_103 rfl rfl ?_
  refine cb_new (q := 107) (fs := dfX7) hc ckX7 iw_271 iw_272 iw_73 dfX7_ok dd_X8_init_104 rfl ⟨Nat.le_of_ble_eq_true rfl, Nat.le_of_ble_eq_true rfl⟩ (fun q56 => ?_)
  refine cb_dup (q := 108) hc dd_X8_init_107 rfl rfl ?_
  refine cb_callN (q := 111) (Y := X7_init) (h := q56) (wx1 := [(h0, .inr (8, [.ref q1, .ref q4, .ref q12, .ref q20, .ref q25, .ref q32, .ref q37, .ref q42, .ref q51, .null, .null])), (q1, .inr (6, [.int 0, .int 0, .ref q2, .int 0, .int 0])), (q2, .inl (c3, 200, .inl (fun _ => 0))), (q4, .inr (0, [.int 4, .int 2, .int 20, .int 0, .ref q5, .ref q7])), (q5, .inl (c6, 8, .inl (fun _ => 0))), (q7, .inr (2, [.int 0, .ref q8, .ref q10, .int 0])), (q8, .inl (c9, 6, .inl (fun _ => 0))), (q10, .inl (c11, 6, .inl (fun _ => 0))), (q12, .inr (0, [.int 4, .int 2, .int 20, .int 0, .ref q13, .ref q15])), (q13, .inl (c14, 8, .inl (fun _ => 0))), (q15, .inr (2, [.int 0, .ref q16, .ref q18, .int 0])), (q16, .inl (c17, 6, .inl (fun _ => 0))), (q18, .inl (c19, 6, .inl (fun _ => 0))), (q20, .inr (2, [.int 0, .ref q21, .ref q23, .int 0])), (q21, .inl (c22, 6, .inl (fun _ => 0))), (q23, .inl (c24, 6, .inl (fun _ => 0))), (q25, .inr (1, [.int 0, .ref q26, .ref q28, .ref q30])), (q26, .inl (c27, 8, .inl (fun _ => 0))), (q28, .inl (c29, 8, .inl (fun _ => 0))), (q30, .inl (c31, 8, .inl (fun _ => 0))), (q32, .inr (2, [.int 0, .ref q33, .ref q35, .int 0])), (q33, .inl (c34, 6, .inl (fun _ => 0))), (q35, .inl (c36, 6, .inl (fun _ => 0))), (q37, .inr (2, [.int 0, .ref q38, .ref q40, .int 0])), (q38, .inl (c39, 6, .inl (fun _ => 0))), (q40, .inl (c41, 6, .inl (fun _ => 0))), (q42, .inr (4, [.int 0, .ref q43, .int 0, .int 0, .ref q45, .ref q47, .ref q49])), (q43, .inl (c44, 6, .inl (fun _ => 0))), (q45, .inl (c46, 6, .inl (fun _ => 0))), (q47, .inl (c48, 6, .inl (fun _ => 0))), (q49, .inl (c50, 8, .inl (fun _ => 0))), (q51, .inr (3, [.ref q52, .ref q54, .int 0, .int 0, .long 0, .long 0, .long 0])), (q52, .inl (c53, 256, .inr (.inl (fun _ => 0)))), (q54, .inl (c55, 48, .inr (.inl (fun _ => 0))))]) (wx2 := [(q56, .inr (7, dfX7))]) hc (fun h => h.2.2.2.2.2.2.1) iw_274 iw_73 iw_275 rfl rfl ⟨by decide +kernel, by decide +kernel, by decide +kernel⟩ (Nat.le_of_ble_eq_true rfl) (i_X7_init _ q56) rfl rfl (Nat.le_of_ble_eq_true rfl) ⟨Nat.le_of_ble_eq_true rfl, Nat.le_of_ble_eq_true rfl⟩ ⟨Nat.le_of_ble_eq_true rfl, Nat.le_of_ble_eq_true rfl⟩ dd_X8_init_108 rfl (fun wx' tys' hp => ?_)
  obtain ⟨rfl, rfl⟩ := hp
  refine cb_putR (q := 114) (i := 0) hc fl_X8_63 ht_X8_9 rfl rfl (Nat.le_of_ble_eq_true rfl) rfl rfl dd_X8_init_111 rfl ?_
  refine cb_aload_n (q := 115) hc dd_X8_init_114 rfl rfl ?_
  refine cb_iconst (q := 116) (v := 3) hc dd_X8_init_115 rfl (by decide) ?_
  refine cb_newT (q := 119) (N' := 3) hc iw_294 dd_X8_init_116 rfl (by decide) (by decide) (Nat.le_of_ble_eq_true rfl) ⟨Nat.le_of_ble_eq_true rfl, Nat.le_of_ble_eq_true rfl⟩ (fun q57 c58 => ?_)
  refine cb_putR (q := 122) (i := 0) hc fl_X8_69 ht_X8_10 rfl rfl (Nat.le_of_ble_eq_true rfl) rfl rfl dd_X8_init_119 rfl ?_
  refine cb_iconst (q := 123) (v := 0) hc dd_X8_init_122 rfl (by decide) ?_
  refine cb_istore_n (q := 124) (lv' := [some (.ref h0), some (.int 0)]) hc dd_X8_init_123 rfl (by decide) rfl ?_
  refine cb_iload_n (q := 125) hc dd_X8_init_124 rfl rfl ?_
  refine cb_iconst (q := 126) (v := 3) hc dd_X8_init_125 rfl (by decide) ?_
  refine cb_ge_f (q := 129) (tg := 148) hc dd_X8_init_126 rfl (by decide) (by decide) ?_
  refine cb_aload_n (q := 130) hc dd_X8_init_129 rfl rfl ?_
  refine cb_getR (q := 133) (i := 0) hc fl_X8_69 rfl rfl dd_X8_init_130 rfl ?_
  refine cb_iload_n (q := 134) hc dd_X8_init_133 rfl rfl ?_
  refine cb_new (q := 137) (fs := dfX5) hc ckX5 iw_294 iw_296 iw_74 dfX5_ok dd_X8_init_134 rfl ⟨Nat.le_of_ble_eq_true rfl, Nat.le_of_ble_eq_true rfl⟩ (fun q59 => ?_)
  refine cb_dup (q := 138) hc dd_X8_init_137 rfl rfl ?_
  refine cb_callN (q := 141) (Y := X5_init) (h := q59) (wx1 := [(h0, .inr (8, [.ref q1, .ref q4, .ref q12, .ref q20, .ref q25, .ref q32, .ref q37, .ref q42, .ref q51, .ref q56, .ref q57])), (q1, .inr (6, [.int 0, .int 0, .ref q2, .int 0, .int 0])), (q2, .inl (c3, 200, .inl (fun _ => 0))), (q4, .inr (0, [.int 4, .int 2, .int 20, .int 0, .ref q5, .ref q7])), (q5, .inl (c6, 8, .inl (fun _ => 0))), (q7, .inr (2, [.int 0, .ref q8, .ref q10, .int 0])), (q8, .inl (c9, 6, .inl (fun _ => 0))), (q10, .inl (c11, 6, .inl (fun _ => 0))), (q12, .inr (0, [.int 4, .int 2, .int 20, .int 0, .ref q13, .ref q15])), (q13, .inl (c14, 8, .inl (fun _ => 0))), (q15, .inr (2, [.int 0, .ref q16, .ref q18, .int 0])), (q16, .inl (c17, 6, .inl (fun _ => 0))), (q18, .inl (c19, 6, .inl (fun _ => 0))), (q20, .inr (2, [.int 0, .ref q21, .ref q23, .int 0])), (q21, .inl (c22, 6, .inl (fun _ => 0))), (q23, .inl (c24, 6, .inl (fun _ => 0))), (q25, .inr (1, [.int 0, .ref q26, .ref q28, .ref q30])), (q26, .inl (c27, 8, .inl (fun _ => 0))), (q28, .inl (c29, 8, .inl (fun _ => 0))), (q30, .inl (c31, 8, .inl (fun _ => 0))), (q32, .inr (2, [.int 0, .ref q33, .ref q35, .int 0])), (q33, .inl (c34, 6, .inl (fun _ => 0))), (q35, .inl (c36, 6, .inl (fun _ => 0))), (q37, .inr (2, [.int 0, .ref q38, .ref q40, .int 0])), (q38, .inl (c39, 6, .inl (fun _ => 0))), (q40, .inl (c41, 6, .inl (fun _ => 0))), (q42, .inr (4, [.int 0, .ref q43, .int 0, .int 0, .ref q45, .ref q47, .ref q49])), (q43, .inl (c44, 6, .inl (fun _ => 0))), (q45, .inl (c46, 6, .inl (fun _ => 0))), (q47, .inl (c48, 6, .inl (fun _ => 0))), (q49, .inl (c50, 8, .inl (fun _ => 0))), (q51, .inr (3, [.ref q52, .ref q54, .int 0, .int 0, .long 0, .long 0, .long 0])), (q52, .inl (c53, 256, .inr (.inl (fun _ => 0)))), (q54, .inl (c55, 48, .inr (.inl (fun _ => 0)))), (q56, .inr (7, [.int 0, .int 0, .long 0, .long 0, .int 0])), (q57, .inl (c58, 3, .inr (.inr (.inr (.inr (fun _ => none))))))]) (wx2 := [(q59, .inr (5, dfX5))]) hc (fun h => h.2.2.2.2.2.2.2.1) iw_298 iw_74 iw_299 rfl rfl ⟨by decide +kernel, by decide +kernel, by decide +kernel⟩ (Nat.le_of_ble_eq_true rfl) (i_X5_init _ q59) rfl rfl (Nat.le_of_ble_eq_true rfl) ⟨Nat.le_of_ble_eq_true rfl, Nat.le_of_ble_eq_true rfl⟩ ⟨Nat.le_of_ble_eq_true rfl, Nat.le_of_ble_eq_true rfl⟩ dd_X8_init_138 rfl (fun wx' tys' hp => ?_)
  obtain ⟨q60, c61, rfl, rfl⟩ := hp
  refine cb_astT (q := 142) (i := 35) (j := 36) (t0 := 22) (k := 0) hc rfl rfl rfl (vp_in_nI (n := 0) (Nat.le_of_ble_eq_true rfl) (Nat.le_of_ble_eq_true rfl)) (by decide) dd_X8_init_141 rfl ?_
  refine cb_iinc (q := 145) (v := 1) (lv' := [some (.ref h0), some (.int 1)]) hc dd_X8_init_142 rfl rfl (by decide) (by decide) rfl ?_
  refine cb_goto (tg := 124) hc dd_X8_init_145 (by decide) ?_
  refine cb_iload_n (q := 125) hc dd_X8_init_124 rfl rfl ?_
  refine cb_iconst (q := 126) (v := 3) hc dd_X8_init_125 rfl (by decide) ?_
  refine cb_ge_f (q := 129) (tg := 148) hc dd_X8_init_126 rfl (by decide) (by decide) ?_
  refine cb_aload_n (q := 130) hc dd_X8_init_129 rfl rfl ?_
  refine cb_getR (q := 133) (i := 0) hc fl_X8_69 rfl rfl dd_X8_init_130 rfl ?_
  refine cb_iload_n (q := 134) hc dd_X8_init_133 rfl rfl ?_
  refine cb_new (q := 137) (fs := dfX5) hc ckX5 iw_294 iw_296 iw_74 dfX5_ok dd_X8_init_134 rfl ⟨Nat.le_of_ble_eq_true rfl, Nat.le_of_ble_eq_true rfl⟩ (fun q62 => ?_)
  refine cb_dup (q := 138) hc dd_X8_init_137 rfl rfl ?_
  refine cb_callN (q := 141) (Y := X5_init) (h := q62) (wx1 := [(h0, .inr (8, [.ref q1, .ref q4, .ref q12, .ref q20, .ref q25, .ref q32, .ref q37, .ref q42, .ref q51, .ref q56, .ref q57])), (q1, .inr (6, [.int 0, .int 0, .ref q2, .int 0, .int 0])), (q2, .inl (c3, 200, .inl (fun _ => 0))), (q4, .inr (0, [.int 4, .int 2, .int 20, .int 0, .ref q5, .ref q7])), (q5, .inl (c6, 8, .inl (fun _ => 0))), (q7, .inr (2, [.int 0, .ref q8, .ref q10, .int 0])), (q8, .inl (c9, 6, .inl (fun _ => 0))), (q10, .inl (c11, 6, .inl (fun _ => 0))), (q12, .inr (0, [.int 4, .int 2, .int 20, .int 0, .ref q13, .ref q15])), (q13, .inl (c14, 8, .inl (fun _ => 0))), (q15, .inr (2, [.int 0, .ref q16, .ref q18, .int 0])), (q16, .inl (c17, 6, .inl (fun _ => 0))), (q18, .inl (c19, 6, .inl (fun _ => 0))), (q20, .inr (2, [.int 0, .ref q21, .ref q23, .int 0])), (q21, .inl (c22, 6, .inl (fun _ => 0))), (q23, .inl (c24, 6, .inl (fun _ => 0))), (q25, .inr (1, [.int 0, .ref q26, .ref q28, .ref q30])), (q26, .inl (c27, 8, .inl (fun _ => 0))), (q28, .inl (c29, 8, .inl (fun _ => 0))), (q30, .inl (c31, 8, .inl (fun _ => 0))), (q32, .inr (2, [.int 0, .ref q33, .ref q35, .int 0])), (q33, .inl (c34, 6, .inl (fun _ => 0))), (q35, .inl (c36, 6, .inl (fun _ => 0))), (q37, .inr (2, [.int 0, .ref q38, .ref q40, .int 0])), (q38, .inl (c39, 6, .inl (fun _ => 0))), (q40, .inl (c41, 6, .inl (fun _ => 0))), (q42, .inr (4, [.int 0, .ref q43, .int 0, .int 0, .ref q45, .ref q47, .ref q49])), (q43, .inl (c44, 6, .inl (fun _ => 0))), (q45, .inl (c46, 6, .inl (fun _ => 0))), (q47, .inl (c48, 6, .inl (fun _ => 0))), (q49, .inl (c50, 8, .inl (fun _ => 0))), (q51, .inr (3, [.ref q52, .ref q54, .int 0, .int 0, .long 0, .long 0, .long 0])), (q52, .inl (c53, 256, .inr (.inl (fun _ => 0)))), (q54, .inl (c55, 48, .inr (.inl (fun _ => 0)))), (q56, .inr (7, [.int 0, .int 0, .long 0, .long 0, .int 0])), (q57, .inl (c58, 3, .inr (.inr (.inr (.inr (va_up (fun _ => none) 0 (some q59))))))), (q59, .inr (5, [.int 0, .int 0, .ref q60])), (q60, .inl (c61, 12, .inl (fun _ => 0)))]) (wx2 := [(q62, .inr (5, dfX5))]) hc (fun h => h.2.2.2.2.2.2.2.1) iw_298 iw_74 iw_299 rfl rfl ⟨by decide +kernel, by decide +kernel, by decide +kernel⟩ (Nat.le_of_ble_eq_true rfl) (i_X5_init _ q62) rfl rfl (Nat.le_of_ble_eq_true rfl) ⟨Nat.le_of_ble_eq_true rfl, Nat.le_of_ble_eq_true rfl⟩ ⟨Nat.le_of_ble_eq_true rfl, Nat.le_of_ble_eq_true rfl⟩ dd_X8_init_138 rfl (fun wx' tys' hp => ?_)
  obtain ⟨q63, c64, rfl, rfl⟩ := hp
  refine cb_astT (q := 142) (i := 35) (j := 38) (t0 := 22) (k := 1) hc rfl rfl rfl (vp_in_nI (n := 1) (Nat.le_of_ble_eq_true rfl) (Nat.le_of_ble_eq_true rfl)) (by decide) dd_X8_init_141 rfl ?_
  refine cb_iinc (q := 145) (v := 2) (lv' := [some (.ref h0), some (.int 2)]) hc dd_X8_init_142 rfl rfl (by decide) (by decide) rfl ?_
  refine cb_goto (tg := 124) hc dd_X8_init_145 (by decide) ?_
  refine cb_iload_n (q := 125) hc dd_X8_init_124 rfl rfl ?_
  refine cb_iconst (q := 126) (v := 3) hc dd_X8_init_125 rfl (by decide) ?_
  refine cb_ge_f (q := 129) (tg := 148) hc dd_X8_init_126 rfl (by decide) (by decide) ?_
  refine cb_aload_n (q := 130) hc dd_X8_init_129 rfl rfl ?_
  refine cb_getR (q := 133) (i := 0) hc fl_X8_69 rfl rfl dd_X8_init_130 rfl ?_
  refine cb_iload_n (q := 134) hc dd_X8_init_133 rfl rfl ?_
  refine cb_new (q := 137) (fs := dfX5) hc ckX5 iw_294 iw_296 iw_74 dfX5_ok dd_X8_init_134 rfl ⟨Nat.le_of_ble_eq_true rfl, Nat.le_of_ble_eq_true rfl⟩ (fun q65 => ?_)
  refine cb_dup (q := 138) hc dd_X8_init_137 rfl rfl ?_
  refine cb_callN (q := 141) (Y := X5_init) (h := q65) (wx1 := [(h0, .inr (8, [.ref q1, .ref q4, .ref q12, .ref q20, .ref q25, .ref q32, .ref q37, .ref q42, .ref q51, .ref q56, .ref q57])), (q1, .inr (6, [.int 0, .int 0, .ref q2, .int 0, .int 0])), (q2, .inl (c3, 200, .inl (fun _ => 0))), (q4, .inr (0, [.int 4, .int 2, .int 20, .int 0, .ref q5, .ref q7])), (q5, .inl (c6, 8, .inl (fun _ => 0))), (q7, .inr (2, [.int 0, .ref q8, .ref q10, .int 0])), (q8, .inl (c9, 6, .inl (fun _ => 0))), (q10, .inl (c11, 6, .inl (fun _ => 0))), (q12, .inr (0, [.int 4, .int 2, .int 20, .int 0, .ref q13, .ref q15])), (q13, .inl (c14, 8, .inl (fun _ => 0))), (q15, .inr (2, [.int 0, .ref q16, .ref q18, .int 0])), (q16, .inl (c17, 6, .inl (fun _ => 0))), (q18, .inl (c19, 6, .inl (fun _ => 0))), (q20, .inr (2, [.int 0, .ref q21, .ref q23, .int 0])), (q21, .inl (c22, 6, .inl (fun _ => 0))), (q23, .inl (c24, 6, .inl (fun _ => 0))), (q25, .inr (1, [.int 0, .ref q26, .ref q28, .ref q30])), (q26, .inl (c27, 8, .inl (fun _ => 0))), (q28, .inl (c29, 8, .inl (fun _ => 0))), (q30, .inl (c31, 8, .inl (fun _ => 0))), (q32, .inr (2, [.int 0, .ref q33, .ref q35, .int 0])), (q33, .inl (c34, 6, .inl (fun _ => 0))), (q35, .inl (c36, 6, .inl (fun _ => 0))), (q37, .inr (2, [.int 0, .ref q38, .ref q40, .int 0])), (q38, .inl (c39, 6, .inl (fun _ => 0))), (q40, .inl (c41, 6, .inl (fun _ => 0))), (q42, .inr (4, [.int 0, .ref q43, .int 0, .int 0, .ref q45, .ref q47, .ref q49])), (q43, .inl (c44, 6, .inl (fun _ => 0))), (q45, .inl (c46, 6, .inl (fun _ => 0))), (q47, .inl (c48, 6, .inl (fun _ => 0))), (q49, .inl (c50, 8, .inl (fun _ => 0))), (q51, .inr (3, [.ref q52, .ref q54, .int 0, .int 0, .long 0, .long 0, .long 0])), (q52, .inl (c53, 256, .inr (.inl (fun _ => 0)))), (q54, .inl (c55, 48, .inr (.inl (fun _ => 0)))), (q56, .inr (7, [.int 0, .int 0, .long 0, .long 0, .int 0])), (q57, .inl (c58, 3, .inr (.inr (.inr (.inr (va_up (va_up (fun _ => none) 0 (some q59)) 1 (some q62))))))), (q59, .inr (5, [.int 0, .int 0, .ref q60])), (q60, .inl (c61, 12, .inl (fun _ => 0))), (q62, .inr (5, [.int 0, .int 0, .ref q63])), (q63, .inl (c64, 12, .inl (fun _ => 0)))]) (wx2 := [(q65, .inr (5, dfX5))]) hc (fun h => h.2.2.2.2.2.2.2.1) iw_298 iw_74 iw_299 rfl rfl ⟨by decide +kernel, by decide +kernel, by decide +kernel⟩ (Nat.le_of_ble_eq_true rfl) (i_X5_init _ q65) rfl rfl (Nat.le_of_ble_eq_true rfl) ⟨Nat.le_of_ble_eq_true rfl, Nat.le_of_ble_eq_true rfl⟩ ⟨Nat.le_of_ble_eq_true rfl, Nat.le_of_ble_eq_true rfl⟩ dd_X8_init_138 rfl (fun wx' tys' hp => ?_)
  obtain ⟨q66, c67, rfl, rfl⟩ := hp
  refine cb_astT (q := 142) (i := 35) (j := 40) (t0 := 22) (k := 2) hc rfl rfl rfl (vp_in_nI (n := 2) (Nat.le_of_ble_eq_true rfl) (Nat.le_of_ble_eq_true rfl)) (by decide) dd_X8_init_141 rfl ?_
  refine cb_iinc (q := 145) (v := 3) (lv' := [some (.ref h0), some (.int 3)]) hc dd_X8_init_142 rfl rfl (by decide) (by decide) rfl ?_
  refine cb_goto (tg := 124) hc dd_X8_init_145 (by decide) ?_
  refine cb_iload_n (q := 125) hc dd_X8_init_124 rfl rfl ?_
  refine cb_iconst (q := 126) (v := 3) hc dd_X8_init_125 rfl (by decide) ?_
  refine cb_ge_t (tg := 148) hc dd_X8_init_126 (by decide) (by decide) ?_
  exact cb_vret hc rfl dd_X8_init_148 ⟨q1, q2, c3, q4, q5, c6, q7, q8, c9, q10, c11, q12, q13, c14, q15, q16, c17, q18, c19, q20, q21, c22, q23, c24, q25, q26, c27, q28, c29, q30, c31, q32, q33, c34, q35, c36, q37, q38, c39, q40, c41, q42, q43, c44, q45, c46, q47, c48, q49, c50, q51, q52, c53, q54, c55, q56, q57, c58, q59, q60, c61, q62, q63, c64, q65, q66, c67, rfl, rfl⟩
set_option maxHeartbeats 4000000 in
set_option maxRecDepth 100000 in
theorem i_X9_anew (wr wy : va_W) (h0 q1 : Nat) (c1 : ClassId) (f : Nat → Int32) (a1 a2 a3 a4 a5 : Value) (ft : List Value) (ty : Ty) : CC X9_anew 0 0 0 [.ref h0, .int 4] wr ((h0, .inr (9, .ref q1 :: a1 :: a2 :: a3 :: a4 :: a5 :: ft)) :: (q1, .inl (c1, 144, .inl f)) :: wy) ((c1, .int) :: ty) (fun wx' tys' => tys' = (c1, .int) :: ty ∧ ∃ g : Nat → Int32, wx' = (h0, .inr (9, .ref q1 :: .int 4 :: .int 2 :: .int 20 :: .int 0 :: .int 0 :: ft)) :: (q1, .inl (c1, 144, .inl g)) :: wy ∧ ∀ i, i < 6 → g (6 + i) = -1) := by
  refine CC.ofW (lv := [some (.ref h0), some (.int 4), none]) (by decide +kernel) (Nat.le_of_ble_eq_true rfl) (show lvLe _ [some (.ref h0), some (.int 4)] from lvs (lvs (lve lvz))) ?_
  intro p l e s m args below meth c D A hc
  refine cb_aload_n (q := 1) hc dd_X9_anew_0 rfl rfl ?_
  refine cb_iload_n (q := 2) hc dd_X9_anew_1 rfl rfl ?_
  refine cb_putI (q := 5) (i := 0) hc fl_X9_86 rfl (by simp) dd_X9_anew_2 rfl ?_
  refine cb_aload_n (q := 6) hc dd_X9_anew_5 rfl rfl ?_
  refine cb_iconst (q := 7) (v := 2) hc dd_X9_anew_6 rfl (by decide) ?_
  refine cb_putI (q := 10) (i := 0) hc fl_X9_90 rfl (by simp) dd_X9_anew_7 rfl ?_
  refine cb_aload_n (q := 11) hc dd_X9_anew_10 rfl rfl ?_
  refine cb_bipush (q := 13) (v := 20) hc dd_X9_anew_11 rfl (by decide) ?_
  refine cb_putI (q := 16) (i := 0) hc fl_X9_93 rfl (by simp) dd_X9_anew_13 rfl ?_
  refine cb_aload_n (q := 17) hc dd_X9_anew_16 rfl rfl ?_
  refine cb_iconst (q := 18) (v := 0) hc dd_X9_anew_17 rfl (by decide) ?_
  refine cb_putI (q := 21) (i := 0) hc fl_X9_96 rfl (by simp) dd_X9_anew_18 rfl ?_
  refine cb_aload_n (q := 22) hc dd_X9_anew_21 rfl rfl ?_
  refine cb_iconst (q := 23) (v := 0) hc dd_X9_anew_22 rfl (by decide) ?_
  refine cb_putI (q := 26) (i := 0) hc fl_X9_99 rfl (by simp) dd_X9_anew_23 rfl ?_
  refine cb_iconst (q := 27) (v := 0) hc dd_X9_anew_26 rfl (by decide) ?_
  refine cb_istore_n (q := 28) (lv' := [some (.ref h0), some (.int 4), some (.int 0)]) hc dd_X9_anew_27 rfl (by decide) rfl ?_
  refine cb_iload_n (q := 29) hc dd_X9_anew_28 rfl rfl ?_
  refine cb_bipush (q := 31) (v := 6) hc dd_X9_anew_29 rfl (by decide) ?_
  refine cb_ge_f (q := 34) (tg := 59) hc dd_X9_anew_31 rfl (by decide) (by decide) ?_
  refine cb_aload_n (q := 35) hc dd_X9_anew_34 rfl rfl ?_
  refine cb_getR (q := 38) (i := 0) hc fl_X9_7 rfl rfl dd_X9_anew_35 rfl ?_
  refine cb_iconst (q := 39) (v := 0) hc dd_X9_anew_38 rfl (by decide) ?_
  refine cb_iload_n (q := 40) hc dd_X9_anew_39 rfl rfl ?_
  refine cb_iadd (q := 41) (z := 0) hc dd_X9_anew_40 rfl (by decide) ?_
  refine cb_iconst (q := 42) (v := 0) hc dd_X9_anew_41 rfl (by decide) ?_
  refine cb_iast (q := 43) (i := 1) (t0 := 0) (k := 0) hc rfl rfl (vp_in_nI (n := 0) (Nat.le_of_ble_eq_true rfl) (Nat.le_of_ble_eq_true rfl)) (by decide) dd_X9_anew_42 rfl ?_
  refine cb_aload_n (q := 44) hc dd_X9_anew_43 rfl rfl ?_
  refine cb_getR (q := 47) (i := 0) hc fl_X9_7 rfl rfl dd_X9_anew_44 rfl ?_
  refine cb_bipush (q := 49) (v := 6) hc dd_X9_anew_47 rfl (by decide) ?_
  refine cb_iload_n (q := 50) hc dd_X9_anew_49 rfl rfl ?_
  refine cb_iadd (q := 51) (z := 6) hc dd_X9_anew_50 rfl (by decide) ?_
  refine cb_iconst (q := 52) (v := (-1)) hc dd_X9_anew_51 rfl (by decide) ?_
  refine cb_iast (q := 53) (i := 1) (t0 := 0) (k := 6) hc rfl rfl (vp_in_nI (n := 6) (Nat.le_of_ble_eq_true rfl) (Nat.le_of_ble_eq_true rfl)) (by decide) dd_X9_anew_52 rfl ?_
  refine cb_iinc (q := 56) (v := 1) (lv' := [some (.ref h0), some (.int 4), some (.int 1)]) hc dd_X9_anew_53 rfl rfl (by decide) (by decide) rfl ?_
  refine cb_goto (tg := 28) hc dd_X9_anew_56 (by decide) ?_
  refine cb_iload_n (q := 29) hc dd_X9_anew_28 rfl rfl ?_
  refine cb_bipush (q := 31) (v := 6) hc dd_X9_anew_29 rfl (by decide) ?_
  refine cb_ge_f (q := 34) (tg := 59) hc dd_X9_anew_31 rfl (by decide) (by decide) ?_
  refine cb_aload_n (q := 35) hc dd_X9_anew_34 rfl rfl ?_
  refine cb_getR (q := 38) (i := 0) hc fl_X9_7 rfl rfl dd_X9_anew_35 rfl ?_
  refine cb_iconst (q := 39) (v := 0) hc dd_X9_anew_38 rfl (by decide) ?_
  refine cb_iload_n (q := 40) hc dd_X9_anew_39 rfl rfl ?_
  refine cb_iadd (q := 41) (z := 1) hc dd_X9_anew_40 rfl (by decide) ?_
  refine cb_iconst (q := 42) (v := 0) hc dd_X9_anew_41 rfl (by decide) ?_
  refine cb_iast (q := 43) (i := 1) (t0 := 0) (k := 1) hc rfl rfl (vp_in_nI (n := 1) (Nat.le_of_ble_eq_true rfl) (Nat.le_of_ble_eq_true rfl)) (by decide) dd_X9_anew_42 rfl ?_
  refine cb_aload_n (q := 44) hc dd_X9_anew_43 rfl rfl ?_
  refine cb_getR (q := 47) (i := 0) hc fl_X9_7 rfl rfl dd_X9_anew_44 rfl ?_
  refine cb_bipush (q := 49) (v := 6) hc dd_X9_anew_47 rfl (by decide) ?_
  refine cb_iload_n (q := 50) hc dd_X9_anew_49 rfl rfl ?_
  refine cb_iadd (q := 51) (z := 7) hc dd_X9_anew_50 rfl (by decide) ?_
  refine cb_iconst (q := 52) (v := (-1)) hc dd_X9_anew_51 rfl (by decide) ?_
  refine cb_iast (q := 53) (i := 1) (t0 := 0) (k := 7) hc rfl rfl (vp_in_nI (n := 7) (Nat.le_of_ble_eq_true rfl) (Nat.le_of_ble_eq_true rfl)) (by decide) dd_X9_anew_52 rfl ?_
  refine cb_iinc (q := 56) (v := 2) (lv' := [some (.ref h0), some (.int 4), some (.int 2)]) hc dd_X9_anew_53 rfl rfl (by decide) (by decide) rfl ?_
  refine cb_goto (tg := 28) hc dd_X9_anew_56 (by decide) ?_
  refine cb_iload_n (q := 29) hc dd_X9_anew_28 rfl rfl ?_
  refine cb_bipush (q := 31) (v := 6) hc dd_X9_anew_29 rfl (by decide) ?_
  refine cb_ge_f (q := 34) (tg := 59) hc dd_X9_anew_31 rfl (by decide) (by decide) ?_
  refine cb_aload_n (q := 35) hc dd_X9_anew_34 rfl rfl ?_
  refine cb_getR (q := 38) (i := 0) hc fl_X9_7 rfl rfl dd_X9_anew_35 rfl ?_
  refine cb_iconst (q := 39) (v := 0) hc dd_X9_anew_38 rfl (by decide) ?_
  refine cb_iload_n (q := 40) hc dd_X9_anew_39 rfl rfl ?_
  refine cb_iadd (q := 41) (z := 2) hc dd_X9_anew_40 rfl (by decide) ?_
  refine cb_iconst (q := 42) (v := 0) hc dd_X9_anew_41 rfl (by decide) ?_
  refine cb_iast (q := 43) (i := 1) (t0 := 0) (k := 2) hc rfl rfl (vp_in_nI (n := 2) (Nat.le_of_ble_eq_true rfl) (Nat.le_of_ble_eq_true rfl)) (by decide) dd_X9_anew_42 rfl ?_
  refine cb_aload_n (q := 44) hc dd_X9_anew_43 rfl rfl ?_
  refine cb_getR (q := 47) (i := 0) hc fl_X9_7 rfl rfl dd_X9_anew_44 rfl ?_
  refine cb_bipush (q := 49) (v := 6) hc dd_X9_anew_47 rfl (by decide) ?_
  refine cb_iload_n (q := 50) hc dd_X9_anew_49 rfl rfl ?_
  refine cb_iadd (q := 51) (z := 8) hc dd_X9_anew_50 rfl (by decide) ?_
  refine cb_iconst (q := 52) (v := (-1)) hc dd_X9_anew_51 rfl (by decide) ?_
  refine cb_iast (q := 53) (i := 1) (t0 := 0) (k := 8) hc rfl rfl (vp_in_nI (n := 8) (Nat.le_of_ble_eq_true rfl) (Nat.le_of_ble_eq_true rfl)) (by decide) dd_X9_anew_52 rfl ?_
  refine cb_iinc (q := 56) (v := 3) (lv' := [some (.ref h0), some (.int 4), some (.int 3)]) hc dd_X9_anew_53 rfl rfl (by decide) (by decide) rfl ?_
  refine cb_goto (tg := 28) hc dd_X9_anew_56 (by decide) ?_
  refine cb_iload_n (q := 29) hc dd_X9_anew_28 rfl rfl ?_
  refine cb_bipush (q := 31) (v := 6) hc dd_X9_anew_29 rfl (by decide) ?_
  refine cb_ge_f (q := 34) (tg := 59) hc dd_X9_anew_31 rfl (by decide) (by decide) ?_
  refine cb_aload_n (q := 35) hc dd_X9_anew_34 rfl rfl ?_
  refine cb_getR (q := 38) (i := 0) hc fl_X9_7 rfl rfl dd_X9_anew_35 rfl ?_
  refine cb_iconst (q := 39) (v := 0) hc dd_X9_anew_38 rfl (by decide) ?_
  refine cb_iload_n (q := 40) hc dd_X9_anew_39 rfl rfl ?_
  refine cb_iadd (q := 41) (z := 3) hc dd_X9_anew_40 rfl (by decide) ?_
  refine cb_iconst (q := 42) (v := 0) hc dd_X9_anew_41 rfl (by decide) ?_
  refine cb_iast (q := 43) (i := 1) (t0 := 0) (k := 3) hc rfl rfl (vp_in_nI (n := 3) (Nat.le_of_ble_eq_true rfl) (Nat.le_of_ble_eq_true rfl)) (by decide) dd_X9_anew_42 rfl ?_
  refine cb_aload_n (q := 44) hc dd_X9_anew_43 rfl rfl ?_
  refine cb_getR (q := 47) (i := 0) hc fl_X9_7 rfl rfl dd_X9_anew_44 rfl ?_
  refine cb_bipush (q := 49) (v := 6) hc dd_X9_anew_47 rfl (by decide) ?_
  refine cb_iload_n (q := 50) hc dd_X9_anew_49 rfl rfl ?_
  refine cb_iadd (q := 51) (z := 9) hc dd_X9_anew_50 rfl (by decide) ?_
  refine cb_iconst (q := 52) (v := (-1)) hc dd_X9_anew_51 rfl (by decide) ?_
  refine cb_iast (q := 53) (i := 1) (t0 := 0) (k := 9) hc rfl rfl (vp_in_nI (n := 9) (Nat.le_of_ble_eq_true rfl) (Nat.le_of_ble_eq_true rfl)) (by decide) dd_X9_anew_52 rfl ?_
  refine cb_iinc (q := 56) (v := 4) (lv' := [some (.ref h0), some (.int 4), some (.int 4)]) hc dd_X9_anew_53 rfl rfl (by decide) (by decide) rfl ?_
  refine cb_goto (tg := 28) hc dd_X9_anew_56 (by decide) ?_
  refine cb_iload_n (q := 29) hc dd_X9_anew_28 rfl rfl ?_
  refine cb_bipush (q := 31) (v := 6) hc dd_X9_anew_29 rfl (by decide) ?_
  refine cb_ge_f (q := 34) (tg := 59) hc dd_X9_anew_31 rfl (by decide) (by decide) ?_
  refine cb_aload_n (q := 35) hc dd_X9_anew_34 rfl rfl ?_
  refine cb_getR (q := 38) (i := 0) hc fl_X9_7 rfl rfl dd_X9_anew_35 rfl ?_
  refine cb_iconst (q := 39) (v := 0) hc dd_X9_anew_38 rfl (by decide) ?_
  refine cb_iload_n (q := 40) hc dd_X9_anew_39 rfl rfl ?_
  refine cb_iadd (q := 41) (z := 4) hc dd_X9_anew_40 rfl (by decide) ?_
  refine cb_iconst (q := 42) (v := 0) hc dd_X9_anew_41 rfl (by decide) ?_
  refine cb_iast (q := 43) (i := 1) (t0 := 0) (k := 4) hc rfl rfl (vp_in_nI (n := 4) (Nat.le_of_ble_eq_true rfl) (Nat.le_of_ble_eq_true rfl)) (by decide) dd_X9_anew_42 rfl ?_
  refine cb_aload_n (q := 44) hc dd_X9_anew_43 rfl rfl ?_
  refine cb_getR (q := 47) (i := 0) hc fl_X9_7 rfl rfl dd_X9_anew_44 rfl ?_
  refine cb_bipush (q := 49) (v := 6) hc dd_X9_anew_47 rfl (by decide) ?_
  refine cb_iload_n (q := 50) hc dd_X9_anew_49 rfl rfl ?_
  refine cb_iadd (q := 51) (z := 10) hc dd_X9_anew_50 rfl (by decide) ?_
  refine cb_iconst (q := 52) (v := (-1)) hc dd_X9_anew_51 rfl (by decide) ?_
  refine cb_iast (q := 53) (i := 1) (t0 := 0) (k := 10) hc rfl rfl (vp_in_nI (n := 10) (Nat.le_of_ble_eq_true rfl) (Nat.le_of_ble_eq_true rfl)) (by decide) dd_X9_anew_52 rfl ?_
  refine cb_iinc (q := 56) (v := 5) (lv' := [some (.ref h0), some (.int 4), some (.int 5)]) hc dd_X9_anew_53 rfl rfl (by decide) (by decide) rfl ?_
  refine cb_goto (tg := 28) hc dd_X9_anew_56 (by decide) ?_
  refine cb_iload_n (q := 29) hc dd_X9_anew_28 rfl rfl ?_
  refine cb_bipush (q := 31) (v := 6) hc dd_X9_anew_29 rfl (by decide) ?_
  refine cb_ge_f (q := 34) (tg := 59) hc dd_X9_anew_31 rfl (by decide) (by decide) ?_
  refine cb_aload_n (q := 35) hc dd_X9_anew_34 rfl rfl ?_
  refine cb_getR (q := 38) (i := 0) hc fl_X9_7 rfl rfl dd_X9_anew_35 rfl ?_
  refine cb_iconst (q := 39) (v := 0) hc dd_X9_anew_38 rfl (by decide) ?_
  refine cb_iload_n (q := 40) hc dd_X9_anew_39 rfl rfl ?_
  refine cb_iadd (q := 41) (z := 5) hc dd_X9_anew_40 rfl (by decide) ?_
  refine cb_iconst (q := 42) (v := 0) hc dd_X9_anew_41 rfl (by decide) ?_
  refine cb_iast (q := 43) (i := 1) (t0 := 0) (k := 5) hc rfl rfl (vp_in_nI (n := 5) (Nat.le_of_ble_eq_true rfl) (Nat.le_of_ble_eq_true rfl)) (by decide) dd_X9_anew_42 rfl ?_
  refine cb_aload_n (q := 44) hc dd_X9_anew_43 rfl rfl ?_
  refine cb_getR (q := 47) (i := 0) hc fl_X9_7 rfl rfl dd_X9_anew_44 rfl ?_
  refine cb_bipush (q := 49) (v := 6) hc dd_X9_anew_47 rfl (by decide) ?_
  refine cb_iload_n (q := 50) hc dd_X9_anew_49 rfl rfl ?_
  refine cb_iadd (q := 51) (z := 11) hc dd_X9_anew_50 rfl (by decide) ?_
  refine cb_iconst (q := 52) (v := (-1)) hc dd_X9_anew_51 rfl (by decide) ?_
  refine cb_iast (q := 53) (i := 1) (t0 := 0) (k := 11) hc rfl rfl (vp_in_nI (n := 11) (Nat.le_of_ble_eq_true rfl) (Nat.le_of_ble_eq_true rfl)) (by decide) dd_X9_anew_52 rfl ?_
  refine cb_iinc (q := 56) (v := 6) (lv' := [some (.ref h0), some (.int 4), some (.int 6)]) hc dd_X9_anew_53 rfl rfl (by decide) (by decide) rfl ?_
  refine cb_goto (tg := 28) hc dd_X9_anew_56 (by decide) ?_
  refine cb_iload_n (q := 29) hc dd_X9_anew_28 rfl rfl ?_
  refine cb_bipush (q := 31) (v := 6) hc dd_X9_anew_29 rfl (by decide) ?_
  refine cb_ge_t (tg := 59) hc dd_X9_anew_31 (by decide) (by decide) ?_
  refine cb_vret hc rfl dd_X9_anew_59 ⟨rfl, _, rfl, fun i hi => ?_⟩
  match i, hi with
  | 0, _ => rfl
  | 1, _ => rfl
  | 2, _ => rfl
  | 3, _ => rfl
  | 4, _ => rfl
  | 5, _ => rfl
set_option maxHeartbeats 4000000 in
set_option maxRecDepth 100000 in
theorem i_X9_copyRow (wr wy : va_W) (h0 q1 : Nat) (c1 : ClassId) (f : Nat → Int32) (ft : List Value) (ty : Ty) : CC X9_copyRow 0 0 0 [.ref h0, .int 0, .int 132] wr ((h0, .inr (9, .ref q1 :: ft)) :: (q1, .inl (c1, 144, .inl f)) :: wy) ((c1, .int) :: ty) (fun wx' tys' => tys' = (c1, .int) :: ty ∧ ∃ g : Nat → Int32, wx' = (h0, .inr (9, .ref q1 :: ft)) :: (q1, .inl (c1, 144, .inl g)) :: wy ∧ ∀ i, i < 12 → g (132 + i) = f i) := by
  refine CC.ofW (lv := [some (.ref h0), some (.int 0), some (.int 132), none]) (by decide +kernel) (Nat.le_of_ble_eq_true rfl) (show lvLe _ [some (.ref h0), some (.int 0), some (.int 132)] from lvs (lvs (lvs (lve lvz)))) ?_
  intro p l e s m args below meth c D A hc
  refine cb_iconst (q := 1) (v := 0) hc dd_X9_copyRow_0 rfl (by decide) ?_
  refine cb_istore_n (q := 2) (lv' := [some (.ref h0), some (.int 0), some (.int 132), some (.int 0)]) hc dd_X9_copyRow_1 rfl (by decide) rfl ?_
  refine cb_iload_n (q := 3) hc dd_X9_copyRow_2 rfl rfl ?_
  refine cb_bipush (q := 5) (v := 12) hc dd_X9_copyRow_3 rfl (by decide) ?_
  refine cb_ge_f (q := 8) (tg := 30) hc dd_X9_copyRow_5 rfl (by decide) (by decide) ?_
  refine cb_aload_n (q := 9) hc dd_X9_copyRow_8 rfl rfl ?_
  refine cb_getR (q := 12) (i := 0) hc fl_X9_7 rfl rfl dd_X9_copyRow_9 rfl ?_
  refine cb_iload_n (q := 13) hc dd_X9_copyRow_12 rfl rfl ?_
  refine cb_iload_n (q := 14) hc dd_X9_copyRow_13 rfl rfl ?_
  refine cb_iadd (q := 15) (z := 132) hc dd_X9_copyRow_14 rfl (by decide) ?_
  refine cb_aload_n (q := 16) hc dd_X9_copyRow_15 rfl rfl ?_
  refine cb_getR (q := 19) (i := 0) hc fl_X9_7 rfl rfl dd_X9_copyRow_16 rfl ?_
  refine cb_iload_n (q := 20) hc dd_X9_copyRow_19 rfl rfl ?_
  refine cb_iload_n (q := 21) hc dd_X9_copyRow_20 rfl rfl ?_
  refine cb_iadd (q := 22) (z := 0) hc dd_X9_copyRow_21 rfl (by decide) ?_
  refine cb_iald (q := 23) (i := 1) (t0 := 0) (k := 0) hc rfl rfl (vp_in_nI (n := 0) (Nat.le_of_ble_eq_true rfl) (Nat.le_of_ble_eq_true rfl)) (by decide) rfl dd_X9_copyRow_22 rfl ?_
  refine cb_iast (q := 24) (i := 1) (t0 := 0) (k := 132) hc rfl rfl (vp_in_nI (n := 132) (Nat.le_of_ble_eq_true rfl) (Nat.le_of_ble_eq_true rfl)) (by decide) dd_X9_copyRow_23 rfl ?_
  refine cb_iinc (q := 27) (v := 1) (lv' := [some (.ref h0), some (.int 0), some (.int 132), some (.int 1)]) hc dd_X9_copyRow_24 rfl rfl (by decide) (by decide) rfl ?_
  refine cb_goto (tg := 2) hc dd_X9_copyRow_27 (by decide) ?_
  refine cb_iload_n (q := 3) hc dd_X9_copyRow_2 rfl rfl ?_
  refine cb_bipush (q := 5) (v := 12) hc dd_X9_copyRow_3 rfl (by decide) ?_
  refine cb_ge_f (q := 8) (tg := 30) hc dd_X9_copyRow_5 rfl (by decide) (by decide) ?_
  refine cb_aload_n (q := 9) hc dd_X9_copyRow_8 rfl rfl ?_
  refine cb_getR (q := 12) (i := 0) hc fl_X9_7 rfl rfl dd_X9_copyRow_9 rfl ?_
  refine cb_iload_n (q := 13) hc dd_X9_copyRow_12 rfl rfl ?_
  refine cb_iload_n (q := 14) hc dd_X9_copyRow_13 rfl rfl ?_
  refine cb_iadd (q := 15) (z := 133) hc dd_X9_copyRow_14 rfl (by decide) ?_
  refine cb_aload_n (q := 16) hc dd_X9_copyRow_15 rfl rfl ?_
  refine cb_getR (q := 19) (i := 0) hc fl_X9_7 rfl rfl dd_X9_copyRow_16 rfl ?_
  refine cb_iload_n (q := 20) hc dd_X9_copyRow_19 rfl rfl ?_
  refine cb_iload_n (q := 21) hc dd_X9_copyRow_20 rfl rfl ?_
  refine cb_iadd (q := 22) (z := 1) hc dd_X9_copyRow_21 rfl (by decide) ?_
  refine cb_iald (q := 23) (i := 1) (t0 := 0) (k := 1) hc rfl rfl (vp_in_nI (n := 1) (Nat.le_of_ble_eq_true rfl) (Nat.le_of_ble_eq_true rfl)) (by decide) rfl dd_X9_copyRow_22 rfl ?_
  refine cb_iast (q := 24) (i := 1) (t0 := 0) (k := 133) hc rfl rfl (vp_in_nI (n := 133) (Nat.le_of_ble_eq_true rfl) (Nat.le_of_ble_eq_true rfl)) (by decide) dd_X9_copyRow_23 rfl ?_
  refine cb_iinc (q := 27) (v := 2) (lv' := [some (.ref h0), some (.int 0), some (.int 132), some (.int 2)]) hc dd_X9_copyRow_24 rfl rfl (by decide) (by decide) rfl ?_
  refine cb_goto (tg := 2) hc dd_X9_copyRow_27 (by decide) ?_
  refine cb_iload_n (q := 3) hc dd_X9_copyRow_2 rfl rfl ?_
  refine cb_bipush (q := 5) (v := 12) hc dd_X9_copyRow_3 rfl (by decide) ?_
  refine cb_ge_f (q := 8) (tg := 30) hc dd_X9_copyRow_5 rfl (by decide) (by decide) ?_
  refine cb_aload_n (q := 9) hc dd_X9_copyRow_8 rfl rfl ?_
  refine cb_getR (q := 12) (i := 0) hc fl_X9_7 rfl rfl dd_X9_copyRow_9 rfl ?_
  refine cb_iload_n (q := 13) hc dd_X9_copyRow_12 rfl rfl ?_
  refine cb_iload_n (q := 14) hc dd_X9_copyRow_13 rfl rfl ?_
  refine cb_iadd (q := 15) (z := 134) hc dd_X9_copyRow_14 rfl (by decide) ?_
  refine cb_aload_n (q := 16) hc dd_X9_copyRow_15 rfl rfl ?_
  refine cb_getR (q := 19) (i := 0) hc fl_X9_7 rfl rfl dd_X9_copyRow_16 rfl ?_
  refine cb_iload_n (q := 20) hc dd_X9_copyRow_19 rfl rfl ?_
  refine cb_iload_n (q := 21) hc dd_X9_copyRow_20 rfl rfl ?_
  refine cb_iadd (q := 22) (z := 2) hc dd_X9_copyRow_21 rfl (by decide) ?_
  refine cb_iald (q := 23) (i := 1) (t0 := 0) (k := 2) hc rfl rfl (vp_in_nI (n := 2) (Nat.le_of_ble_eq_true rfl) (Nat.le_of_ble_eq_true rfl)) (by decide) rfl dd_X9_copyRow_22 rfl ?_
  refine cb_iast (q := 24) (i := 1) (t0 := 0) (k := 134) hc rfl rfl (vp_in_nI (n := 134) (Nat.le_of_ble_eq_true rfl) (Nat.le_of_ble_eq_true rfl)) (by decide) dd_X9_copyRow_23 rfl ?_
  refine cb_iinc (q := 27) (v := 3) (lv' := [some (.ref h0), some (.int 0), some (.int 132), some (.int 3)]) hc dd_X9_copyRow_24 rfl rfl (by decide) (by decide) rfl ?_
  refine cb_goto (tg := 2) hc dd_X9_copyRow_27 (by decide) ?_
  refine cb_iload_n (q := 3) hc dd_X9_copyRow_2 rfl rfl ?_
  refine cb_bipush (q := 5) (v := 12) hc dd_X9_copyRow_3 rfl (by decide) ?_
  refine cb_ge_f (q := 8) (tg := 30) hc dd_X9_copyRow_5 rfl (by decide) (by decide) ?_
  refine cb_aload_n (q := 9) hc dd_X9_copyRow_8 rfl rfl ?_
  refine cb_getR (q := 12) (i := 0) hc fl_X9_7 rfl rfl dd_X9_copyRow_9 rfl ?_
  refine cb_iload_n (q := 13) hc dd_X9_copyRow_12 rfl rfl ?_
  refine cb_iload_n (q := 14) hc dd_X9_copyRow_13 rfl rfl ?_
  refine cb_iadd (q := 15) (z := 135) hc dd_X9_copyRow_14 rfl (by decide) ?_
  refine cb_aload_n (q := 16) hc dd_X9_copyRow_15 rfl rfl ?_
  refine cb_getR (q := 19) (i := 0) hc fl_X9_7 rfl rfl dd_X9_copyRow_16 rfl ?_
  refine cb_iload_n (q := 20) hc dd_X9_copyRow_19 rfl rfl ?_
  refine cb_iload_n (q := 21) hc dd_X9_copyRow_20 rfl rfl ?_
  refine cb_iadd (q := 22) (z := 3) hc dd_X9_copyRow_21 rfl (by decide) ?_
  refine cb_iald (q := 23) (i := 1) (t0 := 0) (k := 3) hc rfl rfl (vp_in_nI (n := 3) (Nat.le_of_ble_eq_true rfl) (Nat.le_of_ble_eq_true rfl)) (by decide) rfl dd_X9_copyRow_22 rfl ?_
  refine cb_iast (q := 24) (i := 1) (t0 := 0) (k := 135) hc rfl rfl (vp_in_nI (n := 135) (Nat.le_of_ble_eq_true rfl) (Nat.le_of_ble_eq_true rfl)) (by decide) dd_X9_copyRow_23 rfl ?_
  refine cb_iinc (q := 27) (v := 4) (lv' := [some (.ref h0), some (.int 0), some (.int 132), some (.int 4)]) hc dd_X9_copyRow_24 rfl rfl (by decide) (by decide) rfl ?_
  refine cb_goto (tg := 2) hc dd_X9_copyRow_27 (by decide) ?_
  refine cb_iload_n (q := 3) hc dd_X9_copyRow_2 rfl rfl ?_
  refine cb_bipush (q := 5) (v := 12) hc dd_X9_copyRow_3 rfl (by decide) ?_
  refine cb_ge_f (q := 8) (tg := 30) hc dd_X9_copyRow_5 rfl (by decide) (by decide) ?_
  refine cb_aload_n (q := 9) hc dd_X9_copyRow_8 rfl rfl ?_
  refine cb_getR (q := 12) (i := 0) hc fl_X9_7 rfl rfl dd_X9_copyRow_9 rfl ?_
  refine cb_iload_n (q := 13) hc dd_X9_copyRow_12 rfl rfl ?_
  refine cb_iload_n (q := 14) hc dd_X9_copyRow_13 rfl rfl ?_
  refine cb_iadd (q := 15) (z := 136) hc dd_X9_copyRow_14 rfl (by decide) ?_
  refine cb_aload_n (q := 16) hc dd_X9_copyRow_15 rfl rfl ?_
  refine cb_getR (q := 19) (i := 0) hc fl_X9_7 rfl rfl dd_X9_copyRow_16 rfl ?_
  refine cb_iload_n (q := 20) hc dd_X9_copyRow_19 rfl rfl ?_
  refine cb_iload_n (q := 21) hc dd_X9_copyRow_20 rfl rfl ?_
  refine cb_iadd (q := 22) (z := 4) hc dd_X9_copyRow_21 rfl (by decide) ?_
  refine cb_iald (q := 23) (i := 1) (t0 := 0) (k := 4) hc rfl rfl (vp_in_nI (n := 4) (Nat.le_of_ble_eq_true rfl) (Nat.le_of_ble_eq_true rfl)) (by decide) rfl dd_X9_copyRow_22 rfl ?_
  refine cb_iast (q := 24) (i := 1) (t0 := 0) (k := 136) hc rfl rfl (vp_in_nI (n := 136) (Nat.le_of_ble_eq_true rfl) (Nat.le_of_ble_eq_true rfl)) (by decide) dd_X9_copyRow_23 rfl ?_
  refine cb_iinc (q := 27) (v := 5) (lv' := [some (.ref h0), some (.int 0), some (.int 132), some (.int 5)]) hc dd_X9_copyRow_24 rfl rfl (by decide) (by decide) rfl ?_
  refine cb_goto (tg := 2) hc dd_X9_copyRow_27 (by decide) ?_
  refine cb_iload_n (q := 3) hc dd_X9_copyRow_2 rfl rfl ?_
  refine cb_bipush (q := 5) (v := 12) hc dd_X9_copyRow_3 rfl (by decide) ?_
  refine cb_ge_f (q := 8) (tg := 30) hc dd_X9_copyRow_5 rfl (by decide) (by decide) ?_
  refine cb_aload_n (q := 9) hc dd_X9_copyRow_8 rfl rfl ?_
  refine cb_getR (q := 12) (i := 0) hc fl_X9_7 rfl rfl dd_X9_copyRow_9 rfl ?_
  refine cb_iload_n (q := 13) hc dd_X9_copyRow_12 rfl rfl ?_
  refine cb_iload_n (q := 14) hc dd_X9_copyRow_13 rfl rfl ?_
  refine cb_iadd (q := 15) (z := 137) hc dd_X9_copyRow_14 rfl (by decide) ?_
  refine cb_aload_n (q := 16) hc dd_X9_copyRow_15 rfl rfl ?_
  refine cb_getR (q := 19) (i := 0) hc fl_X9_7 rfl rfl dd_X9_copyRow_16 rfl ?_
  refine cb_iload_n (q := 20) hc dd_X9_copyRow_19 rfl rfl ?_
  refine cb_iload_n (q := 21) hc dd_X9_copyRow_20 rfl rfl ?_
  refine cb_iadd (q := 22) (z := 5) hc dd_X9_copyRow_21 rfl (by decide) ?_
  refine cb_iald (q := 23) (i := 1) (t0 := 0) (k := 5) hc rfl rfl (vp_in_nI (n := 5) (Nat.le_of_ble_eq_true rfl) (Nat.le_of_ble_eq_true rfl)) (by decide) rfl dd_X9_copyRow_22 rfl ?_
  refine cb_iast (q := 24) (i := 1) (t0 := 0) (k := 137) hc rfl rfl (vp_in_nI (n := 137) (Nat.le_of_ble_eq_true rfl) (Nat.le_of_ble_eq_true rfl)) (by decide) dd_X9_copyRow_23 rfl ?_
  refine cb_iinc (q := 27) (v := 6) (lv' := [some (.ref h0), some (.int 0), some (.int 132), some (.int 6)]) hc dd_X9_copyRow_24 rfl rfl (by decide) (by decide) rfl ?_
  refine cb_goto (tg := 2) hc dd_X9_copyRow_27 (by decide) ?_
  refine cb_iload_n (q := 3) hc dd_X9_copyRow_2 rfl rfl ?_
  refine cb_bipush (q := 5) (v := 12) hc dd_X9_copyRow_3 rfl (by decide) ?_
  refine cb_ge_f (q := 8) (tg := 30) hc dd_X9_copyRow_5 rfl (by decide) (by decide) ?_
  refine cb_aload_n (q := 9) hc dd_X9_copyRow_8 rfl rfl ?_
  refine cb_getR (q := 12) (i := 0) hc fl_X9_7 rfl rfl dd_X9_copyRow_9 rfl ?_
  refine cb_iload_n (q := 13) hc dd_X9_copyRow_12 rfl rfl ?_
  refine cb_iload_n (q := 14) hc dd_X9_copyRow_13 rfl rfl ?_
  refine cb_iadd (q := 15) (z := 138) hc dd_X9_copyRow_14 rfl (by decide) ?_
  refine cb_aload_n (q := 16) hc dd_X9_copyRow_15 rfl rfl ?_
  refine cb_getR (q := 19) (i := 0) hc fl_X9_7 rfl rfl dd_X9_copyRow_16 rfl ?_
  refine cb_iload_n (q := 20) hc dd_X9_copyRow_19 rfl rfl ?_
  refine cb_iload_n (q := 21) hc dd_X9_copyRow_20 rfl rfl ?_
  refine cb_iadd (q := 22) (z := 6) hc dd_X9_copyRow_21 rfl (by decide) ?_
  refine cb_iald (q := 23) (i := 1) (t0 := 0) (k := 6) hc rfl rfl (vp_in_nI (n := 6) (Nat.le_of_ble_eq_true rfl) (Nat.le_of_ble_eq_true rfl)) (by decide) rfl dd_X9_copyRow_22 rfl ?_
  refine cb_iast (q := 24) (i := 1) (t0 := 0) (k := 138) hc rfl rfl (vp_in_nI (n := 138) (Nat.le_of_ble_eq_true rfl) (Nat.le_of_ble_eq_true rfl)) (by decide) dd_X9_copyRow_23 rfl ?_
  refine cb_iinc (q := 27) (v := 7) (lv' := [some (.ref h0), some (.int 0), some (.int 132), some (.int 7)]) hc dd_X9_copyRow_24 rfl rfl (by decide) (by decide) rfl ?_
  refine cb_goto (tg := 2) hc dd_X9_copyRow_27 (by decide) ?_
  refine cb_iload_n (q := 3) hc dd_X9_copyRow_2 rfl rfl ?_
  refine cb_bipush (q := 5) (v := 12) hc dd_X9_copyRow_3 rfl (by decide) ?_
  refine cb_ge_f (q := 8) (tg := 30) hc dd_X9_copyRow_5 rfl (by decide) (by decide) ?_
  refine cb_aload_n (q := 9) hc dd_X9_copyRow_8 rfl rfl ?_
  refine cb_getR (q := 12) (i := 0) hc fl_X9_7 rfl rfl dd_X9_copyRow_9 rfl ?_
  refine cb_iload_n (q := 13) hc dd_X9_copyRow_12 rfl rfl ?_
  refine cb_iload_n (q := 14) hc dd_X9_copyRow_13 rfl rfl ?_
  refine cb_iadd (q := 15) (z := 139) hc dd_X9_copyRow_14 rfl (by decide) ?_
  refine cb_aload_n (q := 16) hc dd_X9_copyRow_15 rfl rfl ?_
  refine cb_getR (q := 19) (i := 0) hc fl_X9_7 rfl rfl dd_X9_copyRow_16 rfl ?_
  refine cb_iload_n (q := 20) hc dd_X9_copyRow_19 rfl rfl ?_
  refine cb_iload_n (q := 21) hc dd_X9_copyRow_20 rfl rfl ?_
  refine cb_iadd (q := 22) (z := 7) hc dd_X9_copyRow_21 rfl (by decide) ?_
  refine cb_iald (q := 23) (i := 1) (t0 := 0) (k := 7) hc rfl rfl (vp_in_nI (n := 7) (Nat.le_of_ble_eq_true rfl) (Nat.le_of_ble_eq_true rfl)) (by decide) rfl dd_X9_copyRow_22 rfl ?_
  refine cb_iast (q := 24) (i := 1) (t0 := 0) (k := 139) hc rfl rfl (vp_in_nI (n := 139) (Nat.le_of_ble_eq_true rfl) (Nat.le_of_ble_eq_true rfl)) (by decide) dd_X9_copyRow_23 rfl ?_
  refine cb_iinc (q := 27) (v := 8) (lv' := [some (.ref h0), some (.int 0), some (.int 132), some (.int 8)]) hc dd_X9_copyRow_24 rfl rfl (by decide) (by decide) rfl ?_
  refine cb_goto (tg := 2) hc dd_X9_copyRow_27 (by decide) ?_
  refine cb_iload_n (q := 3) hc dd_X9_copyRow_2 rfl rfl ?_
  refine cb_bipush (q := 5) (v := 12) hc dd_X9_copyRow_3 rfl (by decide) ?_
  refine cb_ge_f (q := 8) (tg := 30) hc dd_X9_copyRow_5 rfl (by decide) (by decide) ?_
  refine cb_aload_n (q := 9) hc dd_X9_copyRow_8 rfl rfl ?_
  refine cb_getR (q := 12) (i := 0) hc fl_X9_7 rfl rfl dd_X9_copyRow_9 rfl ?_
  refine cb_iload_n (q := 13) hc dd_X9_copyRow_12 rfl rfl ?_
  refine cb_iload_n (q := 14) hc dd_X9_copyRow_13 rfl rfl ?_
  refine cb_iadd (q := 15) (z := 140) hc dd_X9_copyRow_14 rfl (by decide) ?_
  refine cb_aload_n (q := 16) hc dd_X9_copyRow_15 rfl rfl ?_
  refine cb_getR (q := 19) (i := 0) hc fl_X9_7 rfl rfl dd_X9_copyRow_16 rfl ?_
  refine cb_iload_n (q := 20) hc dd_X9_copyRow_19 rfl rfl ?_
  refine cb_iload_n (q := 21) hc dd_X9_copyRow_20 rfl rfl ?_
  refine cb_iadd (q := 22) (z := 8) hc dd_X9_copyRow_21 rfl (by decide) ?_
  refine cb_iald (q := 23) (i := 1) (t0 := 0) (k := 8) hc rfl rfl (vp_in_nI (n := 8) (Nat.le_of_ble_eq_true rfl) (Nat.le_of_ble_eq_true rfl)) (by decide) rfl dd_X9_copyRow_22 rfl ?_
  refine cb_iast (q := 24) (i := 1) (t0 := 0) (k := 140) hc rfl rfl (vp_in_nI (n := 140) (Nat.le_of_ble_eq_true rfl) (Nat.le_of_ble_eq_true rfl)) (by decide) dd_X9_copyRow_23 rfl ?_
  refine cb_iinc (q := 27) (v := 9) (lv' := [some (.ref h0), some (.int 0), some (.int 132), some (.int 9)]) hc dd_X9_copyRow_24 rfl rfl (by decide) (by decide) rfl ?_
  refine cb_goto (tg := 2) hc dd_X9_copyRow_27 (by decide) ?_
  refine cb_iload_n (q := 3) hc dd_X9_copyRow_2 rfl rfl ?_
  refine cb_bipush (q := 5) (v := 12) hc dd_X9_copyRow_3 rfl (by decide) ?_
  refine cb_ge_f (q := 8) (tg := 30) hc dd_X9_copyRow_5 rfl (by decide) (by decide) ?_
  refine cb_aload_n (q := 9) hc dd_X9_copyRow_8 rfl rfl ?_
  refine cb_getR (q := 12) (i := 0) hc fl_X9_7 rfl rfl dd_X9_copyRow_9 rfl ?_
  refine cb_iload_n (q := 13) hc dd_X9_copyRow_12 rfl rfl ?_
  refine cb_iload_n (q := 14) hc dd_X9_copyRow_13 rfl rfl ?_
  refine cb_iadd (q := 15) (z := 141) hc dd_X9_copyRow_14 rfl (by decide) ?_
  refine cb_aload_n (q := 16) hc dd_X9_copyRow_15 rfl rfl ?_
  refine cb_getR (q := 19) (i := 0) hc fl_X9_7 rfl rfl dd_X9_copyRow_16 rfl ?_
  refine cb_iload_n (q := 20) hc dd_X9_copyRow_19 rfl rfl ?_
  refine cb_iload_n (q := 21) hc dd_X9_copyRow_20 rfl rfl ?_
  refine cb_iadd (q := 22) (z := 9) hc dd_X9_copyRow_21 rfl (by decide) ?_
  refine cb_iald (q := 23) (i := 1) (t0 := 0) (k := 9) hc rfl rfl (vp_in_nI (n := 9) (Nat.le_of_ble_eq_true rfl) (Nat.le_of_ble_eq_true rfl)) (by decide) rfl dd_X9_copyRow_22 rfl ?_
  refine cb_iast (q := 24) (i := 1) (t0 := 0) (k := 141) hc rfl rfl (vp_in_nI (n := 141) (Nat.le_of_ble_eq_true rfl) (Nat.le_of_ble_eq_true rfl)) (by decide) dd_X9_copyRow_23 rfl ?_
  refine cb_iinc (q := 27) (v := 10) (lv' := [some (.ref h0), some (.int 0), some (.int 132), some (.int 10)]) hc dd_X9_copyRow_24 rfl rfl (by decide) (by decide) rfl ?_
  refine cb_goto (tg := 2) hc dd_X9_copyRow_27 (by decide) ?_
  refine cb_iload_n (q := 3) hc dd_X9_copyRow_2 rfl rfl ?_
  refine cb_bipush (q := 5) (v := 12) hc dd_X9_copyRow_3 rfl (by decide) ?_
  refine cb_ge_f (q := 8) (tg := 30) hc dd_X9_copyRow_5 rfl (by decide) (by decide) ?_
  refine cb_aload_n (q := 9) hc dd_X9_copyRow_8 rfl rfl ?_
  refine cb_getR (q := 12) (i := 0) hc fl_X9_7 rfl rfl dd_X9_copyRow_9 rfl ?_
  refine cb_iload_n (q := 13) hc dd_X9_copyRow_12 rfl rfl ?_
  refine cb_iload_n (q := 14) hc dd_X9_copyRow_13 rfl rfl ?_
  refine cb_iadd (q := 15) (z := 142) hc dd_X9_copyRow_14 rfl (by decide) ?_
  refine cb_aload_n (q := 16) hc dd_X9_copyRow_15 rfl rfl ?_
  refine cb_getR (q := 19) (i := 0) hc fl_X9_7 rfl rfl dd_X9_copyRow_16 rfl ?_
  refine cb_iload_n (q := 20) hc dd_X9_copyRow_19 rfl rfl ?_
  refine cb_iload_n (q := 21) hc dd_X9_copyRow_20 rfl rfl ?_
  refine cb_iadd (q := 22) (z := 10) hc dd_X9_copyRow_21 rfl (by decide) ?_
  refine cb_iald (q := 23) (i := 1) (t0 := 0) (k := 10) hc rfl rfl (vp_in_nI (n := 10) (Nat.le_of_ble_eq_true rfl) (Nat.le_of_ble_eq_true rfl)) (by decide) rfl dd_X9_copyRow_22 rfl ?_
  refine cb_iast (q := 24) (i := 1) (t0 := 0) (k := 142) hc rfl rfl (vp_in_nI (n := 142) (Nat.le_of_ble_eq_true rfl) (Nat.le_of_ble_eq_true rfl)) (by decide) dd_X9_copyRow_23 rfl ?_
  refine cb_iinc (q := 27) (v := 11) (lv' := [some (.ref h0), some (.int 0), some (.int 132), some (.int 11)]) hc dd_X9_copyRow_24 rfl rfl (by decide) (by decide) rfl ?_
  refine cb_goto (tg := 2) hc dd_X9_copyRow_27 (by decide) ?_
  refine cb_iload_n (q := 3) hc dd_X9_copyRow_2 rfl rfl ?_
  refine cb_bipush (q := 5) (v := 12) hc dd_X9_copyRow_3 rfl (by decide) ?_
  refine cb_ge_f (q := 8) (tg := 30) hc dd_X9_copyRow_5 rfl (by decide) (by decide) ?_
  refine cb_aload_n (q := 9) hc dd_X9_copyRow_8 rfl rfl ?_
  refine cb_getR (q := 12) (i := 0) hc fl_X9_7 rfl rfl dd_X9_copyRow_9 rfl ?_
  refine cb_iload_n (q := 13) hc dd_X9_copyRow_12 rfl rfl ?_
  refine cb_iload_n (q := 14) hc dd_X9_copyRow_13 rfl rfl ?_
  refine cb_iadd (q := 15) (z := 143) hc dd_X9_copyRow_14 rfl (by decide) ?_
  refine cb_aload_n (q := 16) hc dd_X9_copyRow_15 rfl rfl ?_
  refine cb_getR (q := 19) (i := 0) hc fl_X9_7 rfl rfl dd_X9_copyRow_16 rfl ?_
  refine cb_iload_n (q := 20) hc dd_X9_copyRow_19 rfl rfl ?_
  refine cb_iload_n (q := 21) hc dd_X9_copyRow_20 rfl rfl ?_
  refine cb_iadd (q := 22) (z := 11) hc dd_X9_copyRow_21 rfl (by decide) ?_
  refine cb_iald (q := 23) (i := 1) (t0 := 0) (k := 11) hc rfl rfl (vp_in_nI (n := 11) (Nat.le_of_ble_eq_true rfl) (Nat.le_of_ble_eq_true rfl)) (by decide) rfl dd_X9_copyRow_22 rfl ?_
  refine cb_iast (q := 24) (i := 1) (t0 := 0) (k := 143) hc rfl rfl (vp_in_nI (n := 143) (Nat.le_of_ble_eq_true rfl) (Nat.le_of_ble_eq_true rfl)) (by decide) dd_X9_copyRow_23 rfl ?_
  refine cb_iinc (q := 27) (v := 12) (lv' := [some (.ref h0), some (.int 0), some (.int 132), some (.int 12)]) hc dd_X9_copyRow_24 rfl rfl (by decide) (by decide) rfl ?_
  refine cb_goto (tg := 2) hc dd_X9_copyRow_27 (by decide) ?_
  refine cb_iload_n (q := 3) hc dd_X9_copyRow_2 rfl rfl ?_
  refine cb_bipush (q := 5) (v := 12) hc dd_X9_copyRow_3 rfl (by decide) ?_
  refine cb_ge_t (tg := 30) hc dd_X9_copyRow_5 (by decide) (by decide) ?_
  refine cb_vret hc rfl dd_X9_copyRow_30 ⟨rfl, _, rfl, fun i hi => ?_⟩
  match i, hi with
  | 0, _ => rfl
  | 1, _ => rfl
  | 2, _ => rfl
  | 3, _ => rfl
  | 4, _ => rfl
  | 5, _ => rfl
  | 6, _ => rfl
  | 7, _ => rfl
  | 8, _ => rfl
  | 9, _ => rfl
  | 10, _ => rfl
  | 11, _ => rfl
