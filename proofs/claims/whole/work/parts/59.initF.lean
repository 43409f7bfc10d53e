/-! FACTS of the constructors and of the law, by program. -/
def X2_init : Md := (yX2_init, cX2_init, 1, none)
def X6_init : Md := (yX6_init, cX6_init, 1, none)
def X1_init : Md := (yX1_init, cX1_init, 1, none)
def X4_init : Md := (yX4_init, cX4_init, 1, none)
def X3_init : Md := (yX3_init, cX3_init, 1, none)
def X5_init : Md := (yX5_init, cX5_init, 1, none)
def X7_init : Md := (yX7_init, cX7_init, 1, none)
def X0_init : Md := (yX0_init, cX0_init, 1, none)
def X8_init : Md := (yX8_init, cX8_init, 2, none)
def X9_init : Md := (yX9_init, cX9_init, 1, none)
def L_law : Md := (yL_law, code, 4, ret)
theorem iw_90 : Cond.instanceMethod Lib.objectInit ∈ GW := gwp 90 (by decide +kernel) (by decide +kernel)
theorem iw_91 : Cond.code Lib.objectInit ⟨#[0xb1]⟩ 1 none ∈ GW := gwp 91 (by decide +kernel) (by decide +kernel)
theorem iw_116 : Cond.arrayClass .int ∈ GW := gwp 116 (by decide +kernel) (by decide +kernel)
theorem iw_270 : Cond.arrayClass .long ∈ GW := gwp 270 (by decide +kernel) (by decide +kernel)
theorem iw_990 : Cond.arrayClass .boolean ∈ GW := gwp 990 (by decide +kernel) (by decide +kernel)
def dfX0 : List Value := [.int 0, .int 0, .int 0, .int 0, .null, .null]
theorem dfX0_ok : ∀ j, j < 6 → defaultValue (tyX0 j) = vp_V dfX0 j := by
  intro j hj
  match j, hj with
  | 0, _ => rfl
  | 1, _ => rfl
  | 2, _ => rfl
  | 3, _ => rfl
  | 4, _ => rfl
  | 5, _ => rfl
  | k + 6, h => exact absurd h (by omega)
def dfX1 : List Value := [.int 0, .null, .null, .null]
theorem dfX1_ok : ∀ j, j < 4 → defaultValue (tyX1 j) = vp_V dfX1 j := by
  intro j hj
  match j, hj with
  | 0, _ => rfl
  | 1, _ => rfl
  | 2, _ => rfl
  | 3, _ => rfl
  | k + 4, h => exact absurd h (by omega)
def dfX2 : List Value := [.int 0, .null, .null, .int 0]
theorem dfX2_ok : ∀ j, j < 4 → defaultValue (tyX2 j) = vp_V dfX2 j := by
  intro j hj
  match j, hj with
  | 0, _ => rfl
  | 1, _ => rfl
  | 2, _ => rfl
  | 3, _ => rfl
  | k + 4, h => exact absurd h (by omega)
def dfX3 : List Value := [.null, .null, .int 0, .int 0, .long 0, .long 0, .long 0]
theorem dfX3_ok : ∀ j, j < 7 → defaultValue (tyX3 j) = vp_V dfX3 j := by
  intro j hj
  match j, hj with
  | 0, _ => rfl
  | 1, _ => rfl
  | 2, _ => rfl
  | 3, _ => rfl
  | 4, _ => rfl
  | 5, _ => rfl
  | 6, _ => rfl
  | k + 7, h => exact absurd h (by omega)
def dfX4 : List Value := [.int 0, .null, .int 0, .int 0, .null, .null, .null]
theorem dfX4_ok : ∀ j, j < 7 → defaultValue (tyX4 j) = vp_V dfX4 j := by
  intro j hj
  match j, hj with
  | 0, _ => rfl
  | 1, _ => rfl
  | 2, _ => rfl
  | 3, _ => rfl
  | 4, _ => rfl
  | 5, _ => rfl
  | 6, _ => rfl
  | k + 7, h => exact absurd h (by omega)
def dfX5 : List Value := [.int 0, .int 0, .null]
theorem dfX5_ok : ∀ j, j < 3 → defaultValue (tyX5 j) = vp_V dfX5 j := by
  intro j hj
  match j, hj with
  | 0, _ => rfl
  | 1, _ => rfl
  | 2, _ => rfl
  | k + 3, h => exact absurd h (by omega)
def dfX6 : List Value := [.int 0, .int 0, .null, .int 0, .int 0]
theorem dfX6_ok : ∀ j, j < 5 → defaultValue (tyX6 j) = vp_V dfX6 j := by
  intro j hj
  match j, hj with
  | 0, _ => rfl
  | 1, _ => rfl
  | 2, _ => rfl
  | 3, _ => rfl
  | 4, _ => rfl
  | k + 5, h => exact absurd h (by omega)
def dfX7 : List Value := [.int 0, .int 0, .long 0, .long 0, .int 0]
theorem dfX7_ok : ∀ j, j < 5 → defaultValue (tyX7 j) = vp_V dfX7 j := by
  intro j hj
  match j, hj with
  | 0, _ => rfl
  | 1, _ => rfl
  | 2, _ => rfl
  | 3, _ => rfl
  | 4, _ => rfl
  | k + 5, h => exact absurd h (by omega)
def dfX8 : List Value := [.null, .null, .null, .null, .null, .null, .null, .null, .null, .null, .null]
theorem dfX8_ok : ∀ j, j < 11 → defaultValue (tyX8 j) = vp_V dfX8 j := by
  intro j hj
  match j, hj with
  | 0, _ => rfl
  | 1, _ => rfl
  | 2, _ => rfl
  | 3, _ => rfl
  | 4, _ => rfl
  | 5, _ => rfl
  | 6, _ => rfl
  | 7, _ => rfl
  | 8, _ => rfl
  | 9, _ => rfl
  | 10, _ => rfl
  | k + 11, h => exact absurd h (by omega)
def dfX9 : List Value := [.null, .int 0, .int 0, .int 0, .int 0, .int 0, .null, .int 0, .null, .null, .int 0, .int 0, .int 0, .null, .null, .null, .null, .null, .int 0, .int 0, .int 0, .int 0, .int 0, .int 0, .int 0, .null, .null, .null, .null, .null, .null, .null, .null, .null, .null, .null, .null, .null]
theorem dfX9_ok : ∀ j, j < 38 → defaultValue (tyX9 j) = vp_V dfX9 j := by
  intro j hj
  match j, hj with
  | 0, _ => rfl
  | 1, _ => rfl
  | 2, _ => rfl
  | 3, _ => rfl
  | 4, _ => rfl
  | 5, _ => rfl
  | 6, _ => rfl
  | 7, _ => rfl
  | 8, _ => rfl
  | 9, _ => rfl
  | 10, _ => rfl
  | 11, _ => rfl
  | 12, _ => rfl
  | 13, _ => rfl
  | 14, _ => rfl
  | 15, _ => rfl
  | 16, _ => rfl
  | 17, _ => rfl
  | 18, _ => rfl
  | 19, _ => rfl
  | 20, _ => rfl
  | 21, _ => rfl
  | 22, _ => rfl
  | 23, _ => rfl
  | 24, _ => rfl
  | 25, _ => rfl
  | 26, _ => rfl
  | 27, _ => rfl
  | 28, _ => rfl
  | 29, _ => rfl
  | 30, _ => rfl
  | 31, _ => rfl
  | 32, _ => rfl
  | 33, _ => rfl
  | 34, _ => rfl
  | 35, _ => rfl
  | 36, _ => rfl
  | 37, _ => rfl
  | k + 38, h => exact absurd h (by omega)
theorem dd_X2_init_0 : decode X2_init.2.1 0 = .ok (.aload_n 0, 1) := by decide +kernel
theorem dd_X2_init_1 : decode X2_init.2.1 1 = .ok (.invokespecial 3, 3) := by decide +kernel
theorem dd_X2_init_4 : decode X2_init.2.1 4 = .ok (.aload_n 0, 1) := by decide +kernel
theorem dd_X2_init_5 : decode X2_init.2.1 5 = .ok (.bipush 6, 2) := by decide +kernel
theorem dd_X2_init_7 : decode X2_init.2.1 7 = .ok (.newarray .int, 2) := by decide +kernel
theorem dd_X2_init_9 : decode X2_init.2.1 9 = .ok (.putfield 9, 3) := by decide +kernel
theorem dd_X2_init_12 : decode X2_init.2.1 12 = .ok (.aload_n 0, 1) := by decide +kernel
theorem dd_X2_init_13 : decode X2_init.2.1 13 = .ok (.bipush 6, 2) := by decide +kernel
theorem dd_X2_init_15 : decode X2_init.2.1 15 = .ok (.newarray .int, 2) := by decide +kernel
theorem dd_X2_init_17 : decode X2_init.2.1 17 = .ok (.putfield 15, 3) := by decide +kernel
theorem dd_X2_init_20 : decode X2_init.2.1 20 = .ok (.return_, 1) := by decide +kernel
theorem dd_X6_init_0 : decode X6_init.2.1 0 = .ok (.aload_n 0, 1) := by decide +kernel
theorem dd_X6_init_1 : decode X6_init.2.1 1 = .ok (.invokespecial 3, 3) := by decide +kernel
theorem dd_X6_init_4 : decode X6_init.2.1 4 = .ok (.aload_n 0, 1) := by decide +kernel
theorem dd_X6_init_5 : decode X6_init.2.1 5 = .ok (.sipush 200, 3) := by decide +kernel
theorem dd_X6_init_8 : decode X6_init.2.1 8 = .ok (.newarray .int, 2) := by decide +kernel
theorem dd_X6_init_10 : decode X6_init.2.1 10 = .ok (.putfield 9, 3) := by decide +kernel
theorem dd_X6_init_13 : decode X6_init.2.1 13 = .ok (.return_, 1) := by decide +kernel
theorem dd_X1_init_0 : decode X1_init.2.1 0 = .ok (.aload_n 0, 1) := by decide +kernel
theorem dd_X1_init_1 : decode X1_init.2.1 1 = .ok (.invokespecial 3, 3) := by decide +kernel
theorem dd_X1_init_4 : decode X1_init.2.1 4 = .ok (.aload_n 0, 1) := by decide +kernel
theorem dd_X1_init_5 : decode X1_init.2.1 5 = .ok (.bipush 8, 2) := by decide +kernel
theorem dd_X1_init_7 : decode X1_init.2.1 7 = .ok (.newarray .int, 2) := by decide +kernel
theorem dd_X1_init_9 : decode X1_init.2.1 9 = .ok (.putfield 9, 3) := by decide +kernel
theorem dd_X1_init_12 : decode X1_init.2.1 12 = .ok (.aload_n 0, 1) := by decide +kernel
theorem dd_X1_init_13 : decode X1_init.2.1 13 = .ok (.bipush 8, 2) := by decide +kernel
theorem dd_X1_init_15 : decode X1_init.2.1 15 = .ok (.newarray .int, 2) := by decide +kernel
theorem dd_X1_init_17 : decode X1_init.2.1 17 = .ok (.putfield 15, 3) := by decide +kernel
theorem dd_X1_init_20 : decode X1_init.2.1 20 = .ok (.aload_n 0, 1) := by decide +kernel
theorem dd_X1_init_21 : decode X1_init.2.1 21 = .ok (.bipush 8, 2) := by decide +kernel
theorem dd_X1_init_23 : decode X1_init.2.1 23 = .ok (.newarray .int, 2) := by decide +kernel
theorem dd_X1_init_25 : decode X1_init.2.1 25 = .ok (.putfield 18, 3) := by decide +kernel
theorem dd_X1_init_28 : decode X1_init.2.1 28 = .ok (.return_, 1) := by decide +kernel
theorem dd_X4_init_0 : decode X4_init.2.1 0 = .ok (.aload_n 0, 1) := by decide +kernel
theorem dd_X4_init_1 : decode X4_init.2.1 1 = .ok (.invokespecial 3, 3) := by decide +kernel
theorem dd_X4_init_4 : decode X4_init.2.1 4 = .ok (.aload_n 0, 1) := by decide +kernel
theorem dd_X4_init_5 : decode X4_init.2.1 5 = .ok (.bipush 6, 2) := by decide +kernel
theorem dd_X4_init_7 : decode X4_init.2.1 7 = .ok (.newarray .int, 2) := by decide +kernel
theorem dd_X4_init_9 : decode X4_init.2.1 9 = .ok (.putfield 9, 3) := by decide +kernel
theorem dd_X4_init_12 : decode X4_init.2.1 12 = .ok (.aload_n 0, 1) := by decide +kernel
theorem dd_X4_init_13 : decode X4_init.2.1 13 = .ok (.bipush 6, 2) := by decide +kernel
theorem dd_X4_init_15 : decode X4_init.2.1 15 = .ok (.newarray .int, 2) := by decide +kernel
theorem dd_X4_init_17 : decode X4_init.2.1 17 = .ok (.putfield 15, 3) := by decide +kernel
theorem dd_X4_init_20 : decode X4_init.2.1 20 = .ok (.aload_n 0, 1) := by decide +kernel
theorem dd_X4_init_21 : decode X4_init.2.1 21 = .ok (.bipush 6, 2) := by decide +kernel
theorem dd_X4_init_23 : decode X4_init.2.1 23 = .ok (.newarray .int, 2) := by decide +kernel
theorem dd_X4_init_25 : decode X4_init.2.1 25 = .ok (.putfield 18, 3) := by decide +kernel
theorem dd_X4_init_28 : decode X4_init.2.1 28 = .ok (.aload_n 0, 1) := by decide +kernel
theorem dd_X4_init_29 : decode X4_init.2.1 29 = .ok (.bipush 8, 2) := by decide +kernel
theorem dd_X4_init_31 : decode X4_init.2.1 31 = .ok (.newarray .int, 2) := by decide +kernel
theorem dd_X4_init_33 : decode X4_init.2.1 33 = .ok (.putfield 21, 3) := by decide +kernel
theorem dd_X4_init_36 : decode X4_init.2.1 36 = .ok (.return_, 1) := by decide +kernel
theorem dd_X3_init_0 : decode X3_init.2.1 0 = .ok (.aload_n 0, 1) := by decide +kernel
theorem dd_X3_init_1 : decode X3_init.2.1 1 = .ok (.invokespecial 3, 3) := by decide +kernel
theorem dd_X3_init_4 : decode X3_init.2.1 4 = .ok (.aload_n 0, 1) := by decide +kernel
theorem dd_X3_init_5 : decode X3_init.2.1 5 = .ok (.sipush 256, 3) := by decide +kernel
theorem dd_X3_init_8 : decode X3_init.2.1 8 = .ok (.newarray .long, 2) := by decide +kernel
theorem dd_X3_init_10 : decode X3_init.2.1 10 = .ok (.putfield 11, 3) := by decide +kernel
theorem dd_X3_init_13 : decode X3_init.2.1 13 = .ok (.aload_n 0, 1) := by decide +kernel
theorem dd_X3_init_14 : decode X3_init.2.1 14 = .ok (.bipush 48, 2) := by decide +kernel
theorem dd_X3_init_16 : decode X3_init.2.1 16 = .ok (.newarray .long, 2) := by decide +kernel
theorem dd_X3_init_18 : decode X3_init.2.1 18 = .ok (.putfield 15, 3) := by decide +kernel
theorem dd_X3_init_21 : decode X3_init.2.1 21 = .ok (.return_, 1) := by decide +kernel
theorem dd_X5_init_0 : decode X5_init.2.1 0 = .ok (.aload_n 0, 1) := by decide +kernel
theorem dd_X5_init_1 : decode X5_init.2.1 1 = .ok (.invokespecial 3, 3) := by decide +kernel
theorem dd_X5_init_4 : decode X5_init.2.1 4 = .ok (.aload_n 0, 1) := by decide +kernel
theorem dd_X5_init_5 : decode X5_init.2.1 5 = .ok (.bipush 12, 2) := by decide +kernel
theorem dd_X5_init_7 : decode X5_init.2.1 7 = .ok (.newarray .int, 2) := by decide +kernel
theorem dd_X5_init_9 : decode X5_init.2.1 9 = .ok (.putfield 9, 3) := by decide +kernel
theorem dd_X5_init_12 : decode X5_init.2.1 12 = .ok (.return_, 1) := by decide +kernel
theorem dd_X7_init_0 : decode X7_init.2.1 0 = .ok (.aload_n 0, 1) := by decide +kernel
theorem dd_X7_init_1 : decode X7_init.2.1 1 = .ok (.invokespecial 3, 3) := by decide +kernel
theorem dd_X7_init_4 : decode X7_init.2.1 4 = .ok (.return_, 1) := by decide +kernel
theorem dd_X0_init_0 : decode X0_init.2.1 0 = .ok (.aload_n 0, 1) := by decide +kernel
theorem dd_X0_init_1 : decode X0_init.2.1 1 = .ok (.invokespecial 3, 3) := by decide +kernel
theorem dd_X0_init_4 : decode X0_init.2.1 4 = .ok (.aload_n 0, 1) := by decide +kernel
theorem dd_X0_init_5 : decode X0_init.2.1 5 = .ok (.bipush 8, 2) := by decide +kernel
theorem dd_X0_init_7 : decode X0_init.2.1 7 = .ok (.newarray .int, 2) := by decide +kernel
theorem dd_X0_init_9 : decode X0_init.2.1 9 = .ok (.putfield 9, 3) := by decide +kernel
theorem dd_X0_init_12 : decode X0_init.2.1 12 = .ok (.aload_n 0, 1) := by decide +kernel
theorem dd_X0_init_13 : decode X0_init.2.1 13 = .ok (.new 15, 3) := by decide +kernel
theorem dd_X0_init_16 : decode X0_init.2.1 16 = .ok (.dup, 1) := by decide +kernel
theorem dd_X0_init_17 : decode X0_init.2.1 17 = .ok (.invokespecial 17, 3) := by decide +kernel
theorem dd_X0_init_20 : decode X0_init.2.1 20 = .ok (.putfield 18, 3) := by decide +kernel
theorem dd_X0_init_23 : decode X0_init.2.1 23 = .ok (.aload_n 0, 1) := by decide +kernel
theorem dd_X0_init_24 : decode X0_init.2.1 24 = .ok (.iconst 4, 1) := by decide +kernel
theorem dd_X0_init_25 : decode X0_init.2.1 25 = .ok (.invokevirtual 22, 3) := by decide +kernel
theorem dd_X0_init_28 : decode X0_init.2.1 28 = .ok (.return_, 1) := by decide +kernel
theorem dd_X8_init_0 : decode X8_init.2.1 0 = .ok (.aload_n 0, 1) := by decide +kernel
theorem dd_X8_init_1 : decode X8_init.2.1 1 = .ok (.invokespecial 3, 3) := by decide +kernel
theorem dd_X8_init_4 : decode X8_init.2.1 4 = .ok (.aload_n 0, 1) := by decide +kernel
theorem dd_X8_init_5 : decode X8_init.2.1 5 = .ok (.new 9, 3) := by decide +kernel
theorem dd_X8_init_8 : decode X8_init.2.1 8 = .ok (.dup, 1) := by decide +kernel
theorem dd_X8_init_9 : decode X8_init.2.1 9 = .ok (.invokespecial 11, 3) := by decide +kernel
theorem dd_X8_init_12 : decode X8_init.2.1 12 = .ok (.putfield 12, 3) := by decide +kernel
theorem dd_X8_init_15 : decode X8_init.2.1 15 = .ok (.aload_n 0, 1) := by decide +kernel
theorem dd_X8_init_16 : decode X8_init.2.1 16 = .ok (.new 16, 3) := by decide +kernel
theorem dd_X8_init_19 : decode X8_init.2.1 19 = .ok (.dup, 1) := by decide +kernel
theorem dd_X8_init_20 : decode X8_init.2.1 20 = .ok (.invokespecial 18, 3) := by decide +kernel
theorem dd_X8_init_23 : decode X8_init.2.1 23 = .ok (.putfield 19, 3) := by decide +kernel
theorem dd_X8_init_26 : decode X8_init.2.1 26 = .ok (.aload_n 0, 1) := by decide +kernel
theorem dd_X8_init_27 : decode X8_init.2.1 27 = .ok (.new 16, 3) := by decide +kernel
theorem dd_X8_init_30 : decode X8_init.2.1 30 = .ok (.dup, 1) := by decide +kernel
theorem dd_X8_init_31 : decode X8_init.2.1 31 = .ok (.invokespecial 18, 3) := by decide +kernel
theorem dd_X8_init_34 : decode X8_init.2.1 34 = .ok (.putfield 23, 3) := by decide +kernel
theorem dd_X8_init_37 : decode X8_init.2.1 37 = .ok (.aload_n 0, 1) := by decide +kernel
theorem dd_X8_init_38 : decode X8_init.2.1 38 = .ok (.new 26, 3) := by decide +kernel
theorem dd_X8_init_41 : decode X8_init.2.1 41 = .ok (.dup, 1) := by decide +kernel
theorem dd_X8_init_42 : decode X8_init.2.1 42 = .ok (.invokespecial 28, 3) := by decide +kernel
theorem dd_X8_init_45 : decode X8_init.2.1 45 = .ok (.putfield 29, 3) := by decide +kernel
theorem dd_X8_init_48 : decode X8_init.2.1 48 = .ok (.aload_n 0, 1) := by decide +kernel
theorem dd_X8_init_49 : decode X8_init.2.1 49 = .ok (.new 33, 3) := by decide +kernel
theorem dd_X8_init_52 : decode X8_init.2.1 52 = .ok (.dup, 1) := by decide +kernel
theorem dd_X8_init_53 : decode X8_init.2.1 53 = .ok (.invokespecial 35, 3) := by decide +kernel
theorem dd_X8_init_56 : decode X8_init.2.1 56 = .ok (.putfield 36, 3) := by decide +kernel
theorem dd_X8_init_59 : decode X8_init.2.1 59 = .ok (.aload_n 0, 1) := by decide +kernel
theorem dd_X8_init_60 : decode X8_init.2.1 60 = .ok (.new 26, 3) := by decide +kernel
theorem dd_X8_init_63 : decode X8_init.2.1 63 = .ok (.dup, 1) := by decide +kernel
theorem dd_X8_init_64 : decode X8_init.2.1 64 = .ok (.invokespecial 28, 3) := by decide +kernel
theorem dd_X8_init_67 : decode X8_init.2.1 67 = .ok (.putfield 40, 3) := by decide +kernel
theorem dd_X8_init_70 : decode X8_init.2.1 70 = .ok (.aload_n 0, 1) := by decide +kernel
theorem dd_X8_init_71 : decode X8_init.2.1 71 = .ok (.new 26, 3) := by decide +kernel
theorem dd_X8_init_74 : decode X8_init.2.1 74 = .ok (.dup, 1) := by decide +kernel
theorem dd_X8_init_75 : decode X8_init.2.1 75 = .ok (.invokespecial 28, 3) := by decide +kernel
theorem dd_X8_init_78 : decode X8_init.2.1 78 = .ok (.putfield 43, 3) := by decide +kernel
theorem dd_X8_init_81 : decode X8_init.2.1 81 = .ok (.aload_n 0, 1) := by decide +kernel
theorem dd_X8_init_82 : decode X8_init.2.1 82 = .ok (.new 46, 3) := by decide +kernel
theorem dd_X8_init_85 : decode X8_init.2.1 85 = .ok (.dup, 1) := by decide +kernel
theorem dd_X8_init_86 : decode X8_init.2.1 86 = .ok (.invokespecial 48, 3) := by decide +kernel
theorem dd_X8_init_89 : decode X8_init.2.1 89 = .ok (.putfield 49, 3) := by decide +kernel
theorem dd_X8_init_92 : decode X8_init.2.1 92 = .ok (.aload_n 0, 1) := by decide +kernel
theorem dd_X8_init_93 : decode X8_init.2.1 93 = .ok (.new 53, 3) := by decide +kernel
theorem dd_X8_init_96 : decode X8_init.2.1 96 = .ok (.dup, 1) := by decide +kernel
theorem dd_X8_init_97 : decode X8_init.2.1 97 = .ok (.invokespecial 55, 3) := by decide +kernel
theorem dd_X8_init_100 : decode X8_init.2.1 100 = .ok (.putfield 56, 3) := by decide +kernel
theorem dd_X8_init_103 : decode X8_init.2.1 103 = .ok (.aload_n 0, 1) := by decide +kernel
theorem dd_X8_init_104 : decode X8_init.2.1 104 = .ok (.new 60, 3) := by decide +kernel
theorem dd_X8_init_107 : decode X8_init.2.1 107 = .ok (.dup, 1) := by decide +kernel
theorem dd_X8_init_108 : decode X8_init.2.1 108 = .ok (.invokespecial 62, 3) := by decide +kernel
theorem dd_X8_init_111 : decode X8_init.2.1 111 = .ok (.putfield 63, 3) := by decide +kernel
theorem dd_X8_init_114 : decode X8_init.2.1 114 = .ok (.aload_n 0, 1) := by decide +kernel
theorem dd_X8_init_115 : decode X8_init.2.1 115 = .ok (.iconst 3, 1) := by decide +kernel
theorem dd_X8_init_116 : decode X8_init.2.1 116 = .ok (.anewarray 67, 3) := by decide +kernel
theorem dd_X8_init_119 : decode X8_init.2.1 119 = .ok (.putfield 69, 3) := by decide +kernel
theorem dd_X8_init_122 : decode X8_init.2.1 122 = .ok (.iconst 0, 1) := by decide +kernel
theorem dd_X8_init_123 : decode X8_init.2.1 123 = .ok (.istore_n 1, 1) := by decide +kernel
theorem dd_X8_init_124 : decode X8_init.2.1 124 = .ok (.iload_n 1, 1) := by decide +kernel
theorem dd_X8_init_125 : decode X8_init.2.1 125 = .ok (.iconst 3, 1) := by decide +kernel
theorem dd_X8_init_126 : decode X8_init.2.1 126 = .ok (.if_icmp .ge 22, 3) := by decide +kernel
theorem dd_X8_init_129 : decode X8_init.2.1 129 = .ok (.aload_n 0, 1) := by decide +kernel
theorem dd_X8_init_130 : decode X8_init.2.1 130 = .ok (.getfield 69, 3) := by decide +kernel
theorem dd_X8_init_133 : decode X8_init.2.1 133 = .ok (.iload_n 1, 1) := by decide +kernel
theorem dd_X8_init_134 : decode X8_init.2.1 134 = .ok (.new 67, 3) := by decide +kernel
theorem dd_X8_init_137 : decode X8_init.2.1 137 = .ok (.dup, 1) := by decide +kernel
theorem dd_X8_init_138 : decode X8_init.2.1 138 = .ok (.invokespecial 73, 3) := by decide +kernel
theorem dd_X8_init_141 : decode X8_init.2.1 141 = .ok (.aastore, 1) := by decide +kernel
theorem dd_X8_init_142 : decode X8_init.2.1 142 = .ok (.iinc 1 1, 3) := by decide +kernel
theorem dd_X8_init_145 : decode X8_init.2.1 145 = .ok (.goto (-21), 3) := by decide +kernel
theorem dd_X8_init_148 : decode X8_init.2.1 148 = .ok (.return_, 1) := by decide +kernel
theorem dd_X9_init_0 : decode X9_init.2.1 0 = .ok (.aload_n 0, 1) := by decide +kernel
theorem dd_X9_init_1 : decode X9_init.2.1 1 = .ok (.invokespecial 1, 3) := by decide +kernel
theorem dd_X9_init_4 : decode X9_init.2.1 4 = .ok (.aload_n 0, 1) := by decide +kernel
theorem dd_X9_init_5 : decode X9_init.2.1 5 = .ok (.sipush 144, 3) := by decide +kernel
theorem dd_X9_init_8 : decode X9_init.2.1 8 = .ok (.newarray .int, 2) := by decide +kernel
theorem dd_X9_init_10 : decode X9_init.2.1 10 = .ok (.putfield 7, 3) := by decide +kernel
theorem dd_X9_init_13 : decode X9_init.2.1 13 = .ok (.aload_n 0, 1) := by decide +kernel
theorem dd_X9_init_14 : decode X9_init.2.1 14 = .ok (.bipush 8, 2) := by decide +kernel
theorem dd_X9_init_16 : decode X9_init.2.1 16 = .ok (.newarray .int, 2) := by decide +kernel
theorem dd_X9_init_18 : decode X9_init.2.1 18 = .ok (.putfield 13, 3) := by decide +kernel
theorem dd_X9_init_21 : decode X9_init.2.1 21 = .ok (.aload_n 0, 1) := by decide +kernel
theorem dd_X9_init_22 : decode X9_init.2.1 22 = .ok (.iconst 2, 1) := by decide +kernel
theorem dd_X9_init_23 : decode X9_init.2.1 23 = .ok (.newarray .boolean, 2) := by decide +kernel
theorem dd_X9_init_25 : decode X9_init.2.1 25 = .ok (.putfield 16, 3) := by decide +kernel
theorem dd_X9_init_28 : decode X9_init.2.1 28 = .ok (.aload_n 0, 1) := by decide +kernel
theorem dd_X9_init_29 : decode X9_init.2.1 29 = .ok (.sipush 200, 3) := by decide +kernel
theorem dd_X9_init_32 : decode X9_init.2.1 32 = .ok (.newarray .int, 2) := by decide +kernel
theorem dd_X9_init_34 : decode X9_init.2.1 34 = .ok (.putfield 20, 3) := by decide +kernel
theorem dd_X9_init_37 : decode X9_init.2.1 37 = .ok (.aload_n 0, 1) := by decide +kernel
theorem dd_X9_init_38 : decode X9_init.2.1 38 = .ok (.bipush 48, 2) := by decide +kernel
theorem dd_X9_init_40 : decode X9_init.2.1 40 = .ok (.newarray .boolean, 2) := by decide +kernel
theorem dd_X9_init_42 : decode X9_init.2.1 42 = .ok (.putfield 23, 3) := by decide +kernel
theorem dd_X9_init_45 : decode X9_init.2.1 45 = .ok (.aload_n 0, 1) := by decide +kernel
theorem dd_X9_init_46 : decode X9_init.2.1 46 = .ok (.bipush 48, 2) := by decide +kernel
theorem dd_X9_init_48 : decode X9_init.2.1 48 = .ok (.newarray .int, 2) := by decide +kernel
theorem dd_X9_init_50 : decode X9_init.2.1 50 = .ok (.putfield 26, 3) := by decide +kernel
theorem dd_X9_init_53 : decode X9_init.2.1 53 = .ok (.aload_n 0, 1) := by decide +kernel
theorem dd_X9_init_54 : decode X9_init.2.1 54 = .ok (.bipush 48, 2) := by decide +kernel
theorem dd_X9_init_56 : decode X9_init.2.1 56 = .ok (.newarray .boolean, 2) := by decide +kernel
theorem dd_X9_init_58 : decode X9_init.2.1 58 = .ok (.putfield 29, 3) := by decide +kernel
theorem dd_X9_init_61 : decode X9_init.2.1 61 = .ok (.aload_n 0, 1) := by decide +kernel
theorem dd_X9_init_62 : decode X9_init.2.1 62 = .ok (.iconst 3, 1) := by decide +kernel
theorem dd_X9_init_63 : decode X9_init.2.1 63 = .ok (.newarray .int, 2) := by decide +kernel
theorem dd_X9_init_65 : decode X9_init.2.1 65 = .ok (.dup, 1) := by decide +kernel
theorem dd_X9_init_66 : decode X9_init.2.1 66 = .ok (.iconst 0, 1) := by decide +kernel
theorem dd_X9_init_67 : decode X9_init.2.1 67 = .ok (.iconst (-1), 1) := by decide +kernel
theorem dd_X9_init_68 : decode X9_init.2.1 68 = .ok (.iastore, 1) := by decide +kernel
theorem dd_X9_init_69 : decode X9_init.2.1 69 = .ok (.dup, 1) := by decide +kernel
theorem dd_X9_init_70 : decode X9_init.2.1 70 = .ok (.iconst 1, 1) := by decide +kernel
theorem dd_X9_init_71 : decode X9_init.2.1 71 = .ok (.iconst (-1), 1) := by decide +kernel
theorem dd_X9_init_72 : decode X9_init.2.1 72 = .ok (.iastore, 1) := by decide +kernel
theorem dd_X9_init_73 : decode X9_init.2.1 73 = .ok (.dup, 1) := by decide +kernel
theorem dd_X9_init_74 : decode X9_init.2.1 74 = .ok (.iconst 2, 1) := by decide +kernel
theorem dd_X9_init_75 : decode X9_init.2.1 75 = .ok (.iconst (-1), 1) := by decide +kernel
theorem dd_X9_init_76 : decode X9_init.2.1 76 = .ok (.iastore, 1) := by decide +kernel
theorem dd_X9_init_77 : decode X9_init.2.1 77 = .ok (.putfield 32, 3) := by decide +kernel
theorem dd_X9_init_80 : decode X9_init.2.1 80 = .ok (.aload_n 0, 1) := by decide +kernel
theorem dd_X9_init_81 : decode X9_init.2.1 81 = .ok (.bipush 36, 2) := by decide +kernel
theorem dd_X9_init_83 : decode X9_init.2.1 83 = .ok (.newarray .int, 2) := by decide +kernel
theorem dd_X9_init_85 : decode X9_init.2.1 85 = .ok (.putfield 35, 3) := by decide +kernel
theorem dd_X9_init_88 : decode X9_init.2.1 88 = .ok (.aload_n 0, 1) := by decide +kernel
theorem dd_X9_init_89 : decode X9_init.2.1 89 = .ok (.iconst 2, 1) := by decide +kernel
theorem dd_X9_init_90 : decode X9_init.2.1 90 = .ok (.newarray .int, 2) := by decide +kernel
theorem dd_X9_init_92 : decode X9_init.2.1 92 = .ok (.putfield 38, 3) := by decide +kernel
theorem dd_X9_init_95 : decode X9_init.2.1 95 = .ok (.aload_n 0, 1) := by decide +kernel
theorem dd_X9_init_96 : decode X9_init.2.1 96 = .ok (.iconst 5, 1) := by decide +kernel
theorem dd_X9_init_97 : decode X9_init.2.1 97 = .ok (.newarray .int, 2) := by decide +kernel
theorem dd_X9_init_99 : decode X9_init.2.1 99 = .ok (.dup, 1) := by decide +kernel
theorem dd_X9_init_100 : decode X9_init.2.1 100 = .ok (.iconst 0, 1) := by decide +kernel
theorem dd_X9_init_101 : decode X9_init.2.1 101 = .ok (.bipush 98, 2) := by decide +kernel
theorem dd_X9_init_103 : decode X9_init.2.1 103 = .ok (.iastore, 1) := by decide +kernel
theorem dd_X9_init_104 : decode X9_init.2.1 104 = .ok (.dup, 1) := by decide +kernel
theorem dd_X9_init_105 : decode X9_init.2.1 105 = .ok (.iconst 1, 1) := by decide +kernel
theorem dd_X9_init_106 : decode X9_init.2.1 106 = .ok (.bipush 101, 2) := by decide +kernel
theorem dd_X9_init_108 : decode X9_init.2.1 108 = .ok (.iastore, 1) := by decide +kernel
theorem dd_X9_init_109 : decode X9_init.2.1 109 = .ok (.dup, 1) := by decide +kernel
theorem dd_X9_init_110 : decode X9_init.2.1 110 = .ok (.iconst 2, 1) := by decide +kernel
theorem dd_X9_init_111 : decode X9_init.2.1 111 = .ok (.bipush 97, 2) := by decide +kernel
theorem dd_X9_init_113 : decode X9_init.2.1 113 = .ok (.iastore, 1) := by decide +kernel
theorem dd_X9_init_114 : decode X9_init.2.1 114 = .ok (.dup, 1) := by decide +kernel
theorem dd_X9_init_115 : decode X9_init.2.1 115 = .ok (.iconst 3, 1) := by decide +kernel
theorem dd_X9_init_116 : decode X9_init.2.1 116 = .ok (.bipush 116, 2) := by decide +kernel
theorem dd_X9_init_118 : decode X9_init.2.1 118 = .ok (.iastore, 1) := by decide +kernel
theorem dd_X9_init_119 : decode X9_init.2.1 119 = .ok (.dup, 1) := by decide +kernel
theorem dd_X9_init_120 : decode X9_init.2.1 120 = .ok (.iconst 4, 1) := by decide +kernel
theorem dd_X9_init_121 : decode X9_init.2.1 121 = .ok (.bipush 115, 2) := by decide +kernel
theorem dd_X9_init_123 : decode X9_init.2.1 123 = .ok (.iastore, 1) := by decide +kernel
theorem dd_X9_init_124 : decode X9_init.2.1 124 = .ok (.putfield 41, 3) := by decide +kernel
theorem dd_X9_init_127 : decode X9_init.2.1 127 = .ok (.aload_n 0, 1) := by decide +kernel
theorem dd_X9_init_128 : decode X9_init.2.1 128 = .ok (.bipush 6, 2) := by decide +kernel
theorem dd_X9_init_130 : decode X9_init.2.1 130 = .ok (.newarray .int, 2) := by decide +kernel
theorem dd_X9_init_132 : decode X9_init.2.1 132 = .ok (.dup, 1) := by decide +kernel
theorem dd_X9_init_133 : decode X9_init.2.1 133 = .ok (.iconst 0, 1) := by decide +kernel
theorem dd_X9_init_134 : decode X9_init.2.1 134 = .ok (.bipush 119, 2) := by decide +kernel
theorem dd_X9_init_136 : decode X9_init.2.1 136 = .ok (.iastore, 1) := by decide +kernel
theorem dd_X9_init_137 : decode X9_init.2.1 137 = .ok (.dup, 1) := by decide +kernel
theorem dd_X9_init_138 : decode X9_init.2.1 138 = .ok (.iconst 1, 1) := by decide +kernel
theorem dd_X9_init_139 : decode X9_init.2.1 139 = .ok (.bipush 105, 2) := by decide +kernel
theorem dd_X9_init_141 : decode X9_init.2.1 141 = .ok (.iastore, 1) := by decide +kernel
theorem dd_X9_init_142 : decode X9_init.2.1 142 = .ok (.dup, 1) := by decide +kernel
theorem dd_X9_init_143 : decode X9_init.2.1 143 = .ok (.iconst 2, 1) := by decide +kernel
theorem dd_X9_init_144 : decode X9_init.2.1 144 = .ok (.bipush 110, 2) := by decide +kernel
theorem dd_X9_init_146 : decode X9_init.2.1 146 = .ok (.iastore, 1) := by decide +kernel
theorem dd_X9_init_147 : decode X9_init.2.1 147 = .ok (.dup, 1) := by decide +kernel
theorem dd_X9_init_148 : decode X9_init.2.1 148 = .ok (.iconst 3, 1) := by decide +kernel
theorem dd_X9_init_149 : decode X9_init.2.1 149 = .ok (.bipush 100, 2) := by decide +kernel
theorem dd_X9_init_151 : decode X9_init.2.1 151 = .ok (.iastore, 1) := by decide +kernel
theorem dd_X9_init_152 : decode X9_init.2.1 152 = .ok (.dup, 1) := by decide +kernel
theorem dd_X9_init_153 : decode X9_init.2.1 153 = .ok (.iconst 4, 1) := by decide +kernel
theorem dd_X9_init_154 : decode X9_init.2.1 154 = .ok (.bipush 111, 2) := by decide +kernel
theorem dd_X9_init_156 : decode X9_init.2.1 156 = .ok (.iastore, 1) := by decide +kernel
theorem dd_X9_init_157 : decode X9_init.2.1 157 = .ok (.dup, 1) := by decide +kernel
theorem dd_X9_init_158 : decode X9_init.2.1 158 = .ok (.iconst 5, 1) := by decide +kernel
theorem dd_X9_init_159 : decode X9_init.2.1 159 = .ok (.bipush 119, 2) := by decide +kernel
theorem dd_X9_init_161 : decode X9_init.2.1 161 = .ok (.iastore, 1) := by decide +kernel
theorem dd_X9_init_162 : decode X9_init.2.1 162 = .ok (.putfield 44, 3) := by decide +kernel
theorem dd_X9_init_165 : decode X9_init.2.1 165 = .ok (.aload_n 0, 1) := by decide +kernel
theorem dd_X9_init_166 : decode X9_init.2.1 166 = .ok (.iconst 5, 1) := by decide +kernel
theorem dd_X9_init_167 : decode X9_init.2.1 167 = .ok (.newarray .int, 2) := by decide +kernel
theorem dd_X9_init_169 : decode X9_init.2.1 169 = .ok (.dup, 1) := by decide +kernel
theorem dd_X9_init_170 : decode X9_init.2.1 170 = .ok (.iconst 0, 1) := by decide +kernel
theorem dd_X9_init_171 : decode X9_init.2.1 171 = .ok (.bipush 115, 2) := by decide +kernel
theorem dd_X9_init_173 : decode X9_init.2.1 173 = .ok (.iastore, 1) := by decide +kernel
theorem dd_X9_init_174 : decode X9_init.2.1 174 = .ok (.dup, 1) := by decide +kernel
theorem dd_X9_init_175 : decode X9_init.2.1 175 = .ok (.iconst 1, 1) := by decide +kernel
theorem dd_X9_init_176 : decode X9_init.2.1 176 = .ok (.bipush 105, 2) := by decide +kernel
theorem dd_X9_init_178 : decode X9_init.2.1 178 = .ok (.iastore, 1) := by decide +kernel
theorem dd_X9_init_179 : decode X9_init.2.1 179 = .ok (.dup, 1) := by decide +kernel
theorem dd_X9_init_180 : decode X9_init.2.1 180 = .ok (.iconst 2, 1) := by decide +kernel
theorem dd_X9_init_181 : decode X9_init.2.1 181 = .ok (.bipush 103, 2) := by decide +kernel
theorem dd_X9_init_183 : decode X9_init.2.1 183 = .ok (.iastore, 1) := by decide +kernel
theorem dd_X9_init_184 : decode X9_init.2.1 184 = .ok (.dup, 1) := by decide +kernel
theorem dd_X9_init_185 : decode X9_init.2.1 185 = .ok (.iconst 3, 1) := by decide +kernel
theorem dd_X9_init_186 : decode X9_init.2.1 186 = .ok (.bipush 104, 2) := by decide +kernel
theorem dd_X9_init_188 : decode X9_init.2.1 188 = .ok (.iastore, 1) := by decide +kernel
theorem dd_X9_init_189 : decode X9_init.2.1 189 = .ok (.dup, 1) := by decide +kernel
theorem dd_X9_init_190 : decode X9_init.2.1 190 = .ok (.iconst 4, 1) := by decide +kernel
theorem dd_X9_init_191 : decode X9_init.2.1 191 = .ok (.bipush 116, 2) := by decide +kernel
theorem dd_X9_init_193 : decode X9_init.2.1 193 = .ok (.iastore, 1) := by decide +kernel
theorem dd_X9_init_194 : decode X9_init.2.1 194 = .ok (.putfield 47, 3) := by decide +kernel
theorem dd_X9_init_197 : decode X9_init.2.1 197 = .ok (.aload_n 0, 1) := by decide +kernel
theorem dd_X9_init_198 : decode X9_init.2.1 198 = .ok (.bipush 6, 2) := by decide +kernel
theorem dd_X9_init_200 : decode X9_init.2.1 200 = .ok (.newarray .int, 2) := by decide +kernel
theorem dd_X9_init_202 : decode X9_init.2.1 202 = .ok (.dup, 1) := by decide +kernel
theorem dd_X9_init_203 : decode X9_init.2.1 203 = .ok (.iconst 0, 1) := by decide +kernel
theorem dd_X9_init_204 : decode X9_init.2.1 204 = .ok (.bipush 114, 2) := by decide +kernel
theorem dd_X9_init_206 : decode X9_init.2.1 206 = .ok (.iastore, 1) := by decide +kernel
theorem dd_X9_init_207 : decode X9_init.2.1 207 = .ok (.dup, 1) := by decide +kernel
theorem dd_X9_init_208 : decode X9_init.2.1 208 = .ok (.iconst 1, 1) := by decide +kernel
theorem dd_X9_init_209 : decode X9_init.2.1 209 = .ok (.bipush 104, 2) := by decide +kernel
theorem dd_X9_init_211 : decode X9_init.2.1 211 = .ok (.iastore, 1) := by decide +kernel
theorem dd_X9_init_212 : decode X9_init.2.1 212 = .ok (.dup, 1) := by decide +kernel
theorem dd_X9_init_213 : decode X9_init.2.1 213 = .ok (.iconst 2, 1) := by decide +kernel
theorem dd_X9_init_214 : decode X9_init.2.1 214 = .ok (.bipush 121, 2) := by decide +kernel
theorem dd_X9_init_216 : decode X9_init.2.1 216 = .ok (.iastore, 1) := by decide +kernel
theorem dd_X9_init_217 : decode X9_init.2.1 217 = .ok (.dup, 1) := by decide +kernel
theorem dd_X9_init_218 : decode X9_init.2.1 218 = .ok (.iconst 3, 1) := by decide +kernel
theorem dd_X9_init_219 : decode X9_init.2.1 219 = .ok (.bipush 116, 2) := by decide +kernel
theorem dd_X9_init_221 : decode X9_init.2.1 221 = .ok (.iastore, 1) := by decide +kernel
theorem dd_X9_init_222 : decode X9_init.2.1 222 = .ok (.dup, 1) := by decide +kernel
theorem dd_X9_init_223 : decode X9_init.2.1 223 = .ok (.iconst 4, 1) := by decide +kernel
theorem dd_X9_init_224 : decode X9_init.2.1 224 = .ok (.bipush 104, 2) := by decide +kernel
theorem dd_X9_init_226 : decode X9_init.2.1 226 = .ok (.iastore, 1) := by decide +kernel
theorem dd_X9_init_227 : decode X9_init.2.1 227 = .ok (.dup, 1) := by decide +kernel
theorem dd_X9_init_228 : decode X9_init.2.1 228 = .ok (.iconst 5, 1) := by decide +kernel
theorem dd_X9_init_229 : decode X9_init.2.1 229 = .ok (.bipush 109, 2) := by decide +kernel
theorem dd_X9_init_231 : decode X9_init.2.1 231 = .ok (.iastore, 1) := by decide +kernel
theorem dd_X9_init_232 : decode X9_init.2.1 232 = .ok (.putfield 50, 3) := by decide +kernel
theorem dd_X9_init_235 : decode X9_init.2.1 235 = .ok (.aload_n 0, 1) := by decide +kernel
theorem dd_X9_init_236 : decode X9_init.2.1 236 = .ok (.iconst 5, 1) := by decide +kernel
theorem dd_X9_init_237 : decode X9_init.2.1 237 = .ok (.newarray .int, 2) := by decide +kernel
theorem dd_X9_init_239 : decode X9_init.2.1 239 = .ok (.dup, 1) := by decide +kernel
theorem dd_X9_init_240 : decode X9_init.2.1 240 = .ok (.iconst 0, 1) := by decide +kernel
theorem dd_X9_init_241 : decode X9_init.2.1 241 = .ok (.bipush 108, 2) := by decide +kernel
theorem dd_X9_init_243 : decode X9_init.2.1 243 = .ok (.iastore, 1) := by decide +kernel
theorem dd_X9_init_244 : decode X9_init.2.1 244 = .ok (.dup, 1) := by decide +kernel
theorem dd_X9_init_245 : decode X9_init.2.1 245 = .ok (.iconst 1, 1) := by decide +kernel
theorem dd_X9_init_246 : decode X9_init.2.1 246 = .ok (.bipush 105, 2) := by decide +kernel
theorem dd_X9_init_248 : decode X9_init.2.1 248 = .ok (.iastore, 1) := by decide +kernel
theorem dd_X9_init_249 : decode X9_init.2.1 249 = .ok (.dup, 1) := by decide +kernel
theorem dd_X9_init_250 : decode X9_init.2.1 250 = .ok (.iconst 2, 1) := by decide +kernel
theorem dd_X9_init_251 : decode X9_init.2.1 251 = .ok (.bipush 103, 2) := by decide +kernel
theorem dd_X9_init_253 : decode X9_init.2.1 253 = .ok (.iastore, 1) := by decide +kernel
theorem dd_X9_init_254 : decode X9_init.2.1 254 = .ok (.dup, 1) := by decide +kernel
theorem dd_X9_init_255 : decode X9_init.2.1 255 = .ok (.iconst 3, 1) := by decide +kernel
theorem dd_X9_init_256 : decode X9_init.2.1 256 = .ok (.bipush 104, 2) := by decide +kernel
theorem dd_X9_init_258 : decode X9_init.2.1 258 = .ok (.iastore, 1) := by decide +kernel
theorem dd_X9_init_259 : decode X9_init.2.1 259 = .ok (.dup, 1) := by decide +kernel
theorem dd_X9_init_260 : decode X9_init.2.1 260 = .ok (.iconst 4, 1) := by decide +kernel
theorem dd_X9_init_261 : decode X9_init.2.1 261 = .ok (.bipush 116, 2) := by decide +kernel
theorem dd_X9_init_263 : decode X9_init.2.1 263 = .ok (.iastore, 1) := by decide +kernel
theorem dd_X9_init_264 : decode X9_init.2.1 264 = .ok (.putfield 53, 3) := by decide +kernel
theorem dd_X9_init_267 : decode X9_init.2.1 267 = .ok (.aload_n 0, 1) := by decide +kernel
theorem dd_X9_init_268 : decode X9_init.2.1 268 = .ok (.iconst 3, 1) := by decide +kernel
theorem dd_X9_init_269 : decode X9_init.2.1 269 = .ok (.newarray .int, 2) := by decide +kernel
theorem dd_X9_init_271 : decode X9_init.2.1 271 = .ok (.dup, 1) := by decide +kernel
theorem dd_X9_init_272 : decode X9_init.2.1 272 = .ok (.iconst 0, 1) := by decide +kernel
theorem dd_X9_init_273 : decode X9_init.2.1 273 = .ok (.bipush 108, 2) := by decide +kernel
theorem dd_X9_init_275 : decode X9_init.2.1 275 = .ok (.iastore, 1) := by decide +kernel
theorem dd_X9_init_276 : decode X9_init.2.1 276 = .ok (.dup, 1) := by decide +kernel
theorem dd_X9_init_277 : decode X9_init.2.1 277 = .ok (.iconst 1, 1) := by decide +kernel
theorem dd_X9_init_278 : decode X9_init.2.1 278 = .ok (.bipush 105, 2) := by decide +kernel
theorem dd_X9_init_280 : decode X9_init.2.1 280 = .ok (.iastore, 1) := by decide +kernel
theorem dd_X9_init_281 : decode X9_init.2.1 281 = .ok (.dup, 1) := by decide +kernel
theorem dd_X9_init_282 : decode X9_init.2.1 282 = .ok (.iconst 2, 1) := by decide +kernel
theorem dd_X9_init_283 : decode X9_init.2.1 283 = .ok (.bipush 116, 2) := by decide +kernel
theorem dd_X9_init_285 : decode X9_init.2.1 285 = .ok (.iastore, 1) := by decide +kernel
theorem dd_X9_init_286 : decode X9_init.2.1 286 = .ok (.putfield 56, 3) := by decide +kernel
theorem dd_X9_init_289 : decode X9_init.2.1 289 = .ok (.aload_n 0, 1) := by decide +kernel
theorem dd_X9_init_290 : decode X9_init.2.1 290 = .ok (.bipush 8, 2) := by decide +kernel
theorem dd_X9_init_292 : decode X9_init.2.1 292 = .ok (.newarray .int, 2) := by decide +kernel
theorem dd_X9_init_294 : decode X9_init.2.1 294 = .ok (.putfield 59, 3) := by decide +kernel
theorem dd_X9_init_297 : decode X9_init.2.1 297 = .ok (.aload_n 0, 1) := by decide +kernel
theorem dd_X9_init_298 : decode X9_init.2.1 298 = .ok (.bipush 6, 2) := by decide +kernel
theorem dd_X9_init_300 : decode X9_init.2.1 300 = .ok (.newarray .int, 2) := by decide +kernel
theorem dd_X9_init_302 : decode X9_init.2.1 302 = .ok (.putfield 62, 3) := by decide +kernel
theorem dd_X9_init_305 : decode X9_init.2.1 305 = .ok (.aload_n 0, 1) := by decide +kernel
theorem dd_X9_init_306 : decode X9_init.2.1 306 = .ok (.bipush 6, 2) := by decide +kernel
theorem dd_X9_init_308 : decode X9_init.2.1 308 = .ok (.newarray .int, 2) := by decide +kernel
theorem dd_X9_init_310 : decode X9_init.2.1 310 = .ok (.putfield 65, 3) := by decide +kernel
theorem dd_X9_init_313 : decode X9_init.2.1 313 = .ok (.aload_n 0, 1) := by decide +kernel
theorem dd_X9_init_314 : decode X9_init.2.1 314 = .ok (.sipush 640, 3) := by decide +kernel
theorem dd_X9_init_317 : decode X9_init.2.1 317 = .ok (.newarray .long, 2) := by decide +kernel
theorem dd_X9_init_319 : decode X9_init.2.1 319 = .ok (.putfield 68, 3) := by decide +kernel
theorem dd_X9_init_322 : decode X9_init.2.1 322 = .ok (.aload_n 0, 1) := by decide +kernel
theorem dd_X9_init_323 : decode X9_init.2.1 323 = .ok (.sipush 128, 3) := by decide +kernel
theorem dd_X9_init_326 : decode X9_init.2.1 326 = .ok (.newarray .long, 2) := by decide +kernel
theorem dd_X9_init_328 : decode X9_init.2.1 328 = .ok (.putfield 72, 3) := by decide +kernel
theorem dd_X9_init_331 : decode X9_init.2.1 331 = .ok (.aload_n 0, 1) := by decide +kernel
theorem dd_X9_init_332 : decode X9_init.2.1 332 = .ok (.sipush 128, 3) := by decide +kernel
theorem dd_X9_init_335 : decode X9_init.2.1 335 = .ok (.newarray .long, 2) := by decide +kernel
theorem dd_X9_init_337 : decode X9_init.2.1 337 = .ok (.putfield 75, 3) := by decide +kernel
theorem dd_X9_init_340 : decode X9_init.2.1 340 = .ok (.aload_n 0, 1) := by decide +kernel
theorem dd_X9_init_341 : decode X9_init.2.1 341 = .ok (.iconst 4, 1) := by decide +kernel
theorem dd_X9_init_342 : decode X9_init.2.1 342 = .ok (.invokevirtual 78, 3) := by decide +kernel
theorem dd_X9_init_345 : decode X9_init.2.1 345 = .ok (.aload_n 0, 1) := by decide +kernel
theorem dd_X9_init_346 : decode X9_init.2.1 346 = .ok (.iconst 0, 1) := by decide +kernel
theorem dd_X9_init_347 : decode X9_init.2.1 347 = .ok (.sipush 132, 3) := by decide +kernel
theorem dd_X9_init_350 : decode X9_init.2.1 350 = .ok (.invokevirtual 82, 3) := by decide +kernel
theorem dd_X9_init_353 : decode X9_init.2.1 353 = .ok (.return_, 1) := by decide +kernel
theorem iw_128 : Cond.methodLink RX2 3 Lib.objectInit ∈ GW := gwp 128 (by decide +kernel) (by decide +kernel)
theorem iw_97 : Cond.methodLink RX6 3 Lib.objectInit ∈ GW := gwp 97 (by decide +kernel) (by decide +kernel)
theorem iw_197 : Cond.methodLink RX1 3 Lib.objectInit ∈ GW := gwp 197 (by decide +kernel) (by decide +kernel)
theorem iw_217 : Cond.methodLink RX4 3 Lib.objectInit ∈ GW := gwp 217 (by decide +kernel) (by decide +kernel)
theorem iw_247 : Cond.methodLink RX3 3 Lib.objectInit ∈ GW := gwp 247 (by decide +kernel) (by decide +kernel)
theorem iw_300 : Cond.methodLink RX5 3 Lib.objectInit ∈ GW := gwp 300 (by decide +kernel) (by decide +kernel)
theorem iw_276 : Cond.methodLink RX7 3 Lib.objectInit ∈ GW := gwp 276 (by decide +kernel) (by decide +kernel)
theorem iw_122 : Cond.methodLink RX0 3 Lib.objectInit ∈ GW := gwp 122 (by decide +kernel) (by decide +kernel)
theorem iw_123 : Cond.classLink RX0 15 RX2 ∈ GW := gwp 123 (by decide +kernel) (by decide +kernel)
theorem iw_124 : Cond.instantiable RX2 4 ∈ GW := gwp 124 (by decide +kernel) (by decide +kernel)
theorem iw_126 : Cond.instanceMethod X2_init.1 ∈ GW := gwp 126 (by decide +kernel) (by decide +kernel)
theorem iw_127 : Cond.code X2_init.1 X2_init.2.1 X2_init.2.2.1 X2_init.2.2.2 ∈ GW := gwp 127 (by decide +kernel) (by decide +kernel)
theorem iw_151 : Cond.methodLink RX0 22 X0_beginAnew.1 ∈ GW := gwp 151 (by decide +kernel) (by decide +kernel)
theorem mv_X0_22 : MV RX0 22 X0_beginAnew 1 := ⟨iw_151, iw_152, iw_153, iw_68, iw_154, ⟨by decide +kernel, by decide +kernel, by decide +kernel⟩, by decide⟩
theorem iw_89 : Cond.methodLink RX8 3 Lib.objectInit ∈ GW := gwp 89 (by decide +kernel) (by decide +kernel)
theorem iw_92 : Cond.classLink RX8 9 RX6 ∈ GW := gwp 92 (by decide +kernel) (by decide +kernel)
theorem iw_93 : Cond.instantiable RX6 5 ∈ GW := gwp 93 (by decide +kernel) (by decide +kernel)
theorem iw_95 : Cond.instanceMethod X6_init.1 ∈ GW := gwp 95 (by decide +kernel) (by decide +kernel)
theorem iw_96 : Cond.code X6_init.1 X6_init.2.1 X6_init.2.2.1 X6_init.2.2.2 ∈ GW := gwp 96 (by decide +kernel) (by decide +kernel)
theorem iw_117 : Cond.classLink RX8 16 RX0 ∈ GW := gwp 117 (by decide +kernel) (by decide +kernel)
theorem iw_118 : Cond.instantiable RX0 6 ∈ GW := gwp 118 (by decide +kernel) (by decide +kernel)
theorem iw_120 : Cond.instanceMethod X0_init.1 ∈ GW := gwp 120 (by decide +kernel) (by decide +kernel)
theorem iw_121 : Cond.code X0_init.1 X0_init.2.1 X0_init.2.2.1 X0_init.2.2.2 ∈ GW := gwp 121 (by decide +kernel) (by decide +kernel)
theorem iw_119 : Cond.methodLink RX8 18 X0_init.1 ∈ GW := gwp 119 (by decide +kernel) (by decide +kernel)
theorem iw_190 : Cond.classLink RX8 26 RX2 ∈ GW := gwp 190 (by decide +kernel) (by decide +kernel)
theorem iw_192 : Cond.classLink RX8 33 RX1 ∈ GW := gwp 192 (by decide +kernel) (by decide +kernel)
theorem iw_193 : Cond.instantiable RX1 4 ∈ GW := gwp 193 (by decide +kernel) (by decide +kernel)
theorem iw_195 : Cond.instanceMethod X1_init.1 ∈ GW := gwp 195 (by decide +kernel) (by decide +kernel)
theorem iw_196 : Cond.code X1_init.1 X1_init.2.1 X1_init.2.2.1 X1_init.2.2.2 ∈ GW := gwp 196 (by decide +kernel) (by decide +kernel)
theorem iw_212 : Cond.classLink RX8 46 RX4 ∈ GW := gwp 212 (by decide +kernel) (by decide +kernel)
theorem iw_213 : Cond.instantiable RX4 7 ∈ GW := gwp 213 (by decide +kernel) (by decide +kernel)
theorem iw_215 : Cond.instanceMethod X4_init.1 ∈ GW := gwp 215 (by decide +kernel) (by decide +kernel)
theorem iw_216 : Cond.code X4_init.1 X4_init.2.1 X4_init.2.2.1 X4_init.2.2.2 ∈ GW := gwp 216 (by decide +kernel) (by decide +kernel)
theorem iw_242 : Cond.classLink RX8 53 RX3 ∈ GW := gwp 242 (by decide +kernel) (by decide +kernel)
theorem iw_243 : Cond.instantiable RX3 7 ∈ GW := gwp 243 (by decide +kernel) (by decide +kernel)
theorem iw_245 : Cond.instanceMethod X3_init.1 ∈ GW := gwp 245 (by decide +kernel) (by decide +kernel)
theorem iw_246 : Cond.code X3_init.1 X3_init.2.1 X3_init.2.2.1 X3_init.2.2.2 ∈ GW := gwp 246 (by decide +kernel) (by decide +kernel)
theorem iw_271 : Cond.classLink RX8 60 RX7 ∈ GW := gwp 271 (by decide +kernel) (by decide +kernel)
theorem iw_272 : Cond.instantiable RX7 5 ∈ GW := gwp 272 (by decide +kernel) (by decide +kernel)
theorem iw_274 : Cond.instanceMethod X7_init.1 ∈ GW := gwp 274 (by decide +kernel) (by decide +kernel)
theorem iw_275 : Cond.code X7_init.1 X7_init.2.1 X7_init.2.2.1 X7_init.2.2.2 ∈ GW := gwp 275 (by decide +kernel) (by decide +kernel)
theorem iw_294 : Cond.classLink RX8 67 RX5 ∈ GW := gwp 294 (by decide +kernel) (by decide +kernel)
theorem iw_296 : Cond.instantiable RX5 3 ∈ GW := gwp 296 (by decide +kernel) (by decide +kernel)
theorem iw_298 : Cond.instanceMethod X5_init.1 ∈ GW := gwp 298 (by decide +kernel) (by decide +kernel)
theorem iw_299 : Cond.code X5_init.1 X5_init.2.1 X5_init.2.2.1 X5_init.2.2.2 ∈ GW := gwp 299 (by decide +kernel) (by decide +kernel)
theorem iw_866 : Cond.methodLink RX9 1 Lib.objectInit ∈ GW := gwp 866 (by decide +kernel) (by decide +kernel)
theorem iw_347 : Cond.methodLink RL 13 X8_write.1 ∈ GW := gwp 347 (by decide +kernel) (by decide +kernel)
theorem iw_348 : Cond.instanceMethod X8_write.1 ∈ GW := gwp 348 (by decide +kernel) (by decide +kernel)
theorem iw_349 : Cond.selects X8_write.1.cls X8_write.1 X8_write.1 ∈ GW := gwp 349 (by decide +kernel) (by decide +kernel)
theorem iw_350 : Cond.code X8_write.1 X8_write.2.1 X8_write.2.2.1 X8_write.2.2.2 ∈ GW := gwp 350 (by decide +kernel) (by decide +kernel)
theorem mv_L_13 : MV RL 13 X8_write 1 := ⟨iw_347, iw_348, iw_349, iw_66, iw_350, ⟨by decide +kernel, by decide +kernel, by decide +kernel⟩, by decide⟩
theorem iw_991 : Cond.methodLink RL 17 X9_write.1 ∈ GW := gwp 991 (by decide +kernel) (by decide +kernel)
theorem iw_992 : Cond.instanceMethod X9_write.1 ∈ GW := gwp 992 (by decide +kernel) (by decide +kernel)
theorem iw_993 : Cond.selects X9_write.1.cls X9_write.1 X9_write.1 ∈ GW := gwp 993 (by decide +kernel) (by decide +kernel)
theorem iw_994 : Cond.code X9_write.1 X9_write.2.1 X9_write.2.2.1 X9_write.2.2.2 ∈ GW := gwp 994 (by decide +kernel) (by decide +kernel)
theorem mv_L_17 : MV RL 17 X9_write 1 := ⟨iw_991, iw_992, iw_993, iw_75, iw_994, ⟨by decide +kernel, by decide +kernel, by decide +kernel⟩, by decide⟩
theorem iw_355 : Cond.methodLink RL 18 X8_erase.1 ∈ GW := gwp 355 (by decide +kernel) (by decide +kernel)
theorem iw_356 : Cond.instanceMethod X8_erase.1 ∈ GW := gwp 356 (by decide +kernel) (by decide +kernel)
theorem iw_357 : Cond.selects X8_erase.1.cls X8_erase.1 X8_erase.1 ∈ GW := gwp 357 (by decide +kernel) (by decide +kernel)
theorem iw_358 : Cond.code X8_erase.1 X8_erase.2.1 X8_erase.2.2.1 X8_erase.2.2.2 ∈ GW := gwp 358 (by decide +kernel) (by decide +kernel)
theorem mv_L_18 : MV RL 18 X8_erase 0 := ⟨iw_355, iw_356, iw_357, iw_66, iw_358, ⟨by decide +kernel, by decide +kernel, by decide +kernel⟩, by decide⟩
theorem iw_999 : Cond.methodLink RL 22 X9_erase.1 ∈ GW := gwp 999 (by decide +kernel) (by decide +kernel)
theorem iw_1000 : Cond.instanceMethod X9_erase.1 ∈ GW := gwp 1000 (by decide +kernel) (by decide +kernel)
theorem iw_1001 : Cond.selects X9_erase.1.cls X9_erase.1 X9_erase.1 ∈ GW := gwp 1001 (by decide +kernel) (by decide +kernel)
theorem iw_1002 : Cond.code X9_erase.1 X9_erase.2.1 X9_erase.2.2.1 X9_erase.2.2.2 ∈ GW := gwp 1002 (by decide +kernel) (by decide +kernel)
theorem mv_L_22 : MV RL 22 X9_erase 0 := ⟨iw_999, iw_1000, iw_1001, iw_75, iw_1002, ⟨by decide +kernel, by decide +kernel, by decide +kernel⟩, by decide⟩
theorem iw_359 : Cond.methodLink RL 23 X8_fault.1 ∈ GW := gwp 359 (by decide +kernel) (by decide +kernel)
theorem iw_360 : Cond.instanceMethod X8_fault.1 ∈ GW := gwp 360 (by decide +kernel) (by decide +kernel)
theorem iw_361 : Cond.selects X8_fault.1.cls X8_fault.1 X8_fault.1 ∈ GW := gwp 361 (by decide +kernel) (by decide +kernel)
theorem iw_362 : Cond.code X8_fault.1 X8_fault.2.1 X8_fault.2.2.1 X8_fault.2.2.2 ∈ GW := gwp 362 (by decide +kernel) (by decide +kernel)
theorem mv_L_23 : MV RL 23 X8_fault 0 := ⟨iw_359, iw_360, iw_361, iw_66, iw_362, ⟨by decide +kernel, by decide +kernel, by decide +kernel⟩, by decide⟩
theorem iw_1003 : Cond.methodLink RL 26 X9_fault.1 ∈ GW := gwp 1003 (by decide +kernel) (by decide +kernel)
theorem iw_1004 : Cond.instanceMethod X9_fault.1 ∈ GW := gwp 1004 (by decide +kernel) (by decide +kernel)
theorem iw_1005 : Cond.selects X9_fault.1.cls X9_fault.1 X9_fault.1 ∈ GW := gwp 1005 (by decide +kernel) (by decide +kernel)
theorem iw_1006 : Cond.code X9_fault.1 X9_fault.2.1 X9_fault.2.2.1 X9_fault.2.2.2 ∈ GW := gwp 1006 (by decide +kernel) (by decide +kernel)
theorem mv_L_26 : MV RL 26 X9_fault 0 := ⟨iw_1003, iw_1004, iw_1005, iw_75, iw_1006, ⟨by decide +kernel, by decide +kernel, by decide +kernel⟩, by decide⟩
theorem iw_489 : Cond.methodLink RL 27 X8_office.1 ∈ GW := gwp 489 (by decide +kernel) (by decide +kernel)
theorem iw_490 : Cond.instanceMethod X8_office.1 ∈ GW := gwp 490 (by decide +kernel) (by decide +kernel)
theorem iw_491 : Cond.selects X8_office.1.cls X8_office.1 X8_office.1 ∈ GW := gwp 491 (by decide +kernel) (by decide +kernel)
theorem iw_492 : Cond.code X8_office.1 X8_office.2.1 X8_office.2.2.1 X8_office.2.2.2 ∈ GW := gwp 492 (by decide +kernel) (by decide +kernel)
theorem mv_L_27 : MV RL 27 X8_office 0 := ⟨iw_489, iw_490, iw_491, iw_66, iw_492, ⟨by decide +kernel, by decide +kernel, by decide +kernel⟩, by decide⟩
theorem iw_1053 : Cond.methodLink RL 30 X9_office.1 ∈ GW := gwp 1053 (by decide +kernel) (by decide +kernel)
theorem iw_1054 : Cond.instanceMethod X9_office.1 ∈ GW := gwp 1054 (by decide +kernel) (by decide +kernel)
theorem iw_1055 : Cond.selects X9_office.1.cls X9_office.1 X9_office.1 ∈ GW := gwp 1055 (by decide +kernel) (by decide +kernel)
theorem iw_1056 : Cond.code X9_office.1 X9_office.2.1 X9_office.2.2.1 X9_office.2.2.2 ∈ GW := gwp 1056 (by decide +kernel) (by decide +kernel)
theorem mv_L_30 : MV RL 30 X9_office 0 := ⟨iw_1053, iw_1054, iw_1055, iw_75, iw_1056, ⟨by decide +kernel, by decide +kernel, by decide +kernel⟩, by decide⟩
theorem iw_510 : Cond.methodLink RL 31 X8_rhythm.1 ∈ GW := gwp 510 (by decide +kernel) (by decide +kernel)
theorem iw_511 : Cond.instanceMethod X8_rhythm.1 ∈ GW := gwp 511 (by decide +kernel) (by decide +kernel)
theorem iw_512 : Cond.selects X8_rhythm.1.cls X8_rhythm.1 X8_rhythm.1 ∈ GW := gwp 512 (by decide +kernel) (by decide +kernel)
theorem iw_513 : Cond.code X8_rhythm.1 X8_rhythm.2.1 X8_rhythm.2.2.1 X8_rhythm.2.2.2 ∈ GW := gwp 513 (by decide +kernel) (by decide +kernel)
theorem mv_L_31 : MV RL 31 X8_rhythm 2 := ⟨iw_510, iw_511, iw_512, iw_66, iw_513, ⟨by decide +kernel, by decide +kernel, by decide +kernel⟩, by decide⟩
theorem iw_1057 : Cond.methodLink RL 35 X9_rhythm.1 ∈ GW := gwp 1057 (by decide +kernel) (by decide +kernel)
theorem iw_1058 : Cond.instanceMethod X9_rhythm.1 ∈ GW := gwp 1058 (by decide +kernel) (by decide +kernel)
theorem iw_1059 : Cond.selects X9_rhythm.1.cls X9_rhythm.1 X9_rhythm.1 ∈ GW := gwp 1059 (by decide +kernel) (by decide +kernel)
theorem iw_1060 : Cond.code X9_rhythm.1 X9_rhythm.2.1 X9_rhythm.2.2.1 X9_rhythm.2.2.2 ∈ GW := gwp 1060 (by decide +kernel) (by decide +kernel)
theorem mv_L_35 : MV RL 35 X9_rhythm 2 := ⟨iw_1057, iw_1058, iw_1059, iw_75, iw_1060, ⟨by decide +kernel, by decide +kernel, by decide +kernel⟩, by decide⟩
theorem iw_537 : Cond.methodLink RL 36 X8_light.1 ∈ GW := gwp 537 (by decide +kernel) (by decide +kernel)
theorem iw_538 : Cond.instanceMethod X8_light.1 ∈ GW := gwp 538 (by decide +kernel) (by decide +kernel)
theorem iw_539 : Cond.selects X8_light.1.cls X8_light.1 X8_light.1 ∈ GW := gwp 539 (by decide +kernel) (by decide +kernel)
theorem iw_540 : Cond.code X8_light.1 X8_light.2.1 X8_light.2.2.1 X8_light.2.2.2 ∈ GW := gwp 540 (by decide +kernel) (by decide +kernel)
theorem mv_L_36 : MV RL 36 X8_light 2 := ⟨iw_537, iw_538, iw_539, iw_66, iw_540, ⟨by decide +kernel, by decide +kernel, by decide +kernel⟩, by decide⟩
theorem iw_1099 : Cond.methodLink RL 39 X9_light.1 ∈ GW := gwp 1099 (by decide +kernel) (by decide +kernel)
theorem iw_1100 : Cond.instanceMethod X9_light.1 ∈ GW := gwp 1100 (by decide +kernel) (by decide +kernel)
theorem iw_1101 : Cond.selects X9_light.1.cls X9_light.1 X9_light.1 ∈ GW := gwp 1101 (by decide +kernel) (by decide +kernel)
theorem iw_1102 : Cond.code X9_light.1 X9_light.2.1 X9_light.2.2.1 X9_light.2.2.2 ∈ GW := gwp 1102 (by decide +kernel) (by decide +kernel)
theorem mv_L_39 : MV RL 39 X9_light 2 := ⟨iw_1099, iw_1100, iw_1101, iw_75, iw_1102, ⟨by decide +kernel, by decide +kernel, by decide +kernel⟩, by decide⟩
theorem iw_566 : Cond.methodLink RL 40 X8_like.1 ∈ GW := gwp 566 (by decide +kernel) (by decide +kernel)
theorem iw_567 : Cond.instanceMethod X8_like.1 ∈ GW := gwp 567 (by decide +kernel) (by decide +kernel)
theorem iw_568 : Cond.selects X8_like.1.cls X8_like.1 X8_like.1 ∈ GW := gwp 568 (by decide +kernel) (by decide +kernel)
theorem iw_569 : Cond.code X8_like.1 X8_like.2.1 X8_like.2.2.1 X8_like.2.2.2 ∈ GW := gwp 569 (by decide +kernel) (by decide +kernel)
theorem mv_L_40 : MV RL 40 X8_like 3 := ⟨iw_566, iw_567, iw_568, iw_66, iw_569, ⟨by decide +kernel, by decide +kernel, by decide +kernel⟩, by decide⟩
theorem iw_1088 : Cond.methodLink RL 44 X9_like.1 ∈ GW := gwp 1088 (by decide +kernel) (by decide +kernel)
theorem iw_1089 : Cond.instanceMethod X9_like.1 ∈ GW := gwp 1089 (by decide +kernel) (by decide +kernel)
theorem iw_1090 : Cond.selects X9_like.1.cls X9_like.1 X9_like.1 ∈ GW := gwp 1090 (by decide +kernel) (by decide +kernel)
theorem iw_1091 : Cond.code X9_like.1 X9_like.2.1 X9_like.2.2.1 X9_like.2.2.2 ∈ GW := gwp 1091 (by decide +kernel) (by decide +kernel)
theorem mv_L_44 : MV RL 44 X9_like 3 := ⟨iw_1088, iw_1089, iw_1090, iw_75, iw_1091, ⟨by decide +kernel, by decide +kernel, by decide +kernel⟩, by decide⟩
theorem iw_570 : Cond.methodLink RL 45 X8_lit.1 ∈ GW := gwp 570 (by decide +kernel) (by decide +kernel)
theorem iw_571 : Cond.instanceMethod X8_lit.1 ∈ GW := gwp 571 (by decide +kernel) (by decide +kernel)
theorem iw_572 : Cond.selects X8_lit.1.cls X8_lit.1 X8_lit.1 ∈ GW := gwp 572 (by decide +kernel) (by decide +kernel)
theorem iw_573 : Cond.code X8_lit.1 X8_lit.2.1 X8_lit.2.2.1 X8_lit.2.2.2 ∈ GW := gwp 573 (by decide +kernel) (by decide +kernel)
theorem mv_L_45 : MV RL 45 X8_lit 2 := ⟨iw_570, iw_571, iw_572, iw_66, iw_573, ⟨by decide +kernel, by decide +kernel, by decide +kernel⟩, by decide⟩
theorem iw_1119 : Cond.methodLink RL 48 X9_lit.1 ∈ GW := gwp 1119 (by decide +kernel) (by decide +kernel)
theorem iw_1120 : Cond.instanceMethod X9_lit.1 ∈ GW := gwp 1120 (by decide +kernel) (by decide +kernel)
theorem iw_1121 : Cond.selects X9_lit.1.cls X9_lit.1 X9_lit.1 ∈ GW := gwp 1121 (by decide +kernel) (by decide +kernel)
theorem iw_1122 : Cond.code X9_lit.1 X9_lit.2.1 X9_lit.2.2.1 X9_lit.2.2.2 ∈ GW := gwp 1122 (by decide +kernel) (by decide +kernel)
theorem mv_L_48 : MV RL 48 X9_lit 2 := ⟨iw_1119, iw_1120, iw_1121, iw_75, iw_1122, ⟨by decide +kernel, by decide +kernel, by decide +kernel⟩, by decide⟩
theorem iw_587 : Cond.methodLink RL 49 X8_dark.1 ∈ GW := gwp 587 (by decide +kernel) (by decide +kernel)
theorem iw_588 : Cond.instanceMethod X8_dark.1 ∈ GW := gwp 588 (by decide +kernel) (by decide +kernel)
theorem iw_589 : Cond.selects X8_dark.1.cls X8_dark.1 X8_dark.1 ∈ GW := gwp 589 (by decide +kernel) (by decide +kernel)
theorem iw_590 : Cond.code X8_dark.1 X8_dark.2.1 X8_dark.2.2.1 X8_dark.2.2.2 ∈ GW := gwp 590 (by decide +kernel) (by decide +kernel)
theorem mv_L_49 : MV RL 49 X8_dark 1 := ⟨iw_587, iw_588, iw_589, iw_66, iw_590, ⟨by decide +kernel, by decide +kernel, by decide +kernel⟩, by decide⟩
theorem iw_1127 : Cond.methodLink RL 52 X9_dark.1 ∈ GW := gwp 1127 (by decide +kernel) (by decide +kernel)
theorem iw_1128 : Cond.instanceMethod X9_dark.1 ∈ GW := gwp 1128 (by decide +kernel) (by decide +kernel)
theorem iw_1129 : Cond.selects X9_dark.1.cls X9_dark.1 X9_dark.1 ∈ GW := gwp 1129 (by decide +kernel) (by decide +kernel)
theorem iw_1130 : Cond.code X9_dark.1 X9_dark.2.1 X9_dark.2.2.1 X9_dark.2.2.2 ∈ GW := gwp 1130 (by decide +kernel) (by decide +kernel)
theorem mv_L_52 : MV RL 52 X9_dark 1 := ⟨iw_1127, iw_1128, iw_1129, iw_75, iw_1130, ⟨by decide +kernel, by decide +kernel, by decide +kernel⟩, by decide⟩
theorem iw_591 : Cond.methodLink RL 53 X8_move.1 ∈ GW := gwp 591 (by decide +kernel) (by decide +kernel)
theorem iw_592 : Cond.instanceMethod X8_move.1 ∈ GW := gwp 592 (by decide +kernel) (by decide +kernel)
theorem iw_593 : Cond.selects X8_move.1.cls X8_move.1 X8_move.1 ∈ GW := gwp 593 (by decide +kernel) (by decide +kernel)
theorem iw_594 : Cond.code X8_move.1 X8_move.2.1 X8_move.2.2.1 X8_move.2.2.2 ∈ GW := gwp 594 (by decide +kernel) (by decide +kernel)
theorem mv_L_53 : MV RL 53 X8_move 2 := ⟨iw_591, iw_592, iw_593, iw_66, iw_594, ⟨by decide +kernel, by decide +kernel, by decide +kernel⟩, by decide⟩
theorem iw_1131 : Cond.methodLink RL 56 X9_move.1 ∈ GW := gwp 1131 (by decide +kernel) (by decide +kernel)
theorem iw_1132 : Cond.instanceMethod X9_move.1 ∈ GW := gwp 1132 (by decide +kernel) (by decide +kernel)
theorem iw_1133 : Cond.selects X9_move.1.cls X9_move.1 X9_move.1 ∈ GW := gwp 1133 (by decide +kernel) (by decide +kernel)
theorem iw_1134 : Cond.code X9_move.1 X9_move.2.1 X9_move.2.2.1 X9_move.2.2.2 ∈ GW := gwp 1134 (by decide +kernel) (by decide +kernel)
theorem mv_L_56 : MV RL 56 X9_move 2 := ⟨iw_1131, iw_1132, iw_1133, iw_75, iw_1134, ⟨by decide +kernel, by decide +kernel, by decide +kernel⟩, by decide⟩
theorem iw_598 : Cond.methodLink RL 57 X8_undo.1 ∈ GW := gwp 598 (by decide +kernel) (by decide +kernel)
theorem iw_599 : Cond.instanceMethod X8_undo.1 ∈ GW := gwp 599 (by decide +kernel) (by decide +kernel)
theorem iw_600 : Cond.selects X8_undo.1.cls X8_undo.1 X8_undo.1 ∈ GW := gwp 600 (by decide +kernel) (by decide +kernel)
theorem iw_601 : Cond.code X8_undo.1 X8_undo.2.1 X8_undo.2.2.1 X8_undo.2.2.2 ∈ GW := gwp 601 (by decide +kernel) (by decide +kernel)
theorem mv_L_57 : MV RL 57 X8_undo 0 := ⟨iw_598, iw_599, iw_600, iw_66, iw_601, ⟨by decide +kernel, by decide +kernel, by decide +kernel⟩, by decide⟩
theorem iw_1136 : Cond.methodLink RL 60 X9_undo.1 ∈ GW := gwp 1136 (by decide +kernel) (by decide +kernel)
theorem iw_1137 : Cond.instanceMethod X9_undo.1 ∈ GW := gwp 1137 (by decide +kernel) (by decide +kernel)
theorem iw_1138 : Cond.selects X9_undo.1.cls X9_undo.1 X9_undo.1 ∈ GW := gwp 1138 (by decide +kernel) (by decide +kernel)
theorem iw_1139 : Cond.code X9_undo.1 X9_undo.2.1 X9_undo.2.2.1 X9_undo.2.2.2 ∈ GW := gwp 1139 (by decide +kernel) (by decide +kernel)
theorem mv_L_60 : MV RL 60 X9_undo 0 := ⟨iw_1136, iw_1137, iw_1138, iw_75, iw_1139, ⟨by decide +kernel, by decide +kernel, by decide +kernel⟩, by decide⟩
theorem iw_606 : Cond.methodLink RL 61 X8_keep.1 ∈ GW := gwp 606 (by decide +kernel) (by decide +kernel)
theorem iw_607 : Cond.instanceMethod X8_keep.1 ∈ GW := gwp 607 (by decide +kernel) (by decide +kernel)
theorem iw_608 : Cond.selects X8_keep.1.cls X8_keep.1 X8_keep.1 ∈ GW := gwp 608 (by decide +kernel) (by decide +kernel)
theorem iw_609 : Cond.code X8_keep.1 X8_keep.2.1 X8_keep.2.2.1 X8_keep.2.2.2 ∈ GW := gwp 609 (by decide +kernel) (by decide +kernel)
theorem mv_L_61 : MV RL 61 X8_keep 1 := ⟨iw_606, iw_607, iw_608, iw_66, iw_609, ⟨by decide +kernel, by decide +kernel, by decide +kernel⟩, by decide⟩
theorem iw_1140 : Cond.methodLink RL 64 X9_keep.1 ∈ GW := gwp 1140 (by decide +kernel) (by decide +kernel)
theorem iw_1141 : Cond.instanceMethod X9_keep.1 ∈ GW := gwp 1141 (by decide +kernel) (by decide +kernel)
theorem iw_1142 : Cond.selects X9_keep.1.cls X9_keep.1 X9_keep.1 ∈ GW := gwp 1142 (by decide +kernel) (by decide +kernel)
theorem iw_1143 : Cond.code X9_keep.1 X9_keep.2.1 X9_keep.2.2.1 X9_keep.2.2.2 ∈ GW := gwp 1143 (by decide +kernel) (by decide +kernel)
theorem mv_L_64 : MV RL 64 X9_keep 1 := ⟨iw_1140, iw_1141, iw_1142, iw_75, iw_1143, ⟨by decide +kernel, by decide +kernel, by decide +kernel⟩, by decide⟩
theorem iw_618 : Cond.methodLink RL 65 X8_back.1 ∈ GW := gwp 618 (by decide +kernel) (by decide +kernel)
theorem iw_619 : Cond.instanceMethod X8_back.1 ∈ GW := gwp 619 (by decide +kernel) (by decide +kernel)
theorem iw_620 : Cond.selects X8_back.1.cls X8_back.1 X8_back.1 ∈ GW := gwp 620 (by decide +kernel) (by decide +kernel)
theorem iw_621 : Cond.code X8_back.1 X8_back.2.1 X8_back.2.2.1 X8_back.2.2.2 ∈ GW := gwp 621 (by decide +kernel) (by decide +kernel)
theorem mv_L_65 : MV RL 65 X8_back 1 := ⟨iw_618, iw_619, iw_620, iw_66, iw_621, ⟨by decide +kernel, by decide +kernel, by decide +kernel⟩, by decide⟩
theorem iw_1148 : Cond.methodLink RL 68 X9_back.1 ∈ GW := gwp 1148 (by decide +kernel) (by decide +kernel)
theorem iw_1149 : Cond.instanceMethod X9_back.1 ∈ GW := gwp 1149 (by decide +kernel) (by decide +kernel)
theorem iw_1150 : Cond.selects X9_back.1.cls X9_back.1 X9_back.1 ∈ GW := gwp 1150 (by decide +kernel) (by decide +kernel)
theorem iw_1151 : Cond.code X9_back.1 X9_back.2.1 X9_back.2.2.1 X9_back.2.2.2 ∈ GW := gwp 1151 (by decide +kernel) (by decide +kernel)
theorem mv_L_68 : MV RL 68 X9_back 1 := ⟨iw_1148, iw_1149, iw_1150, iw_75, iw_1151, ⟨by decide +kernel, by decide +kernel, by decide +kernel⟩, by decide⟩
theorem iw_622 : Cond.methodLink RL 69 X8_plan.1 ∈ GW := gwp 622 (by decide +kernel) (by decide +kernel)
theorem iw_623 : Cond.instanceMethod X8_plan.1 ∈ GW := gwp 623 (by decide +kernel) (by decide +kernel)
theorem iw_624 : Cond.selects X8_plan.1.cls X8_plan.1 X8_plan.1 ∈ GW := gwp 624 (by decide +kernel) (by decide +kernel)
theorem iw_625 : Cond.code X8_plan.1 X8_plan.2.1 X8_plan.2.2.1 X8_plan.2.2.2 ∈ GW := gwp 625 (by decide +kernel) (by decide +kernel)
theorem mv_L_69 : MV RL 69 X8_plan 2 := ⟨iw_622, iw_623, iw_624, iw_66, iw_625, ⟨by decide +kernel, by decide +kernel, by decide +kernel⟩, by decide⟩
theorem iw_1152 : Cond.methodLink RL 72 X9_plan.1 ∈ GW := gwp 1152 (by decide +kernel) (by decide +kernel)
theorem iw_1153 : Cond.instanceMethod X9_plan.1 ∈ GW := gwp 1153 (by decide +kernel) (by decide +kernel)
theorem iw_1154 : Cond.selects X9_plan.1.cls X9_plan.1 X9_plan.1 ∈ GW := gwp 1154 (by decide +kernel) (by decide +kernel)
theorem iw_1155 : Cond.code X9_plan.1 X9_plan.2.1 X9_plan.2.2.1 X9_plan.2.2.2 ∈ GW := gwp 1155 (by decide +kernel) (by decide +kernel)
theorem mv_L_72 : MV RL 72 X9_plan 2 := ⟨iw_1152, iw_1153, iw_1154, iw_75, iw_1155, ⟨by decide +kernel, by decide +kernel, by decide +kernel⟩, by decide⟩
theorem iw_650 : Cond.methodLink RL 73 X8_most.1 ∈ GW := gwp 650 (by decide +kernel) (by decide +kernel)
theorem iw_651 : Cond.instanceMethod X8_most.1 ∈ GW := gwp 651 (by decide +kernel) (by decide +kernel)
theorem iw_652 : Cond.selects X8_most.1.cls X8_most.1 X8_most.1 ∈ GW := gwp 652 (by decide +kernel) (by decide +kernel)
theorem iw_653 : Cond.code X8_most.1 X8_most.2.1 X8_most.2.2.1 X8_most.2.2.2 ∈ GW := gwp 653 (by decide +kernel) (by decide +kernel)
theorem mv_L_73 : MV RL 73 X8_most 1 := ⟨iw_650, iw_651, iw_652, iw_66, iw_653, ⟨by decide +kernel, by decide +kernel, by decide +kernel⟩, by decide⟩
theorem iw_1171 : Cond.methodLink RL 76 X9_most.1 ∈ GW := gwp 1171 (by decide +kernel) (by decide +kernel)
theorem iw_1172 : Cond.instanceMethod X9_most.1 ∈ GW := gwp 1172 (by decide +kernel) (by decide +kernel)
theorem iw_1173 : Cond.selects X9_most.1.cls X9_most.1 X9_most.1 ∈ GW := gwp 1173 (by decide +kernel) (by decide +kernel)
theorem iw_1174 : Cond.code X9_most.1 X9_most.2.1 X9_most.2.2.1 X9_most.2.2.2 ∈ GW := gwp 1174 (by decide +kernel) (by decide +kernel)
theorem mv_L_76 : MV RL 76 X9_most 1 := ⟨iw_1171, iw_1172, iw_1173, iw_75, iw_1174, ⟨by decide +kernel, by decide +kernel, by decide +kernel⟩, by decide⟩
theorem iw_662 : Cond.methodLink RL 77 X8_apart.1 ∈ GW := gwp 662 (by decide +kernel) (by decide +kernel)
theorem iw_663 : Cond.instanceMethod X8_apart.1 ∈ GW := gwp 663 (by decide +kernel) (by decide +kernel)
theorem iw_664 : Cond.selects X8_apart.1.cls X8_apart.1 X8_apart.1 ∈ GW := gwp 664 (by decide +kernel) (by decide +kernel)
theorem iw_665 : Cond.code X8_apart.1 X8_apart.2.1 X8_apart.2.2.1 X8_apart.2.2.2 ∈ GW := gwp 665 (by decide +kernel) (by decide +kernel)
theorem mv_L_77 : MV RL 77 X8_apart 2 := ⟨iw_662, iw_663, iw_664, iw_66, iw_665, ⟨by decide +kernel, by decide +kernel, by decide +kernel⟩, by decide⟩
theorem iw_1175 : Cond.methodLink RL 80 X9_apart.1 ∈ GW := gwp 1175 (by decide +kernel) (by decide +kernel)
theorem iw_1176 : Cond.instanceMethod X9_apart.1 ∈ GW := gwp 1176 (by decide +kernel) (by decide +kernel)
theorem iw_1177 : Cond.selects X9_apart.1.cls X9_apart.1 X9_apart.1 ∈ GW := gwp 1177 (by decide +kernel) (by decide +kernel)
theorem iw_1178 : Cond.code X9_apart.1 X9_apart.2.1 X9_apart.2.2.1 X9_apart.2.2.2 ∈ GW := gwp 1178 (by decide +kernel) (by decide +kernel)
theorem mv_L_80 : MV RL 80 X9_apart 2 := ⟨iw_1175, iw_1176, iw_1177, iw_75, iw_1178, ⟨by decide +kernel, by decide +kernel, by decide +kernel⟩, by decide⟩
theorem iw_667 : Cond.methodLink RL 81 X8_machine.1 ∈ GW := gwp 667 (by decide +kernel) (by decide +kernel)
theorem iw_668 : Cond.instanceMethod X8_machine.1 ∈ GW := gwp 668 (by decide +kernel) (by decide +kernel)
theorem iw_669 : Cond.selects X8_machine.1.cls X8_machine.1 X8_machine.1 ∈ GW := gwp 669 (by decide +kernel) (by decide +kernel)
theorem iw_670 : Cond.code X8_machine.1 X8_machine.2.1 X8_machine.2.2.1 X8_machine.2.2.2 ∈ GW := gwp 670 (by decide +kernel) (by decide +kernel)
theorem mv_L_81 : MV RL 81 X8_machine 2 := ⟨iw_667, iw_668, iw_669, iw_66, iw_670, ⟨by decide +kernel, by decide +kernel, by decide +kernel⟩, by decide⟩
theorem iw_1179 : Cond.methodLink RL 84 X9_machine.1 ∈ GW := gwp 1179 (by decide +kernel) (by decide +kernel)
theorem iw_1180 : Cond.instanceMethod X9_machine.1 ∈ GW := gwp 1180 (by decide +kernel) (by decide +kernel)
theorem iw_1181 : Cond.selects X9_machine.1.cls X9_machine.1 X9_machine.1 ∈ GW := gwp 1181 (by decide +kernel) (by decide +kernel)
theorem iw_1182 : Cond.code X9_machine.1 X9_machine.2.1 X9_machine.2.2.1 X9_machine.2.2.2 ∈ GW := gwp 1182 (by decide +kernel) (by decide +kernel)
theorem mv_L_84 : MV RL 84 X9_machine 2 := ⟨iw_1179, iw_1180, iw_1181, iw_75, iw_1182, ⟨by decide +kernel, by decide +kernel, by decide +kernel⟩, by decide⟩
theorem iw_718 : Cond.methodLink RL 85 X8_watch.1 ∈ GW := gwp 718 (by decide +kernel) (by decide +kernel)
theorem iw_719 : Cond.instanceMethod X8_watch.1 ∈ GW := gwp 719 (by decide +kernel) (by decide +kernel)
theorem iw_720 : Cond.selects X8_watch.1.cls X8_watch.1 X8_watch.1 ∈ GW := gwp 720 (by decide +kernel) (by decide +kernel)
theorem iw_721 : Cond.code X8_watch.1 X8_watch.2.1 X8_watch.2.2.1 X8_watch.2.2.2 ∈ GW := gwp 721 (by decide +kernel) (by decide +kernel)
theorem mv_L_85 : MV RL 85 X8_watch 2 := ⟨iw_718, iw_719, iw_720, iw_66, iw_721, ⟨by decide +kernel, by decide +kernel, by decide +kernel⟩, by decide⟩
theorem iw_1202 : Cond.methodLink RL 88 X9_watch.1 ∈ GW := gwp 1202 (by decide +kernel) (by decide +kernel)
theorem iw_1203 : Cond.instanceMethod X9_watch.1 ∈ GW := gwp 1203 (by decide +kernel) (by decide +kernel)
theorem iw_1204 : Cond.selects X9_watch.1.cls X9_watch.1 X9_watch.1 ∈ GW := gwp 1204 (by decide +kernel) (by decide +kernel)
theorem iw_1205 : Cond.code X9_watch.1 X9_watch.2.1 X9_watch.2.2.1 X9_watch.2.2.2 ∈ GW := gwp 1205 (by decide +kernel) (by decide +kernel)
theorem mv_L_88 : MV RL 88 X9_watch 2 := ⟨iw_1202, iw_1203, iw_1204, iw_75, iw_1205, ⟨by decide +kernel, by decide +kernel, by decide +kernel⟩, by decide⟩
theorem iw_737 : Cond.methodLink RL 89 X8_see.1 ∈ GW := gwp 737 (by decide +kernel) (by decide +kernel)
theorem iw_738 : Cond.instanceMethod X8_see.1 ∈ GW := gwp 738 (by decide +kernel) (by decide +kernel)
theorem iw_739 : Cond.selects X8_see.1.cls X8_see.1 X8_see.1 ∈ GW := gwp 739 (by decide +kernel) (by decide +kernel)
theorem iw_740 : Cond.code X8_see.1 X8_see.2.1 X8_see.2.2.1 X8_see.2.2.2 ∈ GW := gwp 740 (by decide +kernel) (by decide +kernel)
theorem mv_L_89 : MV RL 89 X8_see 1 := ⟨iw_737, iw_738, iw_739, iw_66, iw_740, ⟨by decide +kernel, by decide +kernel, by decide +kernel⟩, by decide⟩
theorem iw_1210 : Cond.methodLink RL 92 X9_see.1 ∈ GW := gwp 1210 (by decide +kernel) (by decide +kernel)
theorem iw_1211 : Cond.instanceMethod X9_see.1 ∈ GW := gwp 1211 (by decide +kernel) (by decide +kernel)
theorem iw_1212 : Cond.selects X9_see.1.cls X9_see.1 X9_see.1 ∈ GW := gwp 1212 (by decide +kernel) (by decide +kernel)
theorem iw_1213 : Cond.code X9_see.1 X9_see.2.1 X9_see.2.2.1 X9_see.2.2.2 ∈ GW := gwp 1213 (by decide +kernel) (by decide +kernel)
theorem mv_L_92 : MV RL 92 X9_see 1 := ⟨iw_1210, iw_1211, iw_1212, iw_75, iw_1213, ⟨by decide +kernel, by decide +kernel, by decide +kernel⟩, by decide⟩
theorem iw_754 : Cond.methodLink RL 93 X8_left.1 ∈ GW := gwp 754 (by decide +kernel) (by decide +kernel)
theorem iw_755 : Cond.instanceMethod X8_left.1 ∈ GW := gwp 755 (by decide +kernel) (by decide +kernel)
theorem iw_756 : Cond.selects X8_left.1.cls X8_left.1 X8_left.1 ∈ GW := gwp 756 (by decide +kernel) (by decide +kernel)
theorem iw_757 : Cond.code X8_left.1 X8_left.2.1 X8_left.2.2.1 X8_left.2.2.2 ∈ GW := gwp 757 (by decide +kernel) (by decide +kernel)
theorem mv_L_93 : MV RL 93 X8_left 2 := ⟨iw_754, iw_755, iw_756, iw_66, iw_757, ⟨by decide +kernel, by decide +kernel, by decide +kernel⟩, by decide⟩
theorem iw_1218 : Cond.methodLink RL 96 X9_left.1 ∈ GW := gwp 1218 (by decide +kernel) (by decide +kernel)
theorem iw_1219 : Cond.instanceMethod X9_left.1 ∈ GW := gwp 1219 (by decide +kernel) (by decide +kernel)
theorem iw_1220 : Cond.selects X9_left.1.cls X9_left.1 X9_left.1 ∈ GW := gwp 1220 (by decide +kernel) (by decide +kernel)
theorem iw_1221 : Cond.code X9_left.1 X9_left.2.1 X9_left.2.2.1 X9_left.2.2.2 ∈ GW := gwp 1221 (by decide +kernel) (by decide +kernel)
theorem mv_L_96 : MV RL 96 X9_left 2 := ⟨iw_1218, iw_1219, iw_1220, iw_75, iw_1221, ⟨by decide +kernel, by decide +kernel, by decide +kernel⟩, by decide⟩
theorem iw_767 : Cond.methodLink RL 97 X8_tape.1 ∈ GW := gwp 767 (by decide +kernel) (by decide +kernel)
theorem iw_768 : Cond.instanceMethod X8_tape.1 ∈ GW := gwp 768 (by decide +kernel) (by decide +kernel)
theorem iw_769 : Cond.selects X8_tape.1.cls X8_tape.1 X8_tape.1 ∈ GW := gwp 769 (by decide +kernel) (by decide +kernel)
theorem iw_770 : Cond.code X8_tape.1 X8_tape.2.1 X8_tape.2.2.1 X8_tape.2.2.2 ∈ GW := gwp 770 (by decide +kernel) (by decide +kernel)
theorem mv_L_97 : MV RL 97 X8_tape 1 := ⟨iw_767, iw_768, iw_769, iw_66, iw_770, ⟨by decide +kernel, by decide +kernel, by decide +kernel⟩, by decide⟩
theorem iw_1222 : Cond.methodLink RL 100 X9_tape.1 ∈ GW := gwp 1222 (by decide +kernel) (by decide +kernel)
theorem iw_1223 : Cond.instanceMethod X9_tape.1 ∈ GW := gwp 1223 (by decide +kernel) (by decide +kernel)
theorem iw_1224 : Cond.selects X9_tape.1.cls X9_tape.1 X9_tape.1 ∈ GW := gwp 1224 (by decide +kernel) (by decide +kernel)
theorem iw_1225 : Cond.code X9_tape.1 X9_tape.2.1 X9_tape.2.2.1 X9_tape.2.2.2 ∈ GW := gwp 1225 (by decide +kernel) (by decide +kernel)
theorem mv_L_100 : MV RL 100 X9_tape 1 := ⟨iw_1222, iw_1223, iw_1224, iw_75, iw_1225, ⟨by decide +kernel, by decide +kernel, by decide +kernel⟩, by decide⟩
theorem iw_775 : Cond.methodLink RL 101 X8_put.1 ∈ GW := gwp 775 (by decide +kernel) (by decide +kernel)
theorem iw_776 : Cond.instanceMethod X8_put.1 ∈ GW := gwp 776 (by decide +kernel) (by decide +kernel)
theorem iw_777 : Cond.selects X8_put.1.cls X8_put.1 X8_put.1 ∈ GW := gwp 777 (by decide +kernel) (by decide +kernel)
theorem iw_778 : Cond.code X8_put.1 X8_put.2.1 X8_put.2.2.1 X8_put.2.2.2 ∈ GW := gwp 778 (by decide +kernel) (by decide +kernel)
theorem mv_L_101 : MV RL 101 X8_put 3 := ⟨iw_775, iw_776, iw_777, iw_66, iw_778, ⟨by decide +kernel, by decide +kernel, by decide +kernel⟩, by decide⟩
theorem iw_1230 : Cond.methodLink RL 104 X9_put.1 ∈ GW := gwp 1230 (by decide +kernel) (by decide +kernel)
theorem iw_1231 : Cond.instanceMethod X9_put.1 ∈ GW := gwp 1231 (by decide +kernel) (by decide +kernel)
theorem iw_1232 : Cond.selects X9_put.1.cls X9_put.1 X9_put.1 ∈ GW := gwp 1232 (by decide +kernel) (by decide +kernel)
theorem iw_1233 : Cond.code X9_put.1 X9_put.2.1 X9_put.2.2.1 X9_put.2.2.2 ∈ GW := gwp 1233 (by decide +kernel) (by decide +kernel)
theorem mv_L_104 : MV RL 104 X9_put 3 := ⟨iw_1230, iw_1231, iw_1232, iw_75, iw_1233, ⟨by decide +kernel, by decide +kernel, by decide +kernel⟩, by decide⟩
theorem iw_794 : Cond.methodLink RL 105 X8_draw.1 ∈ GW := gwp 794 (by decide +kernel) (by decide +kernel)
theorem iw_795 : Cond.instanceMethod X8_draw.1 ∈ GW := gwp 795 (by decide +kernel) (by decide +kernel)
theorem iw_796 : Cond.selects X8_draw.1.cls X8_draw.1 X8_draw.1 ∈ GW := gwp 796 (by decide +kernel) (by decide +kernel)
theorem iw_797 : Cond.code X8_draw.1 X8_draw.2.1 X8_draw.2.2.1 X8_draw.2.2.2 ∈ GW := gwp 797 (by decide +kernel) (by decide +kernel)
theorem mv_L_105 : MV RL 105 X8_draw 2 := ⟨iw_794, iw_795, iw_796, iw_66, iw_797, ⟨by decide +kernel, by decide +kernel, by decide +kernel⟩, by decide⟩
theorem iw_1243 : Cond.methodLink RL 108 X9_draw.1 ∈ GW := gwp 1243 (by decide +kernel) (by decide +kernel)
theorem iw_1244 : Cond.instanceMethod X9_draw.1 ∈ GW := gwp 1244 (by decide +kernel) (by decide +kernel)
theorem iw_1245 : Cond.selects X9_draw.1.cls X9_draw.1 X9_draw.1 ∈ GW := gwp 1245 (by decide +kernel) (by decide +kernel)
theorem iw_1246 : Cond.code X9_draw.1 X9_draw.2.1 X9_draw.2.2.1 X9_draw.2.2.2 ∈ GW := gwp 1246 (by decide +kernel) (by decide +kernel)
theorem mv_L_108 : MV RL 108 X9_draw 2 := ⟨iw_1243, iw_1244, iw_1245, iw_75, iw_1246, ⟨by decide +kernel, by decide +kernel, by decide +kernel⟩, by decide⟩
theorem iw_807 : Cond.methodLink RL 109 X8_turn.1 ∈ GW := gwp 807 (by decide +kernel) (by decide +kernel)
theorem iw_808 : Cond.instanceMethod X8_turn.1 ∈ GW := gwp 808 (by decide +kernel) (by decide +kernel)
theorem iw_809 : Cond.selects X8_turn.1.cls X8_turn.1 X8_turn.1 ∈ GW := gwp 809 (by decide +kernel) (by decide +kernel)
theorem iw_810 : Cond.code X8_turn.1 X8_turn.2.1 X8_turn.2.2.1 X8_turn.2.2.2 ∈ GW := gwp 810 (by decide +kernel) (by decide +kernel)
theorem mv_L_109 : MV RL 109 X8_turn 2 := ⟨iw_807, iw_808, iw_809, iw_66, iw_810, ⟨by decide +kernel, by decide +kernel, by decide +kernel⟩, by decide⟩
theorem iw_1252 : Cond.methodLink RL 112 X9_turn.1 ∈ GW := gwp 1252 (by decide +kernel) (by decide +kernel)
theorem iw_1253 : Cond.instanceMethod X9_turn.1 ∈ GW := gwp 1253 (by decide +kernel) (by decide +kernel)
theorem iw_1254 : Cond.selects X9_turn.1.cls X9_turn.1 X9_turn.1 ∈ GW := gwp 1254 (by decide +kernel) (by decide +kernel)
theorem iw_1255 : Cond.code X9_turn.1 X9_turn.2.1 X9_turn.2.2.1 X9_turn.2.2.2 ∈ GW := gwp 1255 (by decide +kernel) (by decide +kernel)
theorem mv_L_112 : MV RL 112 X9_turn 2 := ⟨iw_1252, iw_1253, iw_1254, iw_75, iw_1255, ⟨by decide +kernel, by decide +kernel, by decide +kernel⟩, by decide⟩
theorem iw_811 : Cond.methodLink RL 113 X8_find.1 ∈ GW := gwp 811 (by decide +kernel) (by decide +kernel)
theorem iw_812 : Cond.instanceMethod X8_find.1 ∈ GW := gwp 812 (by decide +kernel) (by decide +kernel)
theorem iw_813 : Cond.selects X8_find.1.cls X8_find.1 X8_find.1 ∈ GW := gwp 813 (by decide +kernel) (by decide +kernel)
theorem iw_814 : Cond.code X8_find.1 X8_find.2.1 X8_find.2.2.1 X8_find.2.2.2 ∈ GW := gwp 814 (by decide +kernel) (by decide +kernel)
theorem mv_L_113 : MV RL 113 X8_find 3 := ⟨iw_811, iw_812, iw_813, iw_66, iw_814, ⟨by decide +kernel, by decide +kernel, by decide +kernel⟩, by decide⟩
theorem iw_1256 : Cond.methodLink RL 116 X9_find.1 ∈ GW := gwp 1256 (by decide +kernel) (by decide +kernel)
theorem iw_1257 : Cond.instanceMethod X9_find.1 ∈ GW := gwp 1257 (by decide +kernel) (by decide +kernel)
theorem iw_1258 : Cond.selects X9_find.1.cls X9_find.1 X9_find.1 ∈ GW := gwp 1258 (by decide +kernel) (by decide +kernel)
theorem iw_1259 : Cond.code X9_find.1 X9_find.2.1 X9_find.2.2.1 X9_find.2.2.2 ∈ GW := gwp 1259 (by decide +kernel) (by decide +kernel)
theorem mv_L_116 : MV RL 116 X9_find 3 := ⟨iw_1256, iw_1257, iw_1258, iw_75, iw_1259, ⟨by decide +kernel, by decide +kernel, by decide +kernel⟩, by decide⟩
theorem iw_833 : Cond.methodLink RL 117 X8_strike.1 ∈ GW := gwp 833 (by decide +kernel) (by decide +kernel)
theorem iw_834 : Cond.instanceMethod X8_strike.1 ∈ GW := gwp 834 (by decide +kernel) (by decide +kernel)
theorem iw_835 : Cond.selects X8_strike.1.cls X8_strike.1 X8_strike.1 ∈ GW := gwp 835 (by decide +kernel) (by decide +kernel)
theorem iw_836 : Cond.code X8_strike.1 X8_strike.2.1 X8_strike.2.2.1 X8_strike.2.2.2 ∈ GW := gwp 836 (by decide +kernel) (by decide +kernel)
theorem mv_L_117 : MV RL 117 X8_strike 2 := ⟨iw_833, iw_834, iw_835, iw_66, iw_836, ⟨by decide +kernel, by decide +kernel, by decide +kernel⟩, by decide⟩
theorem iw_1262 : Cond.methodLink RL 120 X9_strike.1 ∈ GW := gwp 1262 (by decide +kernel) (by decide +kernel)
theorem iw_1263 : Cond.instanceMethod X9_strike.1 ∈ GW := gwp 1263 (by decide +kernel) (by decide +kernel)
theorem iw_1264 : Cond.selects X9_strike.1.cls X9_strike.1 X9_strike.1 ∈ GW := gwp 1264 (by decide +kernel) (by decide +kernel)
theorem iw_1265 : Cond.code X9_strike.1 X9_strike.2.1 X9_strike.2.2.1 X9_strike.2.2.2 ∈ GW := gwp 1265 (by decide +kernel) (by decide +kernel)
theorem mv_L_120 : MV RL 120 X9_strike 2 := ⟨iw_1262, iw_1263, iw_1264, iw_75, iw_1265, ⟨by decide +kernel, by decide +kernel, by decide +kernel⟩, by decide⟩
theorem iw_841 : Cond.methodLink RL 121 X8_load.1 ∈ GW := gwp 841 (by decide +kernel) (by decide +kernel)
theorem iw_842 : Cond.instanceMethod X8_load.1 ∈ GW := gwp 842 (by decide +kernel) (by decide +kernel)
theorem iw_843 : Cond.selects X8_load.1.cls X8_load.1 X8_load.1 ∈ GW := gwp 843 (by decide +kernel) (by decide +kernel)
theorem iw_844 : Cond.code X8_load.1 X8_load.2.1 X8_load.2.2.1 X8_load.2.2.2 ∈ GW := gwp 844 (by decide +kernel) (by decide +kernel)
theorem mv_L_121 : MV RL 121 X8_load 3 := ⟨iw_841, iw_842, iw_843, iw_66, iw_844, ⟨by decide +kernel, by decide +kernel, by decide +kernel⟩, by decide⟩
theorem iw_1266 : Cond.methodLink RL 124 X9_load.1 ∈ GW := gwp 1266 (by decide +kernel) (by decide +kernel)
theorem iw_1267 : Cond.instanceMethod X9_load.1 ∈ GW := gwp 1267 (by decide +kernel) (by decide +kernel)
theorem iw_1268 : Cond.selects X9_load.1.cls X9_load.1 X9_load.1 ∈ GW := gwp 1268 (by decide +kernel) (by decide +kernel)
theorem iw_1269 : Cond.code X9_load.1 X9_load.2.1 X9_load.2.2.1 X9_load.2.2.2 ∈ GW := gwp 1269 (by decide +kernel) (by decide +kernel)
theorem mv_L_124 : MV RL 124 X9_load 3 := ⟨iw_1266, iw_1267, iw_1268, iw_75, iw_1269, ⟨by decide +kernel, by decide +kernel, by decide +kernel⟩, by decide⟩
theorem iw_845 : Cond.methodLink RL 125 X8_drop.1 ∈ GW := gwp 845 (by decide +kernel) (by decide +kernel)
theorem iw_846 : Cond.instanceMethod X8_drop.1 ∈ GW := gwp 846 (by decide +kernel) (by decide +kernel)
theorem iw_847 : Cond.selects X8_drop.1.cls X8_drop.1 X8_drop.1 ∈ GW := gwp 847 (by decide +kernel) (by decide +kernel)
theorem iw_848 : Cond.code X8_drop.1 X8_drop.2.1 X8_drop.2.2.1 X8_drop.2.2.2 ∈ GW := gwp 848 (by decide +kernel) (by decide +kernel)
theorem mv_L_125 : MV RL 125 X8_drop 1 := ⟨iw_845, iw_846, iw_847, iw_66, iw_848, ⟨by decide +kernel, by decide +kernel, by decide +kernel⟩, by decide⟩
theorem iw_1270 : Cond.methodLink RL 128 X9_drop.1 ∈ GW := gwp 1270 (by decide +kernel) (by decide +kernel)
theorem iw_1271 : Cond.instanceMethod X9_drop.1 ∈ GW := gwp 1271 (by decide +kernel) (by decide +kernel)
theorem iw_1272 : Cond.selects X9_drop.1.cls X9_drop.1 X9_drop.1 ∈ GW := gwp 1272 (by decide +kernel) (by decide +kernel)
theorem iw_1273 : Cond.code X9_drop.1 X9_drop.2.1 X9_drop.2.2.1 X9_drop.2.2.2 ∈ GW := gwp 1273 (by decide +kernel) (by decide +kernel)
theorem mv_L_128 : MV RL 128 X9_drop 1 := ⟨iw_1270, iw_1271, iw_1272, iw_75, iw_1273, ⟨by decide +kernel, by decide +kernel, by decide +kernel⟩, by decide⟩
theorem iw_849 : Cond.methodLink RL 129 X8_count.1 ∈ GW := gwp 849 (by decide +kernel) (by decide +kernel)
theorem iw_850 : Cond.instanceMethod X8_count.1 ∈ GW := gwp 850 (by decide +kernel) (by decide +kernel)
theorem iw_851 : Cond.selects X8_count.1.cls X8_count.1 X8_count.1 ∈ GW := gwp 851 (by decide +kernel) (by decide +kernel)
theorem iw_852 : Cond.code X8_count.1 X8_count.2.1 X8_count.2.2.1 X8_count.2.2.2 ∈ GW := gwp 852 (by decide +kernel) (by decide +kernel)
theorem mv_L_129 : MV RL 129 X8_count 1 := ⟨iw_849, iw_850, iw_851, iw_66, iw_852, ⟨by decide +kernel, by decide +kernel, by decide +kernel⟩, by decide⟩
theorem iw_1274 : Cond.methodLink RL 132 X9_count.1 ∈ GW := gwp 1274 (by decide +kernel) (by decide +kernel)
theorem iw_1275 : Cond.instanceMethod X9_count.1 ∈ GW := gwp 1275 (by decide +kernel) (by decide +kernel)
theorem iw_1276 : Cond.selects X9_count.1.cls X9_count.1 X9_count.1 ∈ GW := gwp 1276 (by decide +kernel) (by decide +kernel)
theorem iw_1277 : Cond.code X9_count.1 X9_count.2.1 X9_count.2.2.1 X9_count.2.2.2 ∈ GW := gwp 1277 (by decide +kernel) (by decide +kernel)
theorem mv_L_132 : MV RL 132 X9_count 1 := ⟨iw_1274, iw_1275, iw_1276, iw_75, iw_1277, ⟨by decide +kernel, by decide +kernel, by decide +kernel⟩, by decide⟩
theorem iw_84 : Cond.classLink RL 7 RX8 ∈ GW := gwp 84 (by decide +kernel) (by decide +kernel)
theorem iw_861 : Cond.classLink RL 10 RX9 ∈ GW := gwp 861 (by decide +kernel) (by decide +kernel)
theorem iw_85 : Cond.instantiable RX8 11 ∈ GW := gwp 85 (by decide +kernel) (by decide +kernel)
theorem iw_862 : Cond.instantiable RX9 38 ∈ GW := gwp 862 (by decide +kernel) (by decide +kernel)
theorem iw_86 : Cond.methodLink RL 9 X8_init.1 ∈ GW := gwp 86 (by decide +kernel) (by decide +kernel)
theorem iw_87 : Cond.instanceMethod X8_init.1 ∈ GW := gwp 87 (by decide +kernel) (by decide +kernel)
theorem iw_88 : Cond.code X8_init.1 X8_init.2.1 X8_init.2.2.1 X8_init.2.2.2 ∈ GW := gwp 88 (by decide +kernel) (by decide +kernel)
theorem iw_863 : Cond.methodLink RL 12 X9_init.1 ∈ GW := gwp 863 (by decide +kernel) (by decide +kernel)
theorem iw_864 : Cond.instanceMethod X9_init.1 ∈ GW := gwp 864 (by decide +kernel) (by decide +kernel)
theorem iw_865 : Cond.code X9_init.1 X9_init.2.1 X9_init.2.2.1 X9_init.2.2.2 ∈ GW := gwp 865 (by decide +kernel) (by decide +kernel)
