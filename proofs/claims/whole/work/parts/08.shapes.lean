/-! SHAPES and small facts, by program. -/
theorem sh0 : shp 0 = .inr (8, [.inl 1, .inl 3, .inl 8, .inl 13, .inl 22, .inl 16, .inl 19, .inl 26, .inl 31, .inl 34, .inl 35]) := rfl
theorem sl0 : 0 < NSH := by decide
theorem sh1 : shp 1 = .inr (6, [.inr false, .inr false, .inl 2, .inr false, .inr false]) := rfl
theorem sl1 : 1 < NSH := by decide
theorem sh2 : shp 2 = .inl (0, 200, []) := rfl
theorem sl2 : 2 < NSH := by decide
theorem sh3 : shp 3 = .inr (0, [.inr false, .inr false, .inr false, .inr false, .inl 4, .inl 5]) := rfl
theorem sl3 : 3 < NSH := by decide
theorem sh4 : shp 4 = .inl (0, 8, []) := rfl
theorem sl4 : 4 < NSH := by decide
theorem sh5 : shp 5 = .inr (2, [.inr false, .inl 6, .inl 7, .inr false]) := rfl
theorem sl5 : 5 < NSH := by decide
theorem sh6 : shp 6 = .inl (0, 6, []) := rfl
theorem sl6 : 6 < NSH := by decide
theorem sh7 : shp 7 = .inl (0, 6, []) := rfl
theorem sl7 : 7 < NSH := by decide
theorem sh8 : shp 8 = .inr (0, [.inr false, .inr false, .inr false, .inr false, .inl 9, .inl 10]) := rfl
theorem sl8 : 8 < NSH := by decide
theorem sh9 : shp 9 = .inl (0, 8, []) := rfl
theorem sl9 : 9 < NSH := by decide
theorem sh10 : shp 10 = .inr (2, [.inr false, .inl 11, .inl 12, .inr false]) := rfl
theorem sl10 : 10 < NSH := by decide
theorem sh11 : shp 11 = .inl (0, 6, []) := rfl
theorem sl11 : 11 < NSH := by decide
theorem sh12 : shp 12 = .inl (0, 6, []) := rfl
theorem sl12 : 12 < NSH := by decide
theorem sh13 : shp 13 = .inr (2, [.inr false, .inl 14, .inl 15, .inr false]) := rfl
theorem sl13 : 13 < NSH := by decide
theorem sh14 : shp 14 = .inl (0, 6, []) := rfl
theorem sl14 : 14 < NSH := by decide
theorem sh15 : shp 15 = .inl (0, 6, []) := rfl
theorem sl15 : 15 < NSH := by decide
theorem sh16 : shp 16 = .inr (2, [.inr false, .inl 17, .inl 18, .inr false]) := rfl
theorem sl16 : 16 < NSH := by decide
theorem sh17 : shp 17 = .inl (0, 6, []) := rfl
theorem sl17 : 17 < NSH := by decide
theorem sh18 : shp 18 = .inl (0, 6, []) := rfl
theorem sl18 : 18 < NSH := by decide
theorem sh19 : shp 19 = .inr (2, [.inr false, .inl 20, .inl 21, .inr false]) := rfl
theorem sl19 : 19 < NSH := by decide
theorem sh20 : shp 20 = .inl (0, 6, []) := rfl
theorem sl20 : 20 < NSH := by decide
theorem sh21 : shp 21 = .inl (0, 6, []) := rfl
theorem sl21 : 21 < NSH := by decide
theorem sh22 : shp 22 = .inr (1, [.inr false, .inl 23, .inl 24, .inl 25]) := rfl
theorem sl22 : 22 < NSH := by decide
theorem sh23 : shp 23 = .inl (0, 8, []) := rfl
theorem sl23 : 23 < NSH := by decide
theorem sh24 : shp 24 = .inl (0, 8, []) := rfl
theorem sl24 : 24 < NSH := by decide
theorem sh25 : shp 25 = .inl (0, 8, []) := rfl
theorem sl25 : 25 < NSH := by decide
theorem sh26 : shp 26 = .inr (4, [.inr false, .inl 27, .inr false, .inr false, .inl 28, .inl 29, .inl 30]) := rfl
theorem sl26 : 26 < NSH := by decide
theorem sh27 : shp 27 = .inl (0, 6, []) := rfl
theorem sl27 : 27 < NSH := by decide
theorem sh28 : shp 28 = .inl (0, 6, []) := rfl
theorem sl28 : 28 < NSH := by decide
theorem sh29 : shp 29 = .inl (0, 6, []) := rfl
theorem sl29 : 29 < NSH := by decide
theorem sh30 : shp 30 = .inl (0, 8, []) := rfl
theorem sl30 : 30 < NSH := by decide
theorem sh31 : shp 31 = .inr (3, [.inl 32, .inl 33, .inr false, .inr false, .inr true, .inr true, .inr true]) := rfl
theorem sl31 : 31 < NSH := by decide
theorem sh32 : shp 32 = .inl (1, 256, []) := rfl
theorem sl32 : 32 < NSH := by decide
theorem sh33 : shp 33 = .inl (1, 48, []) := rfl
theorem sl33 : 33 < NSH := by decide
theorem sh34 : shp 34 = .inr (7, [.inr false, .inr false, .inr true, .inr true, .inr false]) := rfl
theorem sl34 : 34 < NSH := by decide
theorem sh35 : shp 35 = .inl (3, 3, [36, 38, 40]) := rfl
theorem sl35 : 35 < NSH := by decide
theorem sh36 : shp 36 = .inr (5, [.inr false, .inr false, .inl 37]) := rfl
theorem sl36 : 36 < NSH := by decide
theorem sh37 : shp 37 = .inl (0, 12, []) := rfl
theorem sl37 : 37 < NSH := by decide
theorem sh38 : shp 38 = .inr (5, [.inr false, .inr false, .inl 39]) := rfl
theorem sl38 : 38 < NSH := by decide
theorem sh39 : shp 39 = .inl (0, 12, []) := rfl
theorem sl39 : 39 < NSH := by decide
theorem sh40 : shp 40 = .inr (5, [.inr false, .inr false, .inl 41]) := rfl
theorem sl40 : 40 < NSH := by decide
theorem sh41 : shp 41 = .inl (0, 12, []) := rfl
theorem sl41 : 41 < NSH := by decide
theorem sh42 : shp 42 = .inr (9, [.inl 43, .inr false, .inr false, .inr false, .inr false, .inr false, .inl 44, .inr false, .inl 45, .inl 46, .inr false, .inr false, .inr false, .inl 47, .inl 48, .inl 49, .inl 50, .inl 51, .inr false, .inr false, .inr false, .inr false, .inr false, .inr false, .inr false, .inl 52, .inl 53, .inl 54, .inl 55, .inl 56, .inl 57, .inl 58, .inl 59, .inl 60, .inl 61, .inl 62, .inl 63, .inl 64]) := rfl
theorem sl42 : 42 < NSH := by decide
theorem sh43 : shp 43 = .inl (0, 144, []) := rfl
theorem sl43 : 43 < NSH := by decide
theorem sh44 : shp 44 = .inl (0, 8, []) := rfl
theorem sl44 : 44 < NSH := by decide
theorem sh45 : shp 45 = .inl (2, 2, []) := rfl
theorem sl45 : 45 < NSH := by decide
theorem sh46 : shp 46 = .inl (0, 200, []) := rfl
theorem sl46 : 46 < NSH := by decide
theorem sh47 : shp 47 = .inl (2, 48, []) := rfl
theorem sl47 : 47 < NSH := by decide
theorem sh48 : shp 48 = .inl (0, 48, []) := rfl
theorem sl48 : 48 < NSH := by decide
theorem sh49 : shp 49 = .inl (2, 48, []) := rfl
theorem sl49 : 49 < NSH := by decide
theorem sh50 : shp 50 = .inl (0, 3, []) := rfl
theorem sl50 : 50 < NSH := by decide
theorem sh51 : shp 51 = .inl (0, 36, []) := rfl
theorem sl51 : 51 < NSH := by decide
theorem sh52 : shp 52 = .inl (0, 2, []) := rfl
theorem sl52 : 52 < NSH := by decide
theorem sh53 : shp 53 = .inl (0, 5, []) := rfl
theorem sl53 : 53 < NSH := by decide
theorem sh54 : shp 54 = .inl (0, 6, []) := rfl
theorem sl54 : 54 < NSH := by decide
theorem sh55 : shp 55 = .inl (0, 5, []) := rfl
theorem sl55 : 55 < NSH := by decide
theorem sh56 : shp 56 = .inl (0, 6, []) := rfl
theorem sl56 : 56 < NSH := by decide
theorem sh57 : shp 57 = .inl (0, 5, []) := rfl
theorem sl57 : 57 < NSH := by decide
theorem sh58 : shp 58 = .inl (0, 3, []) := rfl
theorem sl58 : 58 < NSH := by decide
theorem sh59 : shp 59 = .inl (0, 8, []) := rfl
theorem sl59 : 59 < NSH := by decide
theorem sh60 : shp 60 = .inl (0, 6, []) := rfl
theorem sl60 : 60 < NSH := by decide
theorem sh61 : shp 61 = .inl (0, 6, []) := rfl
theorem sl61 : 61 < NSH := by decide
theorem sh62 : shp 62 = .inl (1, 640, []) := rfl
theorem sl62 : 62 < NSH := by decide
theorem sh63 : shp 63 = .inl (1, 128, []) := rfl
theorem sl63 : 63 < NSH := by decide
theorem sh64 : shp 64 = .inl (1, 128, []) := rfl
theorem sl64 : 64 < NSH := by decide
def isTp (a : Nat) : Prop := a = 36 ∨ a = 38 ∨ a = 40
def isLi (a : Nat) : Prop := a = 5 ∨ a = 10 ∨ a = 13 ∨ a = 16 ∨ a = 19
def isBk (a : Nat) : Prop := a = 3 ∨ a = 8
theorem tp_s {a : Nat} (h : isTp a) : shp a = .inr (5, [.inr false, .inr false, .inl (a + 1)]) := by rcases h with rfl | rfl | rfl <;> rfl
theorem tp_l {a : Nat} (h : isTp a) : a < NSH := by rcases h with rfl | rfl | rfl <;> decide
theorem tp_s1 {a : Nat} (h : isTp a) : shp (a + 1) = .inl (0, 12, []) := by rcases h with rfl | rfl | rfl <;> rfl
theorem tp_l1 {a : Nat} (h : isTp a) : a + 1 < NSH := by rcases h with rfl | rfl | rfl <;> decide
theorem li_s {a : Nat} (h : isLi a) : shp a = .inr (2, [.inr false, .inl (a + 1), .inl (a + 2), .inr false]) := by rcases h with rfl | rfl | rfl | rfl | rfl <;> rfl
theorem li_l {a : Nat} (h : isLi a) : a < NSH := by rcases h with rfl | rfl | rfl | rfl | rfl <;> decide
theorem li_s1 {a : Nat} (h : isLi a) : shp (a + 1) = .inl (0, 6, []) := by rcases h with rfl | rfl | rfl | rfl | rfl <;> rfl
theorem li_l1 {a : Nat} (h : isLi a) : a + 1 < NSH := by rcases h with rfl | rfl | rfl | rfl | rfl <;> decide
theorem li_s2 {a : Nat} (h : isLi a) : shp (a + 2) = .inl (0, 6, []) := by rcases h with rfl | rfl | rfl | rfl | rfl <;> rfl
theorem li_l2 {a : Nat} (h : isLi a) : a + 2 < NSH := by rcases h with rfl | rfl | rfl | rfl | rfl <;> decide
theorem bk_s {a : Nat} (h : isBk a) : shp a = .inr (0, [.inr false, .inr false, .inr false, .inr false, .inl (a + 1), .inl (a + 2)]) := by rcases h with rfl | rfl <;> rfl
theorem bk_l {a : Nat} (h : isBk a) : a < NSH := by rcases h with rfl | rfl <;> decide
theorem bk_s1 {a : Nat} (h : isBk a) : shp (a + 1) = .inl (0, 8, []) := by rcases h with rfl | rfl <;> rfl
theorem bk_l1 {a : Nat} (h : isBk a) : a + 1 < NSH := by rcases h with rfl | rfl <;> decide
theorem bk_li {a : Nat} (h : isBk a) : isLi (a + 2) := by rcases h with rfl | rfl <;> simp [isLi]
theorem rm_lo {d s t : Nat} (h : s + t ≤ 40) : s + t ≤ (RM (d + 1)).locals := by
  show s + t ≤ 40 * (d + 1)
  omega
theorem sw_out {x : Int32} {k : Nat} (hk : k < 2147483648) (h : x < 0 ∨ nI k < x) : x.toInt < 0 ∨ (k : Int) < x.toInt := by
  rcases h with h | h
  · exact Or.inl (Int32.lt_iff_toInt_lt.mp h)
  · exact Or.inr (by have := Int32.lt_iff_toInt_lt.mp h; rw [nI_toInt hk] at this; exact this)
theorem sw_le {x : Int32} {k : Nat} (hk : k < 2147483648) (h : ¬ (x < 0 ∨ nI k < x)) : ∃ j : Nat, j ≤ k ∧ x = nI j := by
  have h1 : ¬ x < 0 := fun z => h (Or.inl z)
  have h2 : ¬ nI k < x := fun z => h (Or.inr z)
  obtain ⟨j, hj, rfl⟩ := nI_of h1
  refine ⟨j, ?_, rfl⟩
  rcases Nat.lt_or_ge k j with q | q
  · exact absurd (nI_lt q hj) h2
  · exact q
theorem sw_in3 {x : Int32} (h : ¬ (x < 0 ∨ nI 3 < x)) : x = 0 ∨ x = 1 ∨ x = 2 ∨ x = 3 := by
  obtain ⟨j, hj, rfl⟩ := sw_le (k := 3) (by decide) h
  have hj2 : j < 4 := by omega
  have := (show ∀ j : Fin 4, nI j.val = 0 ∨ nI j.val = 1 ∨ nI j.val = 2 ∨ nI j.val = 3 from by decide) ⟨j, hj2⟩
  exact this
theorem sw_in4 {x : Int32} (h : ¬ (x < 0 ∨ nI 4 < x)) : x = 0 ∨ x = 1 ∨ x = 2 ∨ x = 3 ∨ x = 4 := by
  obtain ⟨j, hj, rfl⟩ := sw_le (k := 4) (by decide) h
  have hj2 : j < 5 := by omega
  have := (show ∀ j : Fin 5, nI j.val = 0 ∨ nI j.val = 1 ∨ nI j.val = 2 ∨ nI j.val = 3 ∨ nI j.val = 4 from by decide) ⟨j, hj2⟩
  exact this
theorem sw_in10 {x : Int32} (h : ¬ (x < 0 ∨ nI 10 < x)) : x = 0 ∨ x = 1 ∨ x = 2 ∨ x = 3 ∨ x = 4 ∨ x = 5 ∨ x = 6 ∨ x = 7 ∨ x = 8 ∨ x = 9 ∨ x = 10 := by
  obtain ⟨j, hj, rfl⟩ := sw_le (k := 10) (by decide) h
  have hj2 : j < 11 := by omega
  have := (show ∀ j : Fin 11, nI j.val = 0 ∨ nI j.val = 1 ∨ nI j.val = 2 ∨ nI j.val = 3 ∨ nI j.val = 4 ∨ nI j.val = 5 ∨ nI j.val = 6 ∨ nI j.val = 7 ∨ nI j.val = 8 ∨ nI j.val = 9 ∨ nI j.val = 10 from by decide) ⟨j, hj2⟩
  exact this
theorem vl_0_2 : vp_in 0 2 := vp_in_nI (n := 0) (N := 2) (by decide) (by decide)
theorem vl_0_12 : vp_in 0 12 := vp_in_nI (n := 0) (N := 12) (by decide) (by decide)
theorem vl_0_128 : vp_in 0 128 := vp_in_nI (n := 0) (N := 128) (by decide) (by decide)
theorem vl_0_256 : vp_in 0 256 := vp_in_nI (n := 0) (N := 256) (by decide) (by decide)
theorem vl_0_640 : vp_in 0 640 := vp_in_nI (n := 0) (N := 640) (by decide) (by decide)
theorem vl_1_2 : vp_in 1 2 := vp_in_nI (n := 1) (N := 2) (by decide) (by decide)
theorem cl_0 : (0 : Int32).toNatClampNeg = 0 := by decide
theorem cl_1 : (1 : Int32).toNatClampNeg = 1 := by decide
theorem cl_6 : (6 : Int32).toNatClampNeg = 6 := by decide
theorem cl_7 : (7 : Int32).toNatClampNeg = 7 := by decide
theorem cl_8 : (8 : Int32).toNatClampNeg = 8 := by decide
theorem ng_0 : ¬ (0 : Int32) < 0 := by decide
theorem ng_1 : ¬ (1 : Int32) < 0 := by decide
theorem ng_6 : ¬ (6 : Int32) < 0 := by decide
theorem ng_7 : ¬ (7 : Int32) < 0 := by decide
theorem ng_8 : ¬ (8 : Int32) < 0 := by decide
theorem pn_J13 : plainName RJ13 = true := by decide +kernel
theorem pn_J6 : plainName RJ6 = true := by decide +kernel
theorem pn_X0 : plainName RX0 = true := by decide +kernel
theorem pn_X1 : plainName RX1 = true := by decide +kernel
theorem pn_X2 : plainName RX2 = true := by decide +kernel
theorem pn_X3 : plainName RX3 = true := by decide +kernel
theorem pn_X4 : plainName RX4 = true := by decide +kernel
theorem pn_X5 : plainName RX5 = true := by decide +kernel
theorem pn_X6 : plainName RX6 = true := by decide +kernel
theorem pn_X7 : plainName RX7 = true := by decide +kernel
theorem pn_X8 : plainName RX8 = true := by decide +kernel
theorem pn_X9 : plainName RX9 = true := by decide +kernel
