/-! LONGS: sets of 48 pairs; how many there are in one. -/
def rp (c : Nat) : Nat → Nat
  | 0 => 0
  | k + 1 => c + 256 * rp c k
theorem andB {z m0 m1 : Nat} (h : m0 < 256) : z &&& (m0 + 256 * m1) = (z % 256 &&& m0) + 256 * (z / 256 &&& m1) := by
  have h1 : (z &&& (m0 + 256 * m1)) % 2 ^ 8 = (z % 2 ^ 8) &&& ((m0 + 256 * m1) % 2 ^ 8) := Nat.and_mod_two_pow
  have h2 : (z &&& (m0 + 256 * m1)) / 2 ^ 8 = (z / 2 ^ 8) &&& ((m0 + 256 * m1) / 2 ^ 8) := Nat.and_div_two_pow
  have e1 : (m0 + 256 * m1) % 2 ^ 8 = m0 := by omega
  have e2 : (m0 + 256 * m1) / 2 ^ 8 = m1 := by omega
  rw [e1] at h1
  rw [e2] at h2
  have := Nat.div_add_mod (z &&& (m0 + 256 * m1)) (2 ^ 8)
  rw [h1, h2] at this
  rw [← this]
  exact Nat.add_comm _ _
def e1 (k x : Nat) : Nat := x - (x / 2 &&& rp 85 k)
def e2 (k x : Nat) : Nat := (x &&& rp 51 k) + (x / 4 &&& rp 51 k)
def e3 (k x : Nat) : Nat := (x + x / 16) &&& rp 15 k
theorem and85 : ∀ c, c < 128 → ∀ t, t < 2 → (c + 128 * t) &&& 85 = c &&& 85 := by decide +kernel
theorem and51 : ∀ c, c < 64 → ∀ t, t < 4 → (c + 64 * t) &&& 51 = c &&& 51 := by decide +kernel
theorem e1_s {k a y : Nat} (ha : a < 256) : e1 (k + 1) (a + 256 * y) = (a - (a / 2 &&& 85)) + 256 * e1 k y := by
  unfold e1
  rw [rp, andB (by decide), show (a + 256 * y) / 2 % 256 = a / 2 + 128 * (y % 2) by omega, show (a + 256 * y) / 2 / 256 = y / 2 by omega, and85 _ (by omega) _ (by omega)]
  have p := Nat.and_le_left (n := a / 2) (m := 85)
  have q := Nat.and_le_left (n := y / 2) (m := rp 85 k)
  generalize (a / 2 &&& 85) = P at *
  generalize (y / 2 &&& rp 85 k) = Q at *
  omega
theorem e2_s {k a y : Nat} (ha : a < 256) : e2 (k + 1) (a + 256 * y) = ((a &&& 51) + (a / 4 &&& 51)) + 256 * e2 k y := by
  unfold e2
  rw [rp, andB (by decide), andB (by decide), show (a + 256 * y) / 4 % 256 = a / 4 + 64 * (y % 4) by omega, show (a + 256 * y) / 4 / 256 = y / 4 by omega, and51 _ (by omega) _ (by omega), show (a + 256 * y) % 256 = a by omega, show (a + 256 * y) / 256 = y by omega]
  generalize (a &&& 51) = P
  generalize (a / 4 &&& 51) = Q
  generalize (y &&& rp 51 k) = R
  generalize (y / 4 &&& rp 51 k) = S
  omega
theorem e3_s {k a y : Nat} (ha : a ≤ 68) (hy : y % 16 ≤ 6) : e3 (k + 1) (a + 256 * y) = ((a + a / 16) &&& 15) + 256 * e3 k y := by
  unfold e3
  have e : a + 256 * y + (a + 256 * y) / 16 = (a + a / 16 + 16 * (y % 16)) + 256 * (y + y / 16) := by omega
  have m : ∀ z, z &&& 15 = z % 16 := fun z => Nat.and_two_pow_sub_one_eq_mod z 4
  rw [rp, andB (by decide), e, show (a + a / 16 + 16 * (y % 16) + 256 * (y + y / 16)) % 256 = a + a / 16 + 16 * (y % 16) by omega, show (a + a / 16 + 16 * (y % 16) + 256 * (y + y / 16)) / 256 = y + y / 16 by omega, m, m]
  generalize (y + y / 16 &&& rp 15 k) = Q
  omega
theorem rp51 : ∀ k, rp 51 k % 16 ≤ 3
  | 0 => by decide
  | k + 1 => by rw [rp]; omega
theorem e2_m (k x : Nat) : e2 k x % 16 ≤ 6 := by
  unfold e2
  have h : ∀ z, (z &&& rp 51 k) % 16 ≤ 3 := by
    intro z
    have h1 : (z &&& rp 51 k) % 2 ^ 4 = (z % 2 ^ 4) &&& (rp 51 k % 2 ^ 4) := Nat.and_mod_two_pow
    have h2 := Nat.and_le_right (n := z % 2 ^ 4) (m := rp 51 k % 2 ^ 4)
    have h3 := rp51 k
    rw [← h1] at h2
    omega
  have h1 := h x
  have h2 := h (x / 4)
  generalize (x &&& rp 51 k) = P at *
  generalize (x / 4 &&& rp 51 k) = Q at *
  omega
theorem byt : ∀ a, a < 256 → (a - (a / 2 &&& 85)) < 256 ∧ (((a - (a / 2 &&& 85)) &&& 51) + ((a - (a / 2 &&& 85)) / 4 &&& 51)) ≤ 68 ∧ (((((a - (a / 2 &&& 85)) &&& 51) + ((a - (a / 2 &&& 85)) / 4 &&& 51)) + (((a - (a / 2 &&& 85)) &&& 51) + ((a - (a / 2 &&& 85)) / 4 &&& 51)) / 16) &&& 15) = pc8 a := by decide +kernel
def ee (k x : Nat) : Nat := e3 k (e2 k (e1 k x))
theorem ee_s {k a y : Nat} (ha : a < 256) : ee (k + 1) (a + 256 * y) = pc8 a + 256 * ee k y := by
  have b := byt a ha
  unfold ee
  rw [e1_s ha, e2_s b.1, e3_s b.2.1 (e2_m _ _), b.2.2]
def pcB (n : Nat) : Nat := pc8 (n % 256) + pc8 (n / 256 % 256) + pc8 (n / 65536 % 256) + pc8 (n / 16777216 % 256) + pc8 (n / 4294967296 % 256) + pc8 (n / 1099511627776 % 256)
theorem pc8_le (x : Nat) : pc8 x ≤ 8 := by unfold pc8; omega
theorem ee_all {n : Nat} (h : n < 281474976710656) : ∃ p0 p1 p2 p3 p4 p5, p0 ≤ 8 ∧ p1 ≤ 8 ∧ p2 ≤ 8 ∧ p3 ≤ 8 ∧ p4 ≤ 8 ∧ p5 ≤ 8 ∧ pcB n = p0 + p1 + p2 + p3 + p4 + p5 ∧ ee 8 n = p0 + 256 * p1 + 65536 * p2 + 16777216 * p3 + 4294967296 * p4 + 1099511627776 * p5 := by
  refine ⟨_, _, _, _, _, _, pc8_le _, pc8_le _, pc8_le _, pc8_le _, pc8_le _, pc8_le _, rfl, ?_⟩
  have e : n = n % 256 + 256 * (n / 256 % 256 + 256 * (n / 65536 % 256 + 256 * (n / 16777216 % 256 + 256 * (n / 4294967296 % 256 + 256 * (n / 1099511627776 % 256 + 256 * 0))))) := by omega
  have z : ee 2 0 = 0 := by decide
  have l : ∀ x, x % 256 < 256 := fun x => Nat.mod_lt _ (by decide)
  have := ee_s (k := 7) (y := n / 256 % 256 + 256 * (n / 65536 % 256 + 256 * (n / 16777216 % 256 + 256 * (n / 4294967296 % 256 + 256 * (n / 1099511627776 % 256 + 256 * 0))))) (l n)
  rw [← e, ee_s (l _), ee_s (l _), ee_s (l _), ee_s (l _), ee_s (l _), z] at this
  rw [this]
  omega
def pA (v : Int64) : Int64 := v - (((v.toUInt64 >>> ((1 : Int32).toInt64.toUInt64 &&& Int64.toUInt64 63)).toInt64) &&& 6148914691236517205)
def pC (a : Int64) : Int64 := (a &&& 3689348814741910323) + (((a.toUInt64 >>> ((2 : Int32).toInt64.toUInt64 &&& Int64.toUInt64 63)).toInt64) &&& 3689348814741910323)
def pE (c : Int64) : Int64 := (c + ((c.toUInt64 >>> ((4 : Int32).toInt64.toUInt64 &&& Int64.toUInt64 63)).toInt64)) &&& 1085102592571150095
def pF (e : Int64) : Int64 := e + ((e.toUInt64 >>> ((8 : Int32).toInt64.toUInt64 &&& Int64.toUInt64 63)).toInt64)
def pG (e : Int64) : Int64 := e + ((e.toUInt64 >>> ((16 : Int32).toInt64.toUInt64 &&& Int64.toUInt64 63)).toInt64)
def pH (e : Int64) : Int64 := e + ((e.toUInt64 >>> ((32 : Int32).toInt64.toUInt64 &&& Int64.toUInt64 63)).toInt64)
theorem ushrL {n k : Nat} (hn : n < 18446744073709551616) (hk : k < 64) : ((lN n).toUInt64 >>> ((nI k).toInt64.toUInt64 &&& Int64.toUInt64 63)).toInt64 = lN (n / 2 ^ k) := wb_shr hn hk
theorem pA_N {n : Nat} (h : n < 281474976710656) : pA (lN n) = lN (e1 8 n) := by
  unfold pA e1
  have l : (n / 2 ^ 1 &&& rp 85 8) ≤ n := Nat.le_trans Nat.and_le_left (Nat.div_le_self _ _)
  rw [show ((lN n).toUInt64 >>> ((1 : Int32).toInt64.toUInt64 &&& Int64.toUInt64 63)).toInt64 = lN (n / 2 ^ 1) from ushrL (by omega) (by decide), show (6148914691236517205 : Int64) = lN (rp 85 8) by decide, fb_andL, lN_sub l]
theorem pC_N {n : Nat} (h : n < 281474976710656) : pC (lN n) = lN (e2 8 n) := by
  unfold pC e2
  rw [show ((lN n).toUInt64 >>> ((2 : Int32).toInt64.toUInt64 &&& Int64.toUInt64 63)).toInt64 = lN (n / 2 ^ 2) from ushrL (by omega) (by decide), show (3689348814741910323 : Int64) = lN (rp 51 8) by decide, fb_andL, fb_andL, lN_add]
theorem pE_N {n : Nat} (h : n < 2814749767106560) : pE (lN n) = lN (e3 8 n) := by
  unfold pE e3
  rw [show ((lN n).toUInt64 >>> ((4 : Int32).toInt64.toUInt64 &&& Int64.toUInt64 63)).toInt64 = lN (n / 2 ^ 4) from ushrL (by omega) (by decide), show (1085102592571150095 : Int64) = lN (rp 15 8) by decide, lN_add, fb_andL]
theorem pX_N {n : Nat} (h : n < 2814749767106560) : pF (lN n) = lN (n + n / 256) ∧ pG (lN n) = lN (n + n / 65536) ∧ pH (lN n) = lN (n + n / 4294967296) := by
  unfold pF pG pH
  rw [show ((lN n).toUInt64 >>> ((8 : Int32).toInt64.toUInt64 &&& Int64.toUInt64 63)).toInt64 = lN (n / 2 ^ 8) from ushrL (by omega) (by decide), show ((lN n).toUInt64 >>> ((16 : Int32).toInt64.toUInt64 &&& Int64.toUInt64 63)).toInt64 = lN (n / 2 ^ 16) from ushrL (by omega) (by decide), show ((lN n).toUInt64 >>> ((32 : Int32).toInt64.toUInt64 &&& Int64.toUInt64 63)).toInt64 = lN (n / 2 ^ 32) from ushrL (by omega) (by decide), lN_add, lN_add, lN_add]
  exact ⟨rfl, rfl, rfl⟩
theorem w_bcR {d : Nat} {M : Mm} {v : Int64} {K : Int32 → Mm → Prop} (h : K ((pH (pG (pF (pE (pC (pA v)))))).toInt32 &&& 127) M) : ACi (d + 1) J13_bitCount_95d88 [.long v] M K := w_J13_bitCount_95d88 h
theorem w_bc64 {d : Nat} {M : Mm} {n : Nat} {K : Int32 → Mm → Prop} (hn : n < 281474976710656) (h : K (nI (pcB n)) M) : ACi (d + 1) J13_bitCount_95d88 [.long (lN n)] M K := by
  apply w_bcR
  obtain ⟨p0, p1, p2, p3, p4, p5, l0, l1, l2, l3, l4, l5, hs, he⟩ := ee_all hn
  have b1 : e1 8 n < 281474976710656 := by unfold e1; omega
  have b2 : e2 8 (e1 8 n) < 2814749767106560 := by
    unfold e2
    have := Nat.and_le_left (n := e1 8 n) (m := rp 51 8)
    have := Nat.and_le_left (n := e1 8 n / 4) (m := rp 51 8)
    omega
  have hee : e3 8 (e2 8 (e1 8 n)) = ee 8 n := rfl
  rw [pA_N hn, pC_N b1, pE_N b2, hee, he]
  have q1 : p0 + 256 * p1 + 65536 * p2 + 16777216 * p3 + 4294967296 * p4 + 1099511627776 * p5 < 2814749767106560 := by omega
  rw [(pX_N q1).1]
  have f : (p0 + 256 * p1 + 65536 * p2 + 16777216 * p3 + 4294967296 * p4 + 1099511627776 * p5) + (p0 + 256 * p1 + 65536 * p2 + 16777216 * p3 + 4294967296 * p4 + 1099511627776 * p5) / 256 = (p0 + p1) + 256 * (p1 + p2) + 65536 * (p2 + p3) + 16777216 * (p3 + p4) + 4294967296 * (p4 + p5) + 1099511627776 * p5 := by omega
  rw [f]
  have q2 : (p0 + p1) + 256 * (p1 + p2) + 65536 * (p2 + p3) + 16777216 * (p3 + p4) + 4294967296 * (p4 + p5) + 1099511627776 * p5 < 2814749767106560 := by omega
  rw [(pX_N q2).2.1]
  have g : ((p0 + p1) + 256 * (p1 + p2) + 65536 * (p2 + p3) + 16777216 * (p3 + p4) + 4294967296 * (p4 + p5) + 1099511627776 * p5) + ((p0 + p1) + 256 * (p1 + p2) + 65536 * (p2 + p3) + 16777216 * (p3 + p4) + 4294967296 * (p4 + p5) + 1099511627776 * p5) / 65536 = (p0 + p1 + p2 + p3) + 256 * (p1 + p2 + p3 + p4) + 65536 * (p2 + p3 + p4 + p5) + 16777216 * (p3 + p4 + p5) + 4294967296 * (p4 + p5) + 1099511627776 * p5 := by omega
  rw [g]
  have q3 : (p0 + p1 + p2 + p3) + 256 * (p1 + p2 + p3 + p4) + 65536 * (p2 + p3 + p4 + p5) + 16777216 * (p3 + p4 + p5) + 4294967296 * (p4 + p5) + 1099511627776 * p5 < 2814749767106560 := by omega
  rw [(pX_N q3).2.2, lN_i, show (127 : Int32) = nI (2 ^ 7 - 1) from rfl, fa_mask]
  have dv : ((p0 + p1 + p2 + p3) + 256 * (p1 + p2 + p3 + p4) + 65536 * (p2 + p3 + p4 + p5) + 16777216 * (p3 + p4 + p5) + 4294967296 * (p4 + p5) + 1099511627776 * p5) / 4294967296 = (p4 + p5) + 256 * p5 := by clear hs he h q1 q2 q3 f g b1 b2 hee; omega
  rw [dv]
  have hh : ((p0 + p1 + p2 + p3) + 256 * (p1 + p2 + p3 + p4) + 65536 * (p2 + p3 + p4 + p5) + 16777216 * (p3 + p4 + p5) + 4294967296 * (p4 + p5) + 1099511627776 * p5 + ((p4 + p5) + 256 * p5)) % 2 ^ 7 = p0 + p1 + p2 + p3 + p4 + p5 := by clear hs he h q1 q2 q3 f g b1 b2 hee dv; omega
  rw [hh, ← hs]
  exact h
/-! bits and how many -/
theorem bs_tb (f : Nat → Bool) (n i : Nat) : (bsN f n).testBit i = (decide (i < n) && f i) := by
  have h := bsN_bit f n i
  rw [bit_eq] at h
  cases q : (bsN f n).testBit i with
  | true =>
    rw [q] at h
    by_cases z : i < n ∧ f i = true
    · rw [z.2, decide_eq_true z.1]; rfl
    · rw [if_neg z] at h; exact absurd h (by decide)
  | false =>
    rw [q] at h
    by_cases z : i < n ∧ f i = true
    · rw [if_pos z] at h; exact absurd h (by decide)
    · cases y : f i with
      | false => rw [Bool.and_false]
      | true => rw [decide_eq_false (fun c => z ⟨c, y⟩)]; rfl
theorem bs_ext {f : Nat → Bool} {n m : Nat} (hm : m < 2 ^ n) (h : ∀ i, i < n → m.testBit i = f i) : m = bsN f n := by
  apply Nat.eq_of_testBit_eq
  intro i
  rw [bs_tb]
  by_cases hi : i < n
  · rw [decide_eq_true hi, Bool.true_and]; exact h i hi
  · rw [decide_eq_false hi, Bool.false_and]
    exact Nat.testBit_lt_two_pow (Nat.lt_of_lt_of_le hm (Nat.pow_le_pow_right (by decide) (by omega)))
theorem pc8_p (x : Nat) : pc8 x = x / 2 ^ 0 % 2 + x / 2 ^ 1 % 2 + x / 2 ^ 2 % 2 + x / 2 ^ 3 % 2 + x / 2 ^ 4 % 2 + x / 2 ^ 5 % 2 + x / 2 ^ 6 % 2 + x / 2 ^ 7 % 2 := by
  rw [Nat.pow_zero, Nat.div_one]; rfl
theorem ct8 (f : Nat → Bool) {k n : Nat} (h : k + 8 ≤ n) : fb_ct f (k + 8) = fb_ct f k + pc8 (bsN f n / 2 ^ k % 2 ^ 8) := by
  have b : ∀ j, j < 8 → (bsN f n / 2 ^ k % 2 ^ 8) / 2 ^ j % 2 = if f (k + j) then 1 else 0 := by
    intro j hj
    rw [bit_eq, Nat.testBit_mod_two_pow, Nat.testBit_div_two_pow, bs_tb, Nat.add_comm j k, decide_eq_true hj, decide_eq_true (show k + j < n by omega), Bool.true_and, Bool.true_and]
    cases f (k + j) <;> rfl
  rw [pc8_p, b 0 (by decide), b 1 (by decide), b 2 (by decide), b 3 (by decide), b 4 (by decide), b 5 (by decide), b 6 (by decide), b 7 (by decide)]
  show fb_ct f k + _ + _ + _ + _ + _ + _ + _ + _ = _
  simp only [Nat.add_assoc]
  rfl
theorem pcB_ct (f : Nat → Bool) : pcB (bsN f 48) = fb_ct f 48 := by
  have h0 := ct8 f (k := 0) (n := 48) (by decide)
  have h1 := ct8 f (k := 8) (n := 48) (by decide)
  have h2 := ct8 f (k := 16) (n := 48) (by decide)
  have h3 := ct8 f (k := 24) (n := 48) (by decide)
  have h4 := ct8 f (k := 32) (n := 48) (by decide)
  have h5 := ct8 f (k := 40) (n := 48) (by decide)
  rw [show 40 + 8 = 48 from rfl, show (40 : Nat) = 32 + 8 from rfl, h4, show (32 : Nat) = 24 + 8 from rfl, h3, show (24 : Nat) = 16 + 8 from rfl, h2, show (16 : Nat) = 8 + 8 from rfl, h1, show (8 : Nat) = 0 + 8 from rfl, h0] at h5
  rw [h5]
  unfold pcB
  have z : fb_ct f 0 = 0 := rfl
  rw [z, Nat.pow_zero, Nat.div_one, Nat.zero_add]
theorem pc8_ct (f : Nat → Bool) {n : Nat} (h : n ≤ 8) : pc8 (bsN f n) = fb_ct f n := by
  have h0 : fb_ct (fun i => decide (i < n) && f i) 8 = fb_ct (fun i => decide (i < n) && f i) 0 + pc8 (bsN (fun i => decide (i < n) && f i) 8 / 2 ^ 0 % 2 ^ 8) := ct8 (fun i => decide (i < n) && f i) (k := 0) (n := 8) (by decide)
  have e : bsN (fun i => decide (i < n) && f i) 8 = bsN f n := by
    apply Nat.eq_of_testBit_eq
    intro i
    rw [bs_tb, bs_tb]
    by_cases hi : i < n
    · rw [decide_eq_true hi, decide_eq_true (show i < 8 by omega)]; rfl
    · rw [decide_eq_false hi]; simp
  have l := bsN_small (f := f) h
  rw [e, Nat.pow_zero, Nat.div_one, Nat.mod_eq_of_lt l, show fb_ct (fun i => decide (i < n) && f i) 0 = 0 from rfl, Nat.zero_add] at h0
  rw [← h0, show (8 : Nat) = n + (8 - n) by omega, fb_ct_split]
  rw [fb_ct_cong (p := fun i => decide (i < n) && f i) (q := f) (n := n) (fun k hk => by simp [hk])]
  have : fb_ct (fun k => decide (n + k < n) && f (n + k)) (8 - n) = 0 := fb_ct_zero.mpr (fun k hk => by rw [decide_eq_false (show ¬ n + k < n by omega)]; rfl)
  rw [this, Nat.add_zero]
theorem w_size {d : Nat} {M : Mm} {f : Nat → Bool} {K : Int32 → Mm → Prop} (h2 : M.2 34 2 = lN (bsN f 48)) (h : K (nI (fb_ct f 48)) M) : ACi (d + 2) X7_size [.ref 34] M K := by
  refine w_X7_size ?_
  rw [h2]
  refine w_bc64 (bsN_lt f 48) ?_
  rw [pcB_ct]
  exact h
/-! bits of longs -/
theorem bitL : ∀ p, p < 62 → (1 : Int64) <<< ((nI p).toInt64 &&& 63) = lN (2 ^ p) := by decide +kernel
theorem bsL (f : Nat → Bool) : bsN f 48 < 281474976710656 := bsN_lt f 48
theorem p48 {p : Nat} (h : p < 48) : 2 ^ p < 281474976710656 := (show 2 ^ p < 2 ^ 48 from Nat.pow_lt_pow_right (by decide) h)
theorem bs_orL {f g : Nat → Bool} {m : Nat} (hm : m < 281474976710656) (h : ∀ i, i < 48 → (f i || m.testBit i) = g i) : lN (bsN f 48) ||| lN m = lN (bsN g 48) := by
  rw [fb_orL]
  congr 1
  refine bs_ext (Nat.or_lt_two_pow (n := 48) (bsN_lt f 48) hm) (fun i hi => ?_)
  rw [Nat.testBit_or, bs_tb, decide_eq_true hi, Bool.true_and]
  exact h i hi
theorem bs_andL {f g : Nat → Bool} {m : Nat} (h : ∀ i, i < 48 → (f i && m.testBit i) = g i) : lN (bsN f 48) &&& lN m = lN (bsN g 48) := by
  rw [fb_andL]
  congr 1
  refine bs_ext (Nat.lt_of_le_of_lt Nat.and_le_left (bsN_lt f 48)) (fun i hi => ?_)
  rw [Nat.testBit_and, bs_tb, decide_eq_true hi, Bool.true_and]
  exact h i hi
theorem bs_xorL {f g : Nat → Bool} {m : Nat} (hm : m < 281474976710656) (h : ∀ i, i < 48 → (f i ^^ m.testBit i) = g i) : lN (bsN f 48) ^^^ lN m = lN (bsN g 48) := by
  rw [fb_xorL]
  congr 1
  refine bs_ext (Nat.xor_lt_two_pow (n := 48) (bsN_lt f 48) hm) (fun i hi => ?_)
  rw [Nat.testBit_xor, bs_tb, decide_eq_true hi, Bool.true_and]
  exact h i hi
theorem tb2 (p i : Nat) : (2 ^ p).testBit i = decide (i = p) := by
  rw [Nat.testBit_two_pow]
  by_cases e : p = i
  · subst e; simp
  · rw [decide_eq_false e, decide_eq_false (fun z => e z.symm)]
theorem bs_tst {f : Nat → Bool} {p : Nat} (hp : p < 48) : lg_cmp (lN (bsN f 48) &&& lN (2 ^ p)) 0 = 0 ↔ f p = false := by
  rw [lgc_eq, fb_bitL (by omega), bs_tb, decide_eq_true hp, Bool.true_and]
theorem bs_shr {f : Nat → Bool} {p : Nat} (hp : p < 48) : lg_cmp ((lN (bsN f 48) >>> ((nI p).toInt64 &&& 63)) &&& 1) 1 = 0 ↔ f p = true := by
  have l := bsL f
  have sm : ∀ p, p < 48 → (((nI p).toInt64 &&& 63).toBitVec.smod 64).toNat = p := by decide +kernel
  rw [lgc_eq, pf_shr (sm p hp) (by omega), wb_a1 (Nat.lt_of_le_of_lt (Nat.div_le_self _ _) (by omega)), bsN_bit, show (1 : Int64) = lN 1 from rfl]
  cases q : f p with
  | true => rw [if_pos ⟨hp, rfl⟩]; simp
  | false => rw [if_neg (fun z => by simp at z)]; decide
theorem bs_z {f : Nat → Bool} : lN (bsN f 48) = 0 ↔ ∀ i, i < 48 → f i = false := by
  have l := bsL f
  rw [show (0 : Int64) = lN 0 from rfl, pk_lEQ (by omega) (by decide)]
  constructor
  · intro h i hi
    have := bs_tb f 48 i
    rw [h, Nat.zero_testBit, decide_eq_true hi, Bool.true_and] at this
    exact this.symm
  · intro h
    exact (bs_ext (f := f) (n := 48) (m := 0) (by decide) (fun i hi => by rw [Nat.zero_testBit, h i hi])).symm
