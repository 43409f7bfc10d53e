/-! SETS OF PAIRS: those seen from a place, those that flash; both sides. -/
def fsB (b sg nl : Nat) (pl : Nat → Nat) (bo : Nat → Option Nat) (q p : Nat) : Bool := decide (p / 8 < nl ∧ p % 8 < b ∧ (bo (p / 8)).isSome = true ∧ pl (p / 8) ≤ q + sg ∧ q ≤ pl (p / 8) + sg)
def ofB (b : Nat) (num : Nat → Nat) (s : Nat) : Option Nat → Bool
  | some r => decide (bitN b (num r) s = 1)
  | none => false
def flB (b nl : Nat) (num : Nat → Nat) (bo : Nat → Option Nat) (p : Nat) : Bool := decide (p / 8 < nl ∧ p % 8 < b) && ofB b num (p % 8) (bo (p / 8))
def accB (F : Nat → Bool) (k : Nat) (p : Nat) : Bool := decide (p / 8 < k) && F p
def accJ (F : Nat → Bool) (k j : Nat) (p : Nat) : Bool := decide (p / 8 < k ∨ (p / 8 = k ∧ p % 8 < j)) && F p
theorem acc_0 {F : Nat → Bool} : lN (bsN (accB F 0) 48) = 0 := bs_z.mpr (fun i _ => by unfold accB; simp)
theorem acc_n {F : Nat → Bool} {n : Nat} (h : ∀ i, i < 48 → F i = true → i / 8 < n) : bsN (accB F n) 48 = bsN F 48 := bsN_cong (fun i hi => by
  unfold accB
  cases q : F i with
  | false => simp
  | true => simp [h i hi q])
theorem acc_skip {F : Nat → Bool} {k : Nat} (h : ∀ i, i / 8 = k → F i = false) : bsN (accB F k) 48 = bsN (accB F (k + 1)) 48 := bsN_cong (fun i hi => by
  unfold accB
  by_cases e : i / 8 = k
  · rw [h i e]; simp
  · by_cases l : i / 8 < k
    · rw [decide_eq_true l, decide_eq_true (show i / 8 < k + 1 by omega)]
    · rw [decide_eq_false l, decide_eq_false (show ¬ i / 8 < k + 1 by omega)])
theorem accJ_0 {F : Nat → Bool} {k : Nat} : bsN (accB F k) 48 = bsN (accJ F k 0) 48 := bsN_cong (fun i hi => by
  unfold accB accJ
  by_cases l : i / 8 < k
  · rw [decide_eq_true l, decide_eq_true (Or.inl l)]
  · rw [decide_eq_false l, decide_eq_false (by omega)])
theorem accJ_n {F : Nat → Bool} {k b : Nat} (h : ∀ i, F i = true → i % 8 < b) : bsN (accJ F k b) 48 = bsN (accB F (k + 1)) 48 := bsN_cong (fun i hi => by
  unfold accB accJ
  cases q : F i with
  | false => simp
  | true =>
    have := h i q
    by_cases l : i / 8 < k + 1
    · rw [decide_eq_true l, decide_eq_true (by omega)]
    · rw [decide_eq_false l, decide_eq_false (by omega)])
theorem accJ_skip {F : Nat → Bool} {k j : Nat} (hj : j < 8) (h : F (8 * k + j) = false) : bsN (accJ F k j) 48 = bsN (accJ F k (j + 1)) 48 := bsN_cong (fun i hi => by
  unfold accJ
  by_cases e : i = 8 * k + j
  · rw [e, h]; simp
  · by_cases l : i / 8 < k ∨ (i / 8 = k ∧ i % 8 < j)
    · rw [decide_eq_true l, decide_eq_true (by omega)]
    · rw [decide_eq_false l, decide_eq_false (by omega)])
theorem accJ_or {F : Nat → Bool} {k j : Nat} (hj : j < 8) (hk : k < 6) (h : F (8 * k + j) = true) : lN (bsN (accJ F k j) 48) ||| lN (2 ^ (8 * k + j)) = lN (bsN (accJ F k (j + 1)) 48) := bs_orL (p48 (by omega)) (fun i hi => by
  rw [tb2]
  unfold accJ
  by_cases e : i = 8 * k + j
  · rw [e, h, decide_eq_true rfl, decide_eq_true (show (8 * k + j) / 8 < k ∨ ((8 * k + j) / 8 = k ∧ (8 * k + j) % 8 < j + 1) by omega)]; simp
  · rw [decide_eq_false e, Bool.or_false]
    by_cases l : i / 8 < k ∨ (i / 8 = k ∧ i % 8 < j)
    · rw [decide_eq_true l, decide_eq_true (by omega)]
    · rw [decide_eq_false l, decide_eq_false (by omega)])
theorem acc_row {F : Nat → Bool} {k b : Nat} (hb : b ≤ 8) (hk : k < 6) (h : ∀ i, i / 8 = k → (F i = true ↔ i % 8 < b)) : lN (bsN (accB F k) 48) ||| lN ((2 ^ b - 1) * 2 ^ (k * 8)) = lN (bsN (accB F (k + 1)) 48) := by
  refine bs_orL ?_ (fun i hi => ?_)
  · have h1 : 2 ^ b ≤ 256 := p2le hb
    have h2 : 2 ^ (k * 8) ≤ 2 ^ 40 := Nat.pow_le_pow_right (by decide) (by omega)
    have h3 : (2 ^ b - 1) * 2 ^ (k * 8) ≤ 255 * 2 ^ 40 := Nat.mul_le_mul (by omega) h2
    exact Nat.lt_of_le_of_lt h3 (by decide)
  · rw [Nat.mul_comm, Nat.testBit_two_pow_mul, Nat.testBit_two_pow_sub_one]
    unfold accB
    rw [Bool.eq_iff_iff]
    simp only [Bool.or_eq_true, Bool.and_eq_true, decide_eq_true_iff]
    by_cases e : i / 8 = k
    · have := h i e
      rw [this]
      omega
    · constructor
      · rintro (⟨a, c⟩ | ⟨a, c⟩)
        · exact ⟨by omega, c⟩
        · exact absurd a (by omega)
      · rintro ⟨a, c⟩
        exact Or.inl ⟨by omega, c⟩
section ST
variable {d : Nat} {M : Mm} {b w sg nr nl : Nat} {num pl : Nat → Nat} {bo : Nat → Option Nat}
theorem fs_row {q k : Nat} (hk : k < nl) (h1 : (bo k).isSome = true) (h2 : pl k ≤ q + sg ∧ q ≤ pl k + sg) : ∀ i, i / 8 = k → (fsB b sg nl pl bo q i = true ↔ i % 8 < b) := by
  intro i e
  unfold fsB
  rw [decide_eq_true_iff, e]
  exact ⟨fun z => z.2.1, fun z => ⟨hk, z, h1, h2⟩⟩
theorem fs_off {q k : Nat} (h : ¬ ((bo k).isSome = true ∧ pl k ≤ q + sg ∧ q ≤ pl k + sg)) : ∀ i, i / 8 = k → fsB b sg nl pl bo q i = false := by
  intro i e
  unfold fsB
  rw [e]
  exact decide_eq_false (fun z => h z.2.2)
theorem c_seenC {K : Int64 → Mm → Prop} {q : Nat} (hC : BkC M b w sg nr num) (hB : BkW b w sg nr num) (hL : LtC M nl pl bo) (hW : LtW nr nl pl bo) (hq : q ≤ 99) (h : K (lN (bsN (fsB b sg nl pl bo q) 48)) M) : ACl (d + 1) X2_pairsSeenFrom [.ref 13, .int (nI q), .ref 3] M K := by
  have hn := hW.1
  obtain ⟨w1, w2, w3, w4, w5, w6, w7, -⟩ := hB
  refine w_X2_pairsSeenFrom ?_
  rw [hC.1, bitL b (by omega), show (1 : Int64) = lN 1 from rfl, lN_sub (Nat.one_le_two_pow)]
  have key : ∀ (j k : Nat), k + j = nl → lp_X2_pairsSeenFrom_15 d M (nI q) (lN (2 ^ b - 1)) (lN (bsN (accB (fsB b sg nl pl bo q) k) 48)) (nI k) K := by
    intro j
    induction j with
    | zero =>
      intro k hk
      have : k = nl := by omega
      subst this
      refine z_X2_pairsSeenFrom_15 ?_
      rw [hL.1, acc_n (fun i _ z => by unfold fsB at z; exact (of_decide_eq_true z).1)]
      exact ⟨fun _ => h, fun c => absurd (nI_le (by omega) (by omega)) c⟩
    | succ j ih =>
      intro k hk
      have st := ih (k + 1) (by omega)
      refine z_X2_pairsSeenFrom_15 ?_
      rw [hL.1, hC.2.2.1, nI_1, nI_clamp (by omega), (hL.2 k (by omega)).1, (hL.2 k (by omega)).2, oi_none (fun r hr => by have := (hW.2 k (by omega)).2 r hr; omega), absI (hW.2 k (by omega)).1 hq w6]
      refine ⟨fun c => absurd c (nI_ge (by omega) (by omega)), fun _ => ⟨vp_in_nI (by omega) (by decide), fun c => ?_, fun c => ⟨vp_in_nI (by omega) (by decide), fun c2 => ?_, fun c2 => ?_⟩⟩⟩
      · rw [acc_skip (fs_off (fun z => by rw [c] at z; exact absurd z.1 (by decide)))]; exact st
      · rw [acc_skip (fs_off (fun z => c2 z.2))]; exact st
      · rw [show nI k * 8 = nI (k * 8) from pk_mul k 8, wb_shl _ (by omega), acc_row w2 (by omega) (fs_row (by omega) (Option.isSome_iff_ne_none.mpr c) (Classical.not_not.mp c2))]
        exact st
  have := key nl 0 (by omega)
  rw [acc_0] at this
  exact this
theorem c_firstM {K : Int64 → Mm → Prop} {q : Nat} (hM : BkM M b w sg nr num) (hB : BkW b w sg nr num) (hL : LtM M nl pl bo) (hW : LtW nr nl pl bo) (hq : q ≤ 99) (h : K (lN (bsN (fsB b sg nl pl bo q) 48)) M) : ACl (d + 2) X9_firstSet [.ref 42, .int (nI q)] M K := by
  have hn := hW.1
  obtain ⟨w1, w2, w3, w4, w5, w6, w7, -⟩ := hB
  have e6 : ∀ n : Nat, (6 : Int32) + nI n = nI (6 + n) := fun n => nI_add 6 n
  have fb : ∀ i, fsB b sg nl pl bo q i = true → i % 8 < b := fun i z => by unfold fsB at z; exact (of_decide_eq_true z).2.1
  refine w_X9_firstSet ?_
  have key : ∀ (j k : Nat), k + j = nl → lp_X9_firstSet_5 (d + 1) M (nI q) (lN (bsN (accB (fsB b sg nl pl bo q) k) 48)) (nI k) K := by
    intro j
    induction j with
    | zero =>
      intro k hk
      have : k = nl := by omega
      subst this
      refine z_X9_firstSet_5 ?_
      rw [hL.1, acc_n (fun i _ z => by unfold fsB at z; exact (of_decide_eq_true z).1)]
      exact ⟨fun _ => h, fun c => absurd (nI_le (by omega) (by omega)) c⟩
    | succ j ih =>
      intro k hk
      have st := ih (k + 1) (by omega)
      have hpk := (hW.2 k (by omega)).1
      have ex : (nI (pl k) - nI q).toInt = (pl k : Int) - q := pk_sub_toInt (by omega) (by omega)
      have e1 : (-(nI sg)).toInt64.toInt = -(sg : Int) := by rw [Int32.toInt_toInt64, fb_negI (by rw [tN (by omega)]; omega), tN (by omega)]
      have e2 : (nI sg).toInt64.toInt = (sg : Int) := by rw [Int32.toInt_toInt64, tN (by omega)]
      refine z_X9_firstSet_5 ?_
      rw [hL.1, hM.2.2.1, nI_1, z0, e6, nI_clamp (by omega), nI_clamp (by omega), (hL.2 k (by omega)).1, (hL.2 k (by omega)).2, oi_none (fun r hr => by have := (hW.2 k (by omega)).2 r hr; omega)]
      refine ⟨fun c => absurd c (nI_ge (by omega) (by omega)), fun _ => ⟨vp_in_nI (by omega) (by decide), fun c => ?_, fun c => ⟨vp_in_nI (by omega) (by decide), c_in (l := -(sg : Int)) (u := sg) e1 e2 (fun a c2 => ⟨fun z => absurd z (by decide), fun _ => ?_⟩) (fun a => ⟨fun _ => ?_, fun z => absurd rfl z⟩)⟩⟩⟩
      · rw [acc_skip (fs_off (fun z => by rw [c] at z; exact absurd z.1 (by decide)))]; exact st
      · rw [ex] at a c2
        have row := fs_row (b := b) (sg := sg) (nl := nl) (pl := pl) (bo := bo) (q := q) (k := k) (by omega) (Option.isSome_iff_ne_none.mpr c) (by omega)
        rw [accJ_0]
        have inner : ∀ (j2 s : Nat), s + j2 = b → lp_X9_firstSet_60 (d + 1) M (nI q) (lN (bsN (accJ (fsB b sg nl pl bo q) k s) 48)) (nI k) (nI s) K := by
          intro j2
          induction j2 with
          | zero =>
            intro s hs
            have : s = b := by omega
            subst this
            refine z_X9_firstSet_60 ?_
            rw [hM.1, nI_1, accJ_n fb]
            exact ⟨fun _ => st, fun c => absurd (nI_le (by omega) (by omega)) c⟩
          | succ j2 ih2 =>
            intro s hs
            refine z_X9_firstSet_60 ?_
            rw [hM.1, nI_1 s, show (8 : Int32) * nI k = nI (8 * k) from pk_mul 8 k, nI_add, bitL _ (by omega), accJ_or (by omega) (by omega) ((row _ (by omega)).mpr (by omega))]
            exact ⟨fun c => absurd c (nI_ge (by omega) (by omega)), fun _ => ih2 (s + 1) (by omega)⟩
        exact inner b 0 (by omega)
      · rw [ex] at a
        rw [acc_skip (fs_off (fun z => by omega))]; exact st
  have := key nl 0 (by omega)
  rw [acc_0] at this
  exact this
theorem fl_at {k s : Nat} (hk : k < nl) (hs : s < b) (hb : b ≤ 8) : flB b nl num bo (8 * k + s) = ofB b num s (bo k) := by
  unfold flB
  rw [show (8 * k + s) / 8 = k by omega, show (8 * k + s) % 8 = s by omega, decide_eq_true ⟨hk, hs⟩, Bool.true_and]
theorem c_hasFlash {K : Int32 → Mm → Prop} {o : Option Nat} {s : Nat} (hC : BkC M b w sg nr num) (hB : BkW b w sg nr num) (ho : ∀ r, o = some r → r < nr) (hs : s < b) (h1 : ofB b num s o = true → K 1 M) (h0 : ofB b num s o = false → K 0 M) : ACi (d + 2) X0_hasFlash [.ref 3, .int (oi o), .int (nI s)] M K := by
  have hB0 := hB
  obtain ⟨w1, w2, w3, w4, w5, w6, w7, -⟩ := hB
  refine w_X0_hasFlash (c_hasRhythm hC hB0 (fun r hr e => ⟨fun z => absurd z (by decide), fun _ => ?_⟩) (fun z => ⟨fun _ => h0 ?_, fun z => absurd rfl z⟩))
  · have e2 : o = some r := by
      cases o with
      | none => exact absurd ((oi_none (o := some r) (fun r' hr' => by cases hr'; omega)).mp e.symm) (by simp)
      | some r' => have := ho r' rfl; rw [(nI_eq (by omega) (by omega)).mp e]
    subst e2
    have hn := hB0.n hr
    have e1 : nI b - 1 = nI (b - 1) := by rw [show (1 : Int32) = nI 1 from rfl, pk_sub (by omega)]
    have eb : bitN b (num r) s = num r / 2 ^ (b - 1 - s) % 2 := by unfold bitN; rw [Nat.mod_eq_of_lt hs]
    have m2 := Nat.mod_lt (num r / 2 ^ (b - 1 - s)) (show 2 > 0 by decide)
    refine ⟨by rw [e]; exact vp_in_nI (by omega) (by decide), ?_⟩
    rw [e, nI_clamp (by omega), hC.2.2.2.2 r hr, hC.1, e1, pk_sub (by omega), shr1 (by omega) (by omega), show (1 : Int32) = nI 1 from rfl, nI_eq (by omega) (by decide)]
    exact ⟨fun c => h0 (decide_eq_false (by rw [eb]; exact c)), fun c => h1 (decide_eq_true (by rw [eb]; exact c))⟩
  · cases o with
    | none => rfl
    | some r => exact absurd rfl (z r (ho r rfl))
theorem c_flashC {K : Int64 → Mm → Prop} (hC : BkC M b w sg nr num) (hB : BkW b w sg nr num) (hL : LtC M nl pl bo) (hW : LtW nr nl pl bo) (h : K (lN (bsN (flB b nl num bo) 48)) M) : ACl (d + 3) X2_pairsThatFlash [.ref 13, .ref 3] M K := by
  have hn := hW.1
  have hB0 := hB
  obtain ⟨w1, w2, w3, w4, w5, w6, w7, -⟩ := hB
  have fz : ∀ i, flB b nl num bo i = true → i / 8 < nl ∧ i % 8 < b := fun i z => by
    unfold flB at z
    rw [Bool.and_eq_true, decide_eq_true_iff] at z
    exact z.1
  refine w_X2_pairsThatFlash ?_
  have key : ∀ (j k : Nat), k + j = nl → lp_X2_pairsThatFlash_5 (d + 2) M (lN (bsN (accB (flB b nl num bo) k) 48)) (nI k) K := by
    intro j
    induction j with
    | zero =>
      intro k hk
      have : k = nl := by omega
      subst this
      refine z_X2_pairsThatFlash_5 ?_
      rw [hL.1, acc_n (fun i _ z => (fz i z).1)]
      exact ⟨fun _ => h, fun c => absurd (nI_le (by omega) (by omega)) c⟩
    | succ j ih =>
      intro k hk
      have st := ih (k + 1) (by omega)
      refine z_X2_pairsThatFlash_5 ?_
      rw [hL.1, accJ_0]
      refine ⟨fun c => absurd c (nI_ge (by omega) (by omega)), fun _ => ?_⟩
      have inner : ∀ (j2 s : Nat), s + j2 = b → lp_X2_pairsThatFlash_17 (d + 2) M (lN (bsN (accJ (flB b nl num bo) k s) 48)) (nI k) (nI s) K := by
        intro j2
        induction j2 with
        | zero =>
          intro s hs
          have : s = b := by omega
          subst this
          refine z_X2_pairsThatFlash_17 ?_
          rw [hC.1, nI_1, accJ_n (fun i z => (fz i z).2)]
          exact ⟨fun _ => st, fun c => absurd (nI_le (by omega) (by omega)) c⟩
        | succ j2 ih2 =>
          intro s hs
          have st2 := ih2 (s + 1) (by omega)
          refine z_X2_pairsThatFlash_17 ?_
          rw [hC.1, nI_1 s, nI_clamp (by omega), (hL.2 k (by omega)).2]
          refine ⟨fun c => absurd c (nI_ge (by omega) (by omega)), fun _ => ⟨vp_in_nI (by omega) (by decide), c_hasFlash hC hB0 (hW.2 k (by omega)).2 (by omega) (fun q => ⟨fun z => absurd z (by decide), fun _ => ?_⟩) (fun q => ⟨fun _ => ?_, fun z => absurd rfl z⟩)⟩⟩
          · rw [show nI k * 8 = nI (8 * k) by rw [Nat.mul_comm]; exact pk_mul k 8, nI_add, bitL _ (by omega), accJ_or (k := k) (j := s) (by omega) (by omega) ((fl_at (by omega) (by omega) w2).trans q)]
            exact st2
          · rw [accJ_skip (k := k) (j := s) (by omega) ((fl_at (by omega) (by omega) w2).trans q)]
            exact st2
      exact inner b 0 (by omega)
  have := key nl 0 (by omega)
  rw [acc_0] at this
  exact this
end ST
