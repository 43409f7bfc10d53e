/-! MACHINE: the sets behind a beat; both sides. -/
def pv (b p : Nat) : Nat := 8 * (p / 8) + (p % 8 + b - 1) % b
def nx (b : Nat) (G : Nat → Bool) (be : Bool) (f : Nat → Bool) (p : Nat) : Bool := decide (p % 8 < b) && (f (pv b p) && (G (pv b p) == be))
def nxN (b : Nat) (G : Nat → Bool) (be : Bool) (x : Nat) : Nat := bsN (nx b G be x.testBit) 48
def LSb (b p : Nat) : Bool := decide (p % 8 = b - 1)
theorem nxN_lt {b : Nat} {G : Nat → Bool} {be : Bool} {x : Nat} : nxN b G be x < 281474976710656 := bsN_lt _ 48
theorem bs_id {x : Nat} (h : x < 281474976710656) : bsN x.testBit 48 = x := (bs_ext (n := 48) h (fun _ _ => rfl)).symm
theorem pv_a {b y : Nat} (h : y < b) : ((y + 1) % b + b - 1) % b = y := by
  rw [show (y + 1) % b + b - 1 = (y + 1) % b + (b - 1) by omega, Nat.mod_add_mod, show y + 1 + (b - 1) = y + b by omega, Nat.add_mod_right, Nat.mod_eq_of_lt h]
theorem pv_b {b y : Nat} (h : y < b) : ((y + b - 1) % b + 1) % b = y := by
  rw [Nat.mod_add_mod, show y + b - 1 + 1 = y + b by omega, Nat.add_mod_right, Nat.mod_eq_of_lt h]
theorem pv_0 {b : Nat} (h : 0 < b) : (0 + b - 1) % b = b - 1 := by rw [Nat.zero_add, Nat.mod_eq_of_lt (by omega)]
theorem pv_s {b y : Nat} (h0 : 0 < y) (h : y < b) : (y + b - 1) % b = y - 1 := by
  rw [show y + b - 1 = (y - 1) + b by omega, Nat.add_mod_right, Nat.mod_eq_of_lt (by omega)]
def MchC (M : Mm) (b : Nat) (G : Nat → Bool) : Prop := M.1 31 3 = nI b ∧ M.2 31 5 = lN (bsN G 48) ∧ M.2 31 6 = lN (bsN (LSb b) 48)
theorem behindN {b x : Nat} {G f1 : Nat → Bool} {be : Bool} (hb0 : 0 < b) (hb : b ≤ 8) (hf : ∀ i, i < 48 → f1 i = (x.testBit i && (G i == be))) (hw : ∀ i, i < 48 → x.testBit i = true → i % 8 < b) : ((lN (bsN f1 48) ^^^ (lN (bsN f1 48) &&& lN (bsN (LSb b) 48))) <<< ((1 : Int32).toInt64 &&& 63)) ||| (((lN (bsN f1 48) &&& lN (bsN (LSb b) 48)).toUInt64 >>> ((nI b - 1).toInt64.toUInt64 &&& Int64.toUInt64 63)).toInt64) = lN (nxN b G be x) := by
  have fw : ∀ i, i < 48 → f1 i = true → i % 8 < b := fun i hi z => hw i hi (by rw [hf i hi, Bool.and_eq_true] at z; exact z.1)
  have e1 : lN (bsN f1 48) &&& lN (bsN (LSb b) 48) = lN (bsN (fun i => f1 i && LSb b i) 48) := bs_andL (fun i hi => by rw [bs_tb, decide_eq_true hi, Bool.true_and])
  have e2 : lN (bsN f1 48) ^^^ lN (bsN (fun i => f1 i && LSb b i) 48) = lN (bsN (fun i => f1 i && !LSb b i) 48) := bs_xorL (bsL _) (fun i hi => by
    rw [bs_tb, decide_eq_true hi, Bool.true_and]
    cases f1 i <;> cases LSb b i <;> rfl)
  have h47 : bsN (fun i => f1 i && !LSb b i) 48 < 140737488355328 := by
    have e : bsN (fun i => f1 i && !LSb b i) 48 = bsN (fun i => f1 i && !LSb b i) 47 + (if (f1 47 && !LSb b 47) = true then 2 ^ 47 else 0) := rfl
    have z : (f1 47 && !LSb b 47) = false := by
      cases q : f1 47 with
      | false => rfl
      | true =>
        have := fw 47 (by decide) q
        unfold LSb
        rw [decide_eq_true (show 47 % 8 = b - 1 by omega)]
        rfl
    rw [e, z, if_neg (by decide), Nat.add_zero]
    exact bsN_lt _ 47
  have lb := bsL (fun i => f1 i && LSb b i)
  rw [e1, e2, show (1 : Int32) = nI 1 from rfl, wb_shl _ (by decide), pk_sub (by omega), wb_shr (by omega) (by omega), fb_orL]
  congr 1
  have ld := Nat.div_le_self (bsN (fun i => f1 i && LSb b i) 48) (2 ^ (b - 1))
  refine bs_ext (Nat.or_lt_two_pow (n := 48) (by omega) (by omega)) (fun i hi => ?_)
  rw [Nat.testBit_or, Nat.testBit_div_two_pow, Nat.mul_comm, Nat.testBit_two_pow_mul, bs_tb, bs_tb]
  unfold nx
  rw [Bool.eq_iff_iff]
  by_cases c0 : i % 8 = 0
  · have pe : pv b i = i + (b - 1) := by unfold pv; rw [c0, pv_0 hb0]; omega
    have l1 : LSb b (i + (b - 1)) = true := decide_eq_true (by omega)
    have k1 : i + (b - 1) < 48 := by omega
    have z : ∀ z : 1 ≤ i, (f1 (i - 1) && !LSb b (i - 1)) = false := by
      intro z
      cases q : f1 (i - 1) with
      | false => rfl
      | true =>
        have := fw (i - 1) (by omega) q
        rw [show LSb b (i - 1) = true from decide_eq_true (by omega)]
        rfl
    rw [pe, l1, hf _ k1, decide_eq_true (show i % 8 < b by omega), decide_eq_true k1, Bool.true_and, Bool.true_and, Bool.and_true]
    simp only [Bool.or_eq_true, Bool.and_eq_true, decide_eq_true_iff]
    constructor
    · rintro (⟨a1, a2, a3⟩ | a)
      · rw [← Bool.and_eq_true, z a1] at a3
        exact absurd a3 (by decide)
      · exact a
    · exact fun a => Or.inr a
  · have l2 : LSb b (i + (b - 1)) = false := decide_eq_false (by omega)
    rw [l2, Bool.and_false, Bool.and_false, Bool.or_false]
    by_cases c1 : i % 8 < b
    · have pe : pv b i = i - 1 := by unfold pv; rw [pv_s (by omega) c1]; omega
      rw [pe, decide_eq_true c1, decide_eq_true (show i ≥ 1 by omega), decide_eq_true (show i - 1 < 48 by omega), show LSb b (i - 1) = false from decide_eq_false (by omega), hf _ (by omega)]
      simp
    · rw [decide_eq_false c1]
      have z : (f1 (i - 1) && !LSb b (i - 1)) = false := by
        cases q : f1 (i - 1) with
        | false => rfl
        | true =>
          have := fw (i - 1) (by omega) q
          rw [show LSb b (i - 1) = true from decide_eq_true (by omega)]
          rfl
      rw [z]
      simp
section MC
variable {d : Nat} {M : Mm} {b w sg nr nl : Nat} {num pl : Nat → Nat} {bo : Nat → Option Nat} {G : Nat → Bool} {be : Bool} {x : Nat}
theorem c_behind {K : Int64 → Mm → Prop} (hm : MchC M b G) (hb0 : 0 < b) (hb : b ≤ 8) (hx : x < 281474976710656) (hw : ∀ i, i < 48 → x.testBit i = true → i % 8 < b) (h : K (lN (nxN b G be x)) M) : ACl (d + 1) X3_behind [.ref 31, .long (lN x), .int (if be then 1 else 0)] M K := by
  refine w_X3_behind ?_
  obtain ⟨m1, m2, m3⟩ := hm
  have lg := bsL G
  rw [m1, m2, m3]
  have a1 : lN x &&& lN (bsN G 48) = lN (bsN (fun i => x.testBit i && (G i == true)) 48) := by
    rw [← bs_id hx]
    exact bs_andL (fun i hi => by rw [bs_tb, bs_id hx, decide_eq_true hi, Bool.true_and]; simp)
  have a0 : lN x &&& (lN (bsN G 48) ^^^ (-1)) = lN (bsN (fun i => x.testBit i && (G i == false)) 48) := by
    rw [← bs_id hx, show (-1 : Int64) = lN (2 ^ 64 - 1) by decide, fb_xorL]
    exact bs_andL (fun i hi => by
      rw [Nat.testBit_xor, bs_tb, bs_id hx, decide_eq_true hi, Bool.true_and, Nat.testBit_two_pow_sub_one, decide_eq_true (show i < 64 by omega)]
      cases G i <;> simp)
  cases be with
  | true =>
    refine ⟨fun z => absurd rfl z, fun _ => ?_⟩
    rw [a1, behindN (x := x) (be := true) hb0 hb (fun i _ => rfl) hw]
    exact h
  | false =>
    refine ⟨fun _ => ?_, fun z => absurd z (by decide)⟩
    rw [a0, behindN (x := x) (be := false) hb0 hb (fun i _ => rfl) hw]
    exact h
noncomputable def nxK (b : Nat) (G : Nat → Bool) (be : Bool) (x k p : Nat) : Bool := @decide (∃ i, i < k ∧ x.testBit i = true ∧ G i = be ∧ p = 8 * (i / 8) + (i % 8 + 1) % b) (Classical.propDecidable _)
theorem nxK_t {k p : Nat} : nxK b G be x k p = true ↔ ∃ i, i < k ∧ x.testBit i = true ∧ G i = be ∧ p = 8 * (i / 8) + (i % 8 + 1) % b := by unfold nxK; exact @decide_eq_true_iff _ (Classical.propDecidable _)
theorem nxK_s {k p : Nat} : nxK b G be x (k + 1) p = (nxK b G be x k p || (x.testBit k && decide (G k = be) && decide (p = 8 * (k / 8) + (k % 8 + 1) % b))) := by
  rw [Bool.eq_iff_iff, Bool.or_eq_true, Bool.and_eq_true, Bool.and_eq_true, nxK_t, nxK_t, decide_eq_true_iff, decide_eq_true_iff]
  constructor
  · rintro ⟨i, h1, h2, h3, h4⟩
    by_cases e : i = k
    · subst e; exact Or.inr ⟨⟨h2, h3⟩, h4⟩
    · exact Or.inl ⟨i, by omega, h2, h3, h4⟩
  · rintro (⟨i, h1, h2, h3, h4⟩ | ⟨⟨h1, h2⟩, h3⟩)
    · exact ⟨i, by omega, h2, h3, h4⟩
    · exact ⟨k, by omega, h1, h2, h3⟩
theorem nxK_0 : lN (bsN (nxK b G be x 0) 48) = 0 := bs_z.mpr (fun i _ => by
  cases q : nxK b G be x 0 i with
  | false => rfl
  | true => obtain ⟨i, h, _⟩ := nxK_t.mp q; exact absurd h (by omega))
theorem nxK_n (hb0 : 0 < b) (hb : b ≤ 8) (hw : ∀ i, i < 48 → x.testBit i = true → i % 8 < b) : bsN (nxK b G be x 48) 48 = nxN b G be x := bsN_cong (fun p hp => by
  unfold nx
  rw [Bool.eq_iff_iff, nxK_t, Bool.and_eq_true, Bool.and_eq_true, decide_eq_true_iff, beq_iff_eq]
  constructor
  · rintro ⟨i, h1, h2, h3, h4⟩
    have hi := hw i h1 h2
    have hm := Nat.mod_lt (i % 8 + 1) (show b > 0 from hb0)
    have p8 : p % 8 = (i % 8 + 1) % b := by omega
    have pd : p / 8 = i / 8 := by omega
    have pe : pv b p = i := by
      unfold pv
      rw [p8, pd, pv_a hi]
      omega
    rw [pe]
    exact ⟨by omega, h2, h3⟩
  · rintro ⟨h1, h2, h3⟩
    have hm := Nat.mod_lt (p % 8 + b - 1) (show b > 0 from hb0)
    have q8 : pv b p % 8 = (p % 8 + b - 1) % b := by unfold pv; omega
    have qd : pv b p / 8 = p / 8 := by unfold pv; omega
    refine ⟨pv b p, by unfold pv; omega, h2, h3, ?_⟩
    rw [q8, qd, pv_b h1]
    omega)
theorem c_becomes {K : Int64 → Mm → Prop} (hM : BkM M b w sg nr num) (hB : BkW b w sg nr num) (hL : LtM M nl pl bo) (hW : LtW nr nl pl bo) (hx : x < 281474976710656) (hw : ∀ i, i < 48 → x.testBit i = true → i / 8 < nl ∧ i % 8 < b ∧ (bo (i / 8)).isSome = true) (h : K (lN (nxN b (flB b nl num bo) be x)) M) : ACl (d + 2) X9_becomes [.ref 42, .long (lN x), .int (if be then 1 else 0)] M K := by
  have hn := hW.1
  have hB0 := hB
  obtain ⟨w1, w2, w3, w4, w5, w6, w7, -⟩ := hB
  have e6 : ∀ n : Nat, (6 : Int32) + nI n = nI (6 + n) := fun n => nI_add 6 n
  refine w_X9_becomes ?_
  have key : ∀ (j k : Nat), k + j = 48 → lp_X9_becomes_6 (d + 1) M (lN x) (if be then 1 else 0) (lN (bsN (nxK b (flB b nl num bo) be x k) 48)) (nI k) K := by
    intro j
    induction j with
    | zero =>
      intro k hk
      have : k = 48 := by omega
      subst this
      rw [nxK_n (by omega) w2 (fun i hi z => (hw i hi z).2.1)]
      exact z_X9_becomes_6 ⟨fun _ => h, fun c => absurd (by decide) c⟩
    | succ j ih =>
      intro k hk
      have hk48 : k < 48 := by omega
      have st := ih (k + 1) (by omega)
      have skip : (x.testBit k = false ∨ flB b nl num bo k ≠ be) → lp_X9_becomes_6 (d + 1) M (lN x) (if be then 1 else 0) (lN (bsN (nxK b (flB b nl num bo) be x k) 48)) (nI (k + 1)) K := by
        intro z
        rw [bsN_cong (f := nxK b (flB b nl num bo) be x k) (g := nxK b (flB b nl num bo) be x (k + 1)) (fun p _ => by
          rw [nxK_s]
          rcases z with z | z
          · rw [z]; simp
          · rw [decide_eq_false z]; simp)]
        exact st
      refine z_X9_becomes_6 ⟨fun c => absurd c (nI_ge (b := 48) (by omega) (by omega)), fun _ => ?_⟩
      have et : lg_cmp ((lN x >>> ((nI k).toInt64 &&& 63)) &&& 1) 1 = 0 ↔ x.testBit k = true := by
        have := bs_shr (f := x.testBit) hk48
        rw [bs_id hx] at this
        exact this
      rw [et, nI_1 k]
      refine ⟨fun c => skip (Or.inl (by cases q : x.testBit k with
        | false => rfl
        | true => exact absurd q c)), fun c => ?_⟩
      obtain ⟨q1, q2, q3⟩ := hw k hk48 c
      obtain ⟨r, hr⟩ := Option.isSome_iff_exists.mp q3
      have hrn := (hW.2 (k / 8) q1).2 r hr
      have ow := owB_at (T := 0) (num := num) w2 (by omega) q1 hr
      rw [Nat.add_zero, Nat.mod_eq_of_lt q2] at ow
      have og : owB b 0 (flB b nl num bo) k = flB b nl num bo k := by
        unfold owB
        rw [Nat.add_zero, Nat.mod_eq_of_lt q2, show 8 * (k / 8) + k % 8 = k by omega]
      rw [og] at ow
      rw [rem8 (by omega), div8 (by omega), e6, nI_clamp (n := 6 + k / 8) (by omega), (hL.2 (k / 8) q1).2, hr]
      refine ⟨vp_in_nI (by omega) (by decide), c_beatOf hM hB0 hrn (by omega) ?_⟩
      rw [ow, hM.1]
      have hm := Nat.mod_lt (k % 8 + 1) (show b > 0 by omega)
      refine ⟨fun c2 => skip (Or.inr (fun z => c2 (by rw [z]))), fun c2 => ⟨nI_ne0 (by omega) (by omega), ?_⟩⟩
      have eq : flB b nl num bo k = be := by
        revert c2
        cases flB b nl num bo k <;> cases be <;> decide
      rw [nI_1, pk_rem (by omega) (by omega) (by omega), show (8 : Int32) * nI (k / 8) = nI (8 * (k / 8)) from pk_mul 8 _, nI_add, bitL _ (by omega), bs_orL (g := nxK b (flB b nl num bo) be x (k + 1)) (p48 (by omega)) (fun i _ => by
        rw [tb2, nxK_s, c, decide_eq_true eq]
        simp)]
      exact st
  have := key 48 0 (by omega)
  rw [nxK_0] at this
  exact this
end MC
