/-! LIKE and WEAK, both sides. -/
def lkP (b u n1 n2 s : Nat) : Prop := ∃ i, i < b ∧ ∃ j, j < b ∧ pc8 (rowN b n1 i u ^^^ rowN b n2 j u) ≤ s
noncomputable def lkB (b u n1 n2 s : Nat) : Bool := @decide (lkP b u n1 n2 s) (Classical.propDecidable _)
theorem lkB_t {b u n1 n2 s : Nat} : lkB b u n1 n2 s = true ↔ lkP b u n1 n2 s := by unfold lkB; exact @decide_eq_true_iff _ (Classical.propDecidable _)
theorem lkB_f {b u n1 n2 s : Nat} : lkB b u n1 n2 s = false ↔ ¬ lkP b u n1 n2 s := by rw [← lkB_t]; simp
theorem xor256 {a c : Nat} (ha : a < 256) (hc : c < 256) : a ^^^ c < 256 := Nat.xor_lt_two_pow (n := 8) ha hc
theorem pc0 : ∀ x, x < 256 → (pc8 x ≤ 0 ↔ x = 0) := by decide +kernel
def dimB (a c : Nat) : Bool := (c &&& (a ^^^ 255)) == 0 && ((a &&& (c ^^^ 255)) == 0 || ((a &&& (c ^^^ 255)) &&& ((a &&& (c ^^^ 255)) - 1)) == 0)
theorem bit_eq (n i : Nat) : n / 2 ^ i % 2 = (n.testBit i).toNat := (Nat.toNat_testBit n i).symm
theorem b255 : ∀ i, i < 8 → Nat.testBit 255 i = true ∧ Nat.testBit 4294967295 i = true := by decide
theorem and255 (a : Nat) (_ : a < 256) (c : Nat) (hc : c < 256) : c &&& (a ^^^ 4294967295) = c &&& (a ^^^ 255) := by
  apply Nat.eq_of_testBit_eq
  intro i
  rw [Nat.testBit_and, Nat.testBit_and, Nat.testBit_xor, Nat.testBit_xor]
  by_cases h : i < 8
  · rw [(b255 i h).1, (b255 i h).2]
  · have e : c.testBit i = false := Nat.testBit_lt_two_pow (Nat.lt_of_lt_of_le hc (show 2 ^ 8 ≤ 2 ^ i from Nat.pow_le_pow_right (by decide) (by omega)))
    rw [e, Bool.false_and, Bool.false_and]
theorem pcsum (a c i : Nat) (hi : i < 8) : (a ^^^ c) / 2 ^ i % 2 = (c &&& (a ^^^ 255)) / 2 ^ i % 2 + (a &&& (c ^^^ 255)) / 2 ^ i % 2 := by
  rw [bit_eq, bit_eq, bit_eq, Nat.testBit_xor, Nat.testBit_and, Nat.testBit_and, Nat.testBit_xor, Nat.testBit_xor, (b255 i hi).1]
  cases a.testBit i <;> cases c.testBit i <;> rfl
theorem pc_xor (a c : Nat) : pc8 (a ^^^ c) = pc8 (c &&& (a ^^^ 255)) + pc8 (a &&& (c ^^^ 255)) := by
  have h0 := pcsum a c 0 (by decide)
  have h1 := pcsum a c 1 (by decide)
  have h2 := pcsum a c 2 (by decide)
  have h3 := pcsum a c 3 (by decide)
  have h4 := pcsum a c 4 (by decide)
  have h5 := pcsum a c 5 (by decide)
  have h6 := pcsum a c 6 (by decide)
  have h7 := pcsum a c 7 (by decide)
  unfold pc8
  simp only [Nat.pow_zero, Nat.div_one] at h0
  simp only [show (2 : Nat) ^ 1 = 2 from rfl, show (2 : Nat) ^ 2 = 4 from rfl, show (2 : Nat) ^ 3 = 8 from rfl, show (2 : Nat) ^ 4 = 16 from rfl, show (2 : Nat) ^ 5 = 32 from rfl, show (2 : Nat) ^ 6 = 64 from rfl, show (2 : Nat) ^ 7 = 128 from rfl] at h1 h2 h3 h4 h5 h6 h7
  rw [h0, h1, h2, h3, h4, h5, h6, h7]
  ac_rfl
theorem one_pc : ∀ g, g < 256 → ((g == 0 || (g &&& (g - 1)) == 0) = decide (pc8 g ≤ 1)) := by decide +kernel
theorem dim_pc (a : Nat) (ha : a < 256) (c : Nat) (hc : c < 256) : (dimB a c || dimB c a) = decide (pc8 (a ^^^ c) ≤ 1) := by
  have l1 : c &&& (a ^^^ 255) < 256 := by have := Nat.and_le_left (n := c) (m := a ^^^ 255); omega
  have l2 : a &&& (c ^^^ 255) < 256 := by have := Nat.and_le_left (n := a) (m := c ^^^ 255); omega
  unfold dimB
  rw [pc_xor, one_pc _ l1, one_pc _ l2]
  have z1 := pc0 _ l1
  have z2 := pc0 _ l2
  generalize c &&& (a ^^^ 255) = x at *
  generalize a &&& (c ^^^ 255) = y at *
  rw [Bool.eq_iff_iff]
  simp only [Bool.or_eq_true, Bool.and_eq_true, beq_iff_eq, decide_eq_true_eq]
  omega
section LK
variable {d : Nat} {M : Mm} {b w sg nr : Nat} {num : Nat → Nat}
theorem c_shareRow {K : Int32 → Mm → Prop} {r o u s : Nat} (hC : BkC M b w sg nr num) (hW : BkW b w sg nr num) (hr : r < nr) (ho : o < nr) (hu : u ≤ b) (hs : s < 100) (h1 : lkP b u (num r) (num o) s → K 1 M) (h0 : ¬ lkP b u (num r) (num o) s → K 0 M) : ACi (d + 2) X0_shareRow [.ref 3, .int (nI r), .int (nI o), .int (nI u), .int (nI s)] M K := by
  have w1 := hW.1
  have w2 := hW.2.1
  refine w_X0_shareRow ?_
  rw [hC.1, pk_sub hu]
  have cut : ∀ n k, nI (rowN b n k b) >>> (nI (b - u) &&& 31) = nI (rowN b n k u) := by
    intro n k
    have := row256 (b := b) (n := n) (k := k) w2
    rw [shrN (by omega) (by omega)]
    have e := rowN_cut b n k u (b - u)
    rw [show u + (b - u) = b by omega] at e
    rw [e]
  have outer : ∀ (m i : Nat), i + m = b → (∀ i', i' < i → ∀ j, j < b → ¬ pc8 (rowN b (num r) i' u ^^^ rowN b (num o) j u) ≤ s) → lp_X0_shareRow_11 (d + 1) M (nI r) (nI o) (nI s) (nI (b - u)) (nI i) K := by
    intro m
    induction m with
    | zero =>
      intro i hi hn
      refine z_X0_shareRow_11 ?_
      rw [hC.1]
      refine ⟨fun _ => h0 ?_, fun c => absurd (nI_le (by omega) (by omega)) c⟩
      rintro ⟨i', q1, j, q2, q3⟩
      exact hn i' (by omega) j q2 q3
    | succ m ih =>
      intro i hi hn
      refine z_X0_shareRow_11 ?_
      rw [hC.1]
      refine ⟨fun c => absurd c (nI_ge (by omega) (by omega)), fun _ => c_turned hC hW hr (by omega) ?_⟩
      rw [cut]
      have inner : ∀ (m2 j : Nat), j + m2 = b → (∀ j', j' < j → ¬ pc8 (rowN b (num r) i u ^^^ rowN b (num o) j' u) ≤ s) → lp_X0_shareRow_35 (d + 1) M (nI r) (nI o) (nI s) (nI (b - u)) (nI i) (nI (rowN b (num r) i u)) (nI j) K := by
        intro m2
        induction m2 with
        | zero =>
          intro j hj hn2
          refine z_X0_shareRow_35 ?_
          rw [hC.1]
          refine ⟨fun _ => ?_, fun c => absurd (nI_le (by omega) (by omega)) c⟩
          rw [nI_1]
          refine ih (i + 1) (by omega) (fun i' q1 j' q2 => ?_)
          by_cases e : i' = i
          · subst e; exact hn2 j' (by omega)
          · exact hn i' (by omega) j' q2
        | succ m2 ih2 =>
          intro j hj hn2
          refine z_X0_shareRow_35 ?_
          rw [hC.1]
          refine ⟨fun c => absurd c (nI_ge (by omega) (by omega)), fun _ => c_turned hC hW ho (by omega) ?_⟩
          rw [cut, fb_xorI]
          have hx : rowN b (num r) i u ^^^ rowN b (num o) j u < 256 := xor256 (row256 (by omega)) (row256 (by omega))
          have hp : pc8 (rowN b (num r) i u ^^^ rowN b (num o) j u) < 100 := by unfold pc8; omega
          refine w_bc32 _ hx _ _ _ ⟨fun c => ?_, fun c => h1 ⟨i, by omega, j, by omega, ?_⟩⟩
          · rw [nI_ltI (by omega) (by omega)] at c
            rw [nI_1]
            refine ih2 (j + 1) (by omega) (fun j' q => ?_)
            by_cases e : j' = j
            · subst e; omega
            · exact hn2 j' (by omega)
          · rw [nI_ltI (by omega) (by omega)] at c
            omega
      exact inner b 0 (by omega) (fun _ q => absurd q (by omega))
  exact outer b 0 (by omega) (fun _ q => absurd q (by omega))
theorem c_isDimmed {K : Int32 → Mm → Prop} {a c : Nat} (ha : a < 256) (hc : c < 256) (h1 : dimB a c = true → K 1 M) (h0 : dimB a c = false → K 0 M) : ACi (d + 1) X9_isDimmed [.int (nI a), .int (nI c)] M K := by
  have em : (-1 : Int32) = nI 4294967295 := by decide
  refine w_X9_isDimmed ?_
  have e1 : nI c &&& (nI a ^^^ -1) = nI (c &&& (a ^^^ 255)) := by rw [em, fb_xorI, fa_and, and255 a ha c hc]
  have e2 : nI a &&& (nI c ^^^ -1) = nI (a &&& (c ^^^ 255)) := by rw [em, fb_xorI, fa_and, and255 c hc a ha]
  rw [e1, e2]
  have l1 : c &&& (a ^^^ 255) < 256 := by have := Nat.and_le_left (n := c) (m := a ^^^ 255); omega
  have l2 : a &&& (c ^^^ 255) < 256 := by have := Nat.and_le_left (n := a) (m := c ^^^ 255); omega
  have e3 : (nI (a &&& (c ^^^ 255)) &&& (nI (a &&& (c ^^^ 255)) - 1) = 0) ↔ ((a &&& (c ^^^ 255)) = 0 ∨ (a &&& (c ^^^ 255)) &&& ((a &&& (c ^^^ 255)) - 1) = 0) := by
    generalize a &&& (c ^^^ 255) = g at l2
    rcases Nat.eq_zero_or_pos g with q | q
    · subst q
      exact ⟨fun _ => Or.inl rfl, fun _ => by decide⟩
    · obtain ⟨k, rfl⟩ : ∃ k, g = k + 1 := ⟨g - 1, by omega⟩
      rw [nI_pred, fa_and, show (0 : Int32) = nI 0 from rfl, nI_eq (by have := Nat.and_le_right (n := k + 1) (m := k); omega) (by decide)]
      simp
  have f : (dimB a c = true) ↔ ((c &&& (a ^^^ 255)) = 0 ∧ ((a &&& (c ^^^ 255)) = 0 ∨ (a &&& (c ^^^ 255)) &&& ((a &&& (c ^^^ 255)) - 1) = 0)) := by
    unfold dimB
    simp
  have z1 : nI (c &&& (a ^^^ 255)) = 0 ↔ (c &&& (a ^^^ 255)) = 0 := by rw [show (0 : Int32) = nI 0 from rfl, nI_eq (by omega) (by decide)]
  rw [z1, e3]
  refine ⟨fun q => h0 ?_, fun q => ⟨fun q2 => h0 ?_, fun q2 => h1 (f.mpr ⟨q, q2⟩)⟩⟩
  · exact Bool.eq_false_iff.mpr (fun z => q (f.mp z).1)
  · exact Bool.eq_false_iff.mpr (fun z => q2 (f.mp z).2)
theorem c_areLike {K : Int32 → Mm → Prop} {r o u s : Nat} (hM : BkM M b w sg nr num) (hW : BkW b w sg nr num) (hr : r < nr) (ho : o < nr) (hu : u ≤ b) (hs : s < 2) (h1 : lkP b u (num r) (num o) s → K 1 M) (h0 : ¬ lkP b u (num r) (num o) s → K 0 M) : ACi (d + 3) X9_areLike [.ref 42, .int (nI r), .int (nI o), .int (nI u), .int (nI s)] M K := by
  have w1 := hW.1
  have w2 := hW.2.1
  have hbb : b * b ≤ 64 := Nat.mul_le_mul w2 w2
  refine w_X9_areLike ?_
  have key : ∀ (m k : Nat) (v : Int32), k + m = b * b → ((v = 1 ∧ ∃ k', k' < k ∧ pc8 (rowN b (num r) (k' / b) u ^^^ rowN b (num o) (k' % b) u) ≤ s) ∨ (v = 0 ∧ ∀ k', k' < k → ¬ pc8 (rowN b (num r) (k' / b) u ^^^ rowN b (num o) (k' % b) u) ≤ s)) → lp_X9_areLike_6 (d + 2) M (nI r) (nI o) (nI u) (nI s) v (nI k) K := by
    intro m
    induction m with
    | zero =>
      intro k v hk hv
      refine z_X9_areLike_6 ?_
      rw [hM.1, pk_mul]
      refine ⟨fun _ => ?_, fun c => absurd (nI_le (by omega) (by omega)) c⟩
      rcases hv with ⟨rfl, k', q1, q2⟩ | ⟨rfl, q⟩
      · refine ⟨Or.inr rfl, h1 ⟨k' / b, ?_, k' % b, Nat.mod_lt _ (by omega), q2⟩⟩
        exact (Nat.div_lt_iff_lt_mul (by omega)).mpr (by omega)
      · refine ⟨Or.inl rfl, h0 ?_⟩
        rintro ⟨i, q1, j, q2, q3⟩
        have hlt : i * b + j < b * b := by
          have : (i + 1) * b ≤ b * b := Nat.mul_le_mul_right b q1
          rw [Nat.succ_mul] at this
          omega
        refine q (i * b + j) (by omega) ?_
        rw [Nat.mul_comm i b, Nat.mul_add_div (by omega), Nat.div_eq_of_lt q2, Nat.mul_add_mod, Nat.mod_eq_of_lt q2, Nat.add_zero]
        exact q3
    | succ m ih =>
      intro k v hk hv
      have hkb : k / b < b := (Nat.div_lt_iff_lt_mul (by omega)).mpr (by omega)
      have hkm : k % b < b := Nat.mod_lt _ (by omega)
      refine z_X9_areLike_6 ?_
      rw [hM.1, pk_mul]
      refine ⟨fun c => absurd c (nI_ge (by omega) (by omega)), fun _ => ⟨nI_ne0 (by omega) (by omega), ?_⟩⟩
      rw [pk_div (by omega) (by omega) (by omega)]
      refine c_rowOf hM hW hr (by omega) (by omega) ?_
      rw [hM.1, pk_rem (by omega) (by omega) (by omega)]
      refine ⟨nI_ne0 (by omega) (by omega), c_rowOf hM hW ho (by omega) (by omega) ?_⟩
      have l1 : rowN b (num r) (k / b) u < 256 := row256 (by omega)
      have l2 : rowN b (num o) (k % b) u < 256 := row256 (by omega)
      rw [nI_1]
      have yes : pc8 (rowN b (num r) (k / b) u ^^^ rowN b (num o) (k % b) u) ≤ s → lp_X9_areLike_6 (d + 2) M (nI r) (nI o) (nI u) (nI s) 1 (nI (k + 1)) K := fun q => ih (k + 1) 1 (by omega) (Or.inl ⟨rfl, k, by omega, q⟩)
      refine ⟨fun c => ?_, fun c => ?_⟩
      · rcases hv with ⟨-, k', q1, q2⟩ | ⟨rfl, -⟩
        · exact ih (k + 1) 1 (by omega) (Or.inl ⟨rfl, k', by omega, q2⟩)
        · exact absurd rfl c
      · have hv2 : ∀ k', k' < k → ¬ pc8 (rowN b (num r) (k' / b) u ^^^ rowN b (num o) (k' % b) u) ≤ s := by
          rcases hv with ⟨rfl, -⟩ | ⟨-, q⟩
          · exact absurd c (by decide)
          · exact q
        have no : ¬ pc8 (rowN b (num r) (k / b) u ^^^ rowN b (num o) (k % b) u) ≤ s → lp_X9_areLike_6 (d + 2) M (nI r) (nI o) (nI u) (nI s) 0 (nI (k + 1)) K := fun q => ih (k + 1) 0 (by omega) (Or.inr ⟨rfl, fun k' q1 => by
          by_cases e : k' = k
          · subst e; exact q
          · exact hv2 k' (by omega)⟩)
        have xl := xor256 l1 l2
        have eq0 : (rowN b (num r) (k / b) u = rowN b (num o) (k % b) u) ↔ pc8 (rowN b (num r) (k / b) u ^^^ rowN b (num o) (k % b) u) ≤ 0 := by
          rw [pc0 _ xl]
          constructor
          · intro e; rw [e]; exact Nat.xor_self _
          · intro e
            apply Nat.eq_of_testBit_eq
            intro i
            have := congrArg (fun z => Nat.testBit z i) e
            simp only [Nat.testBit_xor, Nat.zero_testBit] at this
            revert this
            cases Nat.testBit (rowN b (num r) (k / b) u) i <;> cases Nat.testBit (rowN b (num o) (k % b) u) i <;> decide
        rw [nI_eq (by omega) (by omega), eq0]
        refine ⟨fun q => yes (by omega), fun q => ⟨fun q2 => no ?_, fun q2 => ?_⟩⟩
        · have : s = 0 := (nI_eq (b := 0) (by omega) (by decide)).mp q2
          omega
        · have hs1 : s = 1 := by
            rcases Nat.lt_or_ge s 1 with z | z
            · have : s = 0 := by omega
              subst this
              exact absurd rfl q2
            · omega
          subst hs1
          have dd := dim_pc _ l1 _ l2
          refine c_isDimmed l1 l2 (fun e1 => ⟨fun _ => yes ?_, fun z => absurd z (by decide)⟩) (fun e1 => ⟨fun z => absurd rfl z, fun _ => c_isDimmed l2 l1 (fun e2 => ⟨fun z => absurd z (by decide), fun _ => yes ?_⟩) (fun e2 => ⟨fun _ => no ?_, fun z => absurd rfl z⟩)⟩)
          · rw [e1, Bool.true_or] at dd
            exact of_decide_eq_true dd.symm
          · rw [e2, Bool.or_true] at dd
            exact of_decide_eq_true dd.symm
          · rw [e1, e2, Bool.or_false] at dd
            exact of_decide_eq_false dd.symm
  exact key (b * b) 0 0 (by omega) (Or.inr ⟨rfl, fun _ q => absurd q (by omega)⟩)
end LK
