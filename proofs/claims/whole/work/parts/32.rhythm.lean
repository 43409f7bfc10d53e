/-! RHYTHM, LIKE, APART: the public calls; bit sets. -/
abbrev Pr0 (X Y : Md) (vs : List Value) (M : Mm) : Prop := ∀ d, ACi (d + 20) X (.ref 0 :: vs) M (fun r M1 => ACi (d + 20) Y (.ref 42 :: vs) M1 (fun r' M2 => r = r' ∧ M2 = M))
/-- a set of numbers below n as bits -/
def bsN (f : Nat → Bool) : Nat → Nat
  | 0 => 0
  | k + 1 => bsN f k + if f k then 2 ^ k else 0
theorem bsN_lt (f : Nat → Bool) : ∀ n, bsN f n < 2 ^ n
  | 0 => by simp [bsN]
  | n + 1 => by
    have := bsN_lt f n
    rw [bsN, Nat.pow_succ]
    split <;> omega
theorem bsN_or (f : Nat → Bool) (k : Nat) : nI (bsN f k) ||| nI (2 ^ k) = nI (bsN f k + 2 ^ k) := by
  have := fa_or_sum (a := bsN f k) (k := k) 1 (bsN_lt f k)
  rw [Nat.mul_one] at this
  rw [Int32.or_comm, this, Nat.add_comm]
theorem bsN_cong {f g : Nat → Bool} : ∀ {n : Nat}, (∀ k, k < n → f k = g k) → bsN f n = bsN g n
  | 0, _ => rfl
  | n + 1, h => by rw [bsN, bsN, bsN_cong (fun k hk => h k (by omega)), h n (by omega)]
theorem bsN_small {f : Nat → Bool} {n : Nat} (h : n ≤ 8) : bsN f n < 256 := by
  have h1 := bsN_lt f n
  have h2 := p2le h
  omega
theorem bsN_bit (f : Nat → Bool) : ∀ (n i : Nat), bsN f n / 2 ^ i % 2 = if i < n ∧ f i = true then 1 else 0
  | 0, i => by simp [bsN]
  | n + 1, i => by
    have ih := bsN_bit f n i
    have hl := bsN_lt f n
    rw [bsN]
    by_cases hf : f n = true
    · rw [if_pos hf]
      rcases Nat.lt_trichotomy i n with h | h | h
      · have e : 2 ^ n = 2 ^ i * (2 * 2 ^ (n - i - 1)) := by rw [← Nat.mul_assoc, Nat.mul_comm (2 ^ i) 2, ← Nat.pow_succ', ← Nat.pow_add]; congr 1; omega
        rw [e, Nat.add_mul_div_left _ _ (Nat.two_pow_pos i), Nat.add_mul_mod_self_left, ih]
        by_cases q : f i = true
        · rw [if_pos ⟨h, q⟩, if_pos ⟨by omega, q⟩]
        · rw [if_neg (fun z => q z.2), if_neg (fun z => q z.2)]
      · subst h
        rw [if_pos ⟨by omega, hf⟩, show bsN f i + 2 ^ i = bsN f i + 2 ^ i * 1 by omega, Nat.add_mul_div_left _ _ (Nat.two_pow_pos i), Nat.div_eq_of_lt hl]
      · have h2 : bsN f n + 2 ^ n < 2 ^ i := by
          have : 2 ^ (n + 1) ≤ 2 ^ i := Nat.pow_le_pow_right (by decide) h
          rw [Nat.pow_succ] at this
          omega
        rw [Nat.div_eq_of_lt h2, if_neg (fun z => by omega)]
    · rw [if_neg hf, Nat.add_zero, ih]
      by_cases q : i < n ∧ f i = true
      · rw [if_pos q, if_pos ⟨by omega, q.2⟩]
      · rw [if_neg q, if_neg (fun z => q ⟨by
          rcases Nat.lt_or_ge i n with y | y
          · exact y
          · have : i = n := by omega
            subst this
            exact absurd z.2 hf, z.2⟩)]
section RH
variable {d : Nat} {M : Mm} {b w sg nr : Nat} {num : Nat → Nat}
theorem c_ones {K : Int32 → Mm → Prop} {n : Nat} (hn : n < 2147483648) (h : K (nI (pc8 n)) M) : ACi (d + 1) X9_ones [.int (nI n)] M K := by
  have e : ∀ k, k < 8 → (nI n >>> (nI k &&& 31)) &&& 1 = nI (n / 2 ^ k % 2) := fun k hk => shr1 hn (by omega)
  refine w_X9_ones ?_
  have z : ∀ (k : Nat) (v : Nat), k < 8 → lp_X9_ones_4 d M (nI n) (nI (v + n / 2 ^ k % 2)) (nI (k + 1)) K → lp_X9_ones_4 d M (nI n) (nI v) (nI k) K := by
    intro k v hk hh
    refine z_X9_ones_4 ⟨fun c => absurd c (nI_ge (b := 8) hk (by decide)), fun _ => ?_⟩
    rw [e k hk, nI_add, nI_1]
    exact hh
  refine z 0 0 (by decide) (z 1 _ (by decide) (z 2 _ (by decide) (z 3 _ (by decide) (z 4 _ (by decide) (z 5 _ (by decide) (z 6 _ (by decide) (z 7 _ (by decide) ?_)))))))
  refine z_X9_ones_4 ⟨fun _ => ?_, fun c => absurd (nI_le (a := 8) (by decide) (by decide)) c⟩
  simpa [pc8] using h
theorem c_rpC {K : Int32 → Mm → Prop} {r k0 : Nat} (hC : BkC M b w sg nr num) (hW : BkW b w sg nr num) (hr : r < nr) (h1 : 1 ≤ k0) (h2 : k0 ≤ b) (h3 : rowN b (num r) k0 b = num r) (h4 : ∀ k, 1 ≤ k → k < k0 → ¬ rowN b (num r) k b = num r) (h : K (nI k0) M) : ACi (d + 2) X0_repeats [.ref 3, .int (nI r)] M K := by
  have w1 := hW.1
  have w2 := hW.2.1
  have hn := hW.n hr
  refine w_X0_repeats ?_
  have key : ∀ (j i : Nat), i + j = k0 → 1 ≤ i → lp_X0_repeats_2 (d + 1) M (nI r) (nI i) K := by
    intro j
    induction j with
    | zero =>
      intro i hi h1i
      have : i = k0 := by omega
      subst this
      refine z_X0_repeats_2 ?_
      rw [hC.1]
      refine ⟨fun c => ?_, fun c => ?_⟩
      · rw [nI_leI (by omega) (by omega)] at c
        have : i = b := by omega
        rw [← this]
        exact h
      · rw [nI_leI (by omega) (by omega)] at c
        refine c_turned hC hW hr (by omega) ⟨vp_in_nI (by have := hW.2.2.2.2.2.2.1; omega) (by decide), ?_⟩
        rw [nI_clamp (by have := hW.2.2.2.2.2.2.1; omega), hC.2.2.2.2 r hr, h3]
        exact ⟨fun z => absurd rfl z, fun _ => h⟩
    | succ j ih =>
      intro i hi h1i
      refine z_X0_repeats_2 ?_
      rw [hC.1]
      refine ⟨fun c => absurd c (nI_ge (by omega) (by omega)), fun c => ?_⟩
      refine c_turned hC hW hr (by omega) ⟨vp_in_nI (by have := hW.2.2.2.2.2.2.1; omega) (by decide), ?_⟩
      have hrow : rowN b (num r) i b < 256 := row256 w2
      rw [nI_clamp (by have := hW.2.2.2.2.2.2.1; omega), hC.2.2.2.2 r hr, nI_eq (by omega) (by omega), nI_1]
      exact ⟨fun _ => ih (i + 1) (by omega) (by omega), fun z => absurd z (h4 i h1i (by omega))⟩
  exact key (k0 - 1) 1 (by omega) (by omega)
theorem c_rpM {K : Int32 → Mm → Prop} {r k0 : Nat} (hM : BkM M b w sg nr num) (hW : BkW b w sg nr num) (hr : r < nr) (h1 : 1 ≤ k0) (h2 : k0 ≤ b) (h3 : rowN b (num r) k0 b = num r) (h4 : ∀ k, 1 ≤ k → k < k0 → ¬ rowN b (num r) k b = num r) (h : K (nI k0) M) : ACi (d + 3) X9_repeats [.ref 42, .int (nI r)] M K := by
  have w1 := hW.1
  have w2 := hW.2.1
  have w7 := hW.2.2.2.2.2.2.1
  have hn := hW.n hr
  refine w_X9_repeats ?_
  have key : ∀ (j i : Nat), i + j = k0 → 1 ≤ i → lp_X9_repeats_2 (d + 2) M (nI r) (nI i) K := by
    intro j
    induction j with
    | zero =>
      intro i hi h1i
      have : i = k0 := by omega
      subst this
      refine z_X9_repeats_2 ?_
      rw [hM.1]
      refine c_rowOf hM hW hr (by omega) w2 ⟨vp_in_nI (by omega) (by decide), ?_⟩
      rw [nI_clamp (by omega), hM.2.2.2.2 r hr, h3]
      exact ⟨fun _ => h, fun z => absurd rfl z⟩
    | succ j ih =>
      intro i hi h1i
      refine z_X9_repeats_2 ?_
      rw [hM.1]
      have hrow : rowN b (num r) i b < 256 := row256 w2
      refine c_rowOf hM hW hr (by omega) w2 ⟨vp_in_nI (by omega) (by decide), ?_⟩
      rw [nI_clamp (by omega), hM.2.2.2.2 r hr, nI_eq (by omega) (by omega), nI_1]
      exact ⟨fun z => absurd z (h4 i h1i (by omega)), fun _ => ih (i + 1) (by omega) (by omega)⟩
  exact key (k0 - 1) 1 (by omega) (by omega)
theorem p_rhythm {v1 v2 : Int32} (hC : BkC M b w sg nr num) (hM : BkM M b w sg nr num) (hW : BkW b w sg nr num) : Pr0 X8_rhythm X9_rhythm [.int v1, .int v2] M := by
  have w1 := hW.1
  have w2 := hW.2.1
  have w7 := hW.2.2.2.2.2.2.1
  intro d
  refine w_X8_rhythm (c_hasRhythm hC hW (fun r hr e => ⟨fun _ => ?_, fun z => absurd z (by decide)⟩) (fun hno => ⟨fun z => absurd rfl z, fun _ => ?_⟩))
  · subst e
    have hn := hW.n hr
    have vi : vp_in (nI r) 8 := vp_in_nI (by omega) (by decide)
    have ec : (nI r).toNatClampNeg = r := nI_clamp (by omega)
    have hle := ltF_le b (num r) (b - 1)
    have sw : ∀ (i : Int32) (j : Nat), i = nI j → j ≤ 4 → v2 = i → ¬ (v2 < 0 ∨ nI 4 < v2) := by
      intro i j ei hj e z
      rw [e, ei] at z
      rcases z with z | z
      · exact nI_pos (by omega) z
      · exact nI_nlt (b := 4) (a := j) |> fun _ => absurd ((nI_ltI (a := 4) (by decide) (by omega)).mp z) (by omega)
    have mod : ∀ (K : Int32 → Mm → Prop) (d : Nat), ((v2 = 0 → K (nI (num r)) M) ∧ (v2 = 1 → K (nI (rowN b (num r) (ltF b (num r) (b - 1)) b)) M) ∧ (v2 = 2 → ∀ k0, 1 ≤ k0 → k0 ≤ b → rowN b (num r) k0 b = num r → (∀ k, 1 ≤ k → k < k0 → ¬ rowN b (num r) k b = num r) → K (nI k0) M) ∧ (v2 = 3 → K (nI (pc8 (num r))) M) ∧ (v2 = 4 → K (nI (ltF b (num r) (b - 1))) M) ∧ (v2 < 0 ∨ nI 4 < v2 → K (-3) M)) → ACi (d + 9) X9_rhythm [.ref 42, .int (nI r), .int v2] M K := by
      intro K d hk
      obtain ⟨k0, k1, k2, k3, k4, k5⟩ := hk
      refine w_X9_rhythm (c_isRhythm hM hW (fun _ _ _ => ⟨fun _ => ⟨fun z => ⟨vi, ?_⟩, fun z => ?_, fun z => ?_, fun z => ?_, fun z => ?_, fun z => k5 z⟩, fun z => absurd z (by decide)⟩) (fun hno => absurd rfl (hno r hr)))
      · rw [ec, hM.2.2.2.2 r hr]; exact k0 z
      · refine c_ltM hM hW hr ?_
        rw [hM.1]
        exact c_rowOf hM hW hr (by omega) w2 (k1 z)
      · obtain ⟨q, q1, q2⟩ := pk_least (fun k => 1 ≤ k ∧ rowN b (num r) k b = num r) ⟨b, by omega, (rowN_0 b (by omega) w1 (num r) hn.2 hn.1).1⟩
        have hqb : q ≤ b := by
          rcases Nat.lt_or_ge b q with y | y
          · exact absurd ⟨by omega, (rowN_0 b (by omega) w1 (num r) hn.2 hn.1).1⟩ (q2 b y)
          · exact y
        exact c_rpM hM hW hr q1.1 hqb q1.2 (fun k a1 a2 a3 => q2 k a2 ⟨a1, a3⟩) (k2 z q q1.1 hqb q1.2 (fun k a1 a2 a3 => q2 k a2 ⟨a1, a3⟩))
      · refine w_X9_flashes ⟨vi, ?_⟩
        rw [ec, hM.2.2.2.2 r hr]
        exact c_ones (by omega) (k3 z)
      · exact c_ltM hM hW hr (k4 z)
    have n5 : ∀ {i j : Int32}, v2 = i → ¬ i = j → ¬ v2 = j := fun e1 e2 e3 => e2 (e1.symm.trans e3)
    refine ⟨fun z => ⟨vi, ?_⟩, fun z => ?_, fun z => ?_, fun z => ⟨vi, ?_⟩, fun z => ?_, fun z => ?_⟩
    · rw [ec, hC.2.2.2.2 r hr]
      exact mod _ _ ⟨fun _ => ⟨rfl, rfl⟩, fun y => absurd y (n5 z (by decide)), fun y => absurd y (n5 z (by decide)), fun y => absurd y (n5 z (by decide)), fun y => absurd y (n5 z (by decide)), fun y => absurd y (sw 0 0 rfl (by decide) z)⟩
    · exact c_ltC hC hW hr (c_turned hC hW hr (by omega) (mod _ _ ⟨fun y => absurd y (n5 z (by decide)), fun _ => ⟨rfl, rfl⟩, fun y => absurd y (n5 z (by decide)), fun y => absurd y (n5 z (by decide)), fun y => absurd y (n5 z (by decide)), fun y => absurd y (sw 1 1 rfl (by decide) z)⟩))
    · obtain ⟨q, q1, q2⟩ := pk_least (fun k => 1 ≤ k ∧ rowN b (num r) k b = num r) ⟨b, by omega, (rowN_0 b (by omega) w1 (num r) hn.2 hn.1).1⟩
      have hqb : q ≤ b := by
        rcases Nat.lt_or_ge b q with y | y
        · exact absurd ⟨by omega, (rowN_0 b (by omega) w1 (num r) hn.2 hn.1).1⟩ (q2 b y)
        · exact y
      refine c_rpC hC hW hr q1.1 hqb q1.2 (fun k a1 a2 a3 => q2 k a2 ⟨a1, a3⟩) (mod _ _ ⟨fun y => absurd y (n5 z (by decide)), fun y => absurd y (n5 z (by decide)), fun _ k0 a1 a2 a3 a4 => ⟨?_, rfl⟩, fun y => absurd y (n5 z (by decide)), fun y => absurd y (n5 z (by decide)), fun y => absurd y (sw 2 2 rfl (by decide) z)⟩)
      congr 1
      rcases Nat.lt_trichotomy q k0 with y | y | y
      · exact absurd q1.2 (a4 q q1.1 y)
      · exact y
      · exact absurd ⟨a1, a3⟩ (q2 k0 y)
    · rw [ec, hC.2.2.2.2 r hr]
      exact w_bc32 _ hn.2 _ _ _ (mod _ _ ⟨fun y => absurd y (n5 z (by decide)), fun y => absurd y (n5 z (by decide)), fun y => absurd y (n5 z (by decide)), fun _ => ⟨rfl, rfl⟩, fun y => absurd y (n5 z (by decide)), fun y => absurd y (sw 3 3 rfl (by decide) z)⟩)
    · exact c_ltC hC hW hr (mod _ _ ⟨fun y => absurd y (n5 z (by decide)), fun y => absurd y (n5 z (by decide)), fun y => absurd y (n5 z (by decide)), fun y => absurd y (n5 z (by decide)), fun _ => ⟨rfl, rfl⟩, fun y => absurd y (sw 4 4 rfl (by decide) z)⟩)
    · exact mod _ _ ⟨fun y => absurd z (sw 0 0 rfl (by decide) y), fun y => absurd z (sw 1 1 rfl (by decide) y), fun y => absurd z (sw 2 2 rfl (by decide) y), fun y => absurd z (sw 3 3 rfl (by decide) y), fun y => absurd z (sw 4 4 rfl (by decide) y), fun _ => ⟨rfl, rfl⟩⟩
  · exact w_X9_rhythm (c_isRhythm hM hW (fun r hr e => absurd e (hno r hr)) (fun _ => ⟨fun z => absurd rfl z, fun _ => ⟨rfl, rfl⟩⟩))
theorem c_areSuch {K : Int32 → Mm → Prop} {x y : Int32} {s : Nat} (hC : BkC M b w sg nr num) (hW : BkW b w sg nr num) (hs : s < 2) (h1 : ∀ r o, r < nr → o < nr → x = nI r → y = nI o → lkP b w (num r) (num o) s → K 1 M) (h0 : (∀ r o, r < nr → o < nr → x = nI r → y = nI o → ¬ lkP b w (num r) (num o) s) → K 0 M) : ACi (d + 3) X0_areSuch [.ref 3, .int x, .int y, .int (nI s)] M K := by
  have w4 := hW.2.2.2.1
  have w2 := hW.2.1
  have w7 := hW.2.2.2.2.2.2.1
  refine w_X0_areSuch (c_hasRhythm hC hW (fun r hr e => ⟨fun z => absurd z (by decide), fun _ => c_hasRhythm hC hW (fun o ho e2 => ⟨fun z => absurd z (by decide), fun _ => ?_⟩) (fun hno => ⟨fun _ => h0 (fun r' o' _ ho' _ e' => absurd e' (hno o' ho')), fun z => absurd rfl z⟩)⟩) (fun hno => ⟨fun _ => h0 (fun r' o' hr' _ e' _ => absurd e' (hno r' hr')), fun z => absurd rfl z⟩))
  rw [e, e2, hC.2.1]
  refine c_shareRow hC hW hr ho w4 (by omega) (fun l => ⟨fun z => absurd z (by decide), fun _ => h1 r o hr ho e e2 l⟩) (fun l => ⟨fun _ => h0 (fun r' o' hr' ho' e' e2' => ?_), fun z => absurd rfl z⟩)
  have q1 : r = r' := (nI_eq (by omega) (by omega)).mp (e.symm.trans e')
  have q2 : o = o' := (nI_eq (by omega) (by omega)).mp (e2.symm.trans e2')
  subst q1; subst q2
  exact l
theorem p_like {v1 v2 v3 : Int32} (hC : BkC M b w sg nr num) (hM : BkM M b w sg nr num) (hW : BkW b w sg nr num) : Pr0 X8_like X9_like [.int v1, .int v2, .int v3] M := by
  have w4 := hW.2.2.2.1
  have w2 := hW.2.1
  have w7 := hW.2.2.2.2.2.2.1
  have e1 : (1 : Int32).toInt = 1 := by decide
  intro d
  refine w_X8_like (c_hasRhythm hC hW (fun r hr e => ⟨fun z => absurd z (by decide), fun _ => c_hasRhythm hC hW (fun o ho e2 => ⟨fun _ => ?_, fun z => absurd z (by decide)⟩) (fun hno => ⟨fun z => absurd rfl z, fun _ => ?_⟩)⟩) (fun hno => ⟨fun _ => ?_, fun z => absurd rfl z⟩))
  · subst e
    subst e2
    have out : (v3.toInt < 0 ∨ 1 < v3.toInt) → ∀ d, ACi (d + 9) X9_like [.ref 42, .int (nI r), .int (nI o), .int v3] M (fun r' M2 => -3 = r' ∧ M2 = M) := fun hz d => w_X9_like (c_isRhythm hM hW (fun _ _ _ => ⟨fun z => absurd z (by decide), fun _ => c_isRhythm hM hW (fun _ _ _ => ⟨fun _ => c_in01 (fun z => absurd z (n01 hz)) (fun _ => ⟨fun z => absurd rfl z, fun _ => ⟨rfl, rfl⟩⟩), fun z => absurd z (by decide)⟩) (fun hno => absurd rfl (hno o ho))⟩) (fun hno => absurd rfl (hno r hr)))
    refine ⟨fun c => out (Or.inl (by rw [fa_lt, tI0] at c; exact c)) _, fun c => ⟨fun c2 => ?_, fun c2 => out (Or.inr (by rw [fa_le, e1] at c2; omega)) _⟩⟩
    rw [fa_lt, tI0] at c
    rw [fa_le, e1] at c2
    obtain ⟨s, hs, rfl⟩ := i_of (x := v3) (n := 2) (by omega) (by omega)
    have h01 : nI s = 0 ∨ nI s = 1 := by
      match s, hs with
      | 0, _ => exact Or.inl rfl
      | 1, _ => exact Or.inr rfl
    have mod : ∀ (K : Int32 → Mm → Prop) (d : Nat), (lkP b w (num r) (num o) s → K 1 M) → (¬ lkP b w (num r) (num o) s → K 0 M) → ACi (d + 9) X9_like [.ref 42, .int (nI r), .int (nI o), .int (nI s)] M K := by
      intro K d k1 k0
      refine w_X9_like (c_isRhythm hM hW (fun _ _ _ => ⟨fun z => absurd z (by decide), fun _ => c_isRhythm hM hW (fun _ _ _ => ⟨fun _ => c_in01 (fun _ => ⟨fun _ => ?_, fun z => absurd z (by decide)⟩) (fun z => absurd h01 z), fun z => absurd z (by decide)⟩) (fun hno => absurd rfl (hno o ho))⟩) (fun hno => absurd rfl (hno r hr)))
      rw [hM.2.1]
      match s, hs with
      | 0, _ => exact ⟨fun _ => c_areLike (s := 0) hM hW hr ho w4 (by decide) (fun l => ⟨fun z => absurd z (by decide), fun _ => k1 l⟩) (fun l => ⟨fun _ => k0 l, fun z => absurd rfl z⟩), fun z => absurd z (by decide)⟩
      | 1, _ => exact ⟨fun z => absurd rfl z, fun _ => c_areLike (s := 1) hM hW hr ho w4 (by decide) (fun l => ⟨fun z => absurd z (by decide), fun _ => k1 l⟩) (fun l => ⟨fun _ => k0 l, fun z => absurd rfl z⟩)⟩
    refine c_areSuch hC hW hs (fun r' o' hr' ho' e' e2' l => ⟨fun z => absurd z (by decide), fun _ => ?_⟩) (fun l => ⟨fun _ => ?_, fun z => absurd rfl z⟩)
    · have q1 : r = r' := (nI_eq (by omega) (by omega)).mp e'
      have q2 : o = o' := (nI_eq (by omega) (by omega)).mp e2'
      subst q1; subst q2
      exact mod _ _ (fun _ => ⟨rfl, rfl⟩) (fun z => absurd l z)
    · exact mod _ _ (fun z => absurd z (l r o hr ho rfl rfl)) (fun _ => ⟨rfl, rfl⟩)
  · subst e
    exact w_X9_like (c_isRhythm hM hW (fun _ _ _ => ⟨fun z => absurd z (by decide), fun _ => c_isRhythm hM hW (fun o ho e2 => absurd e2 (hno o ho)) (fun _ => ⟨fun z => absurd rfl z, fun _ => ⟨rfl, rfl⟩⟩)⟩) (fun hn2 => absurd rfl (hn2 r hr)))
  · exact w_X9_like (c_isRhythm hM hW (fun r hr e => absurd e (hno r hr)) (fun _ => ⟨fun _ => ⟨rfl, rfl⟩, fun z => absurd rfl z⟩))
end RH
