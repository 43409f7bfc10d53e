/-! RHYTHMS: a rhythm of b beats is a number n below 2 ^ b. -/
def bitN (b n k : Nat) : Nat := n / 2 ^ (b - 1 - k % b) % 2
def rowN (b n k : Nat) : Nat → Nat
  | 0 => 0
  | w + 1 => 2 * rowN b n k w + bitN b n (k + w)
def pc8 (n : Nat) : Nat := n % 2 + n / 2 % 2 + n / 4 % 2 + n / 8 % 2 + n / 16 % 2 + n / 32 % 2 + n / 64 % 2 + n / 128 % 2
theorem bitN_lt (b n k : Nat) : bitN b n k < 2 := Nat.mod_lt _ (by decide)
theorem rowN_lt (b n k : Nat) : ∀ w, rowN b n k w < 2 ^ w
  | 0 => by simp [rowN]
  | w + 1 => by
    have h1 := rowN_lt b n k w
    have h2 := bitN_lt b n (k + w)
    rw [rowN, Nat.pow_succ]
    omega
theorem rowN_cut (b n k w : Nat) : ∀ u, rowN b n k (w + u) / 2 ^ u = rowN b n k w
  | 0 => by simp
  | u + 1 => by
    have h2 := bitN_lt b n (k + (w + u))
    rw [← Nat.add_assoc, rowN, Nat.pow_succ, Nat.mul_comm (2 ^ u) 2, ← Nat.div_div_eq_div_mul]
    rw [show (2 * rowN b n k (w + u) + bitN b n (k + (w + u))) / 2 = rowN b n k (w + u) by omega]
    exact rowN_cut b n k w u
theorem p2le {b : Nat} (h : b ≤ 8) : 2 ^ b ≤ 256 := Nat.pow_le_pow_right (by decide) h
theorem shr1 {n m : Nat} (hn : n < 2147483648) (hm : m < 32) : (nI n >>> (nI m &&& 31)) &&& 1 = nI (n / 2 ^ m % 2) := by
  rw [pk_shrN hn _ m (s_l m hm)]
  exact fa_mask _ 1
theorem shrN {n m : Nat} (hn : n < 2147483648) (hm : m < 32) : nI n >>> (nI m &&& 31) = nI (n / 2 ^ m) := pk_shrN hn _ m (s_l m hm)
theorem bit1 : ∀ l, l < 31 → (1 : Int32) <<< (nI l &&& 31) = nI (2 ^ l) := by decide +kernel
theorem trnN : ∀ b, b < 9 → ∀ n, n < 256 → ∀ k, k < 8 → (3 ≤ b ∧ n < 2 ^ b ∧ k < b) → ((nI n <<< (nI k &&& 31)) ||| (nI n >>> ((nI b - nI k) &&& 31))) &&& ((1 <<< (nI b &&& 31)) - 1) = nI (rowN b n k b) := by decide +kernel
theorem rowN_0 : ∀ b, b < 9 → 3 ≤ b → ∀ n, n < 256 → n < 2 ^ b → rowN b n b b = n ∧ rowN b n 0 b = n := by decide +kernel
set_option maxRecDepth 100000 in
theorem w_bc32 : ∀ n, n < 256 → ∀ (d : Nat) (M : Mm) (K : Int32 → Mm → Prop), K (nI (pc8 n)) M → ACi (d + 1) J6_bitCount_0f7a4 [.int (nI n)] M K := by
  intro n hn d M K h
  refine w_J6_bitCount_0f7a4 ?_
  have e : ∀ n, n < 256 → (let v := nI n
    let a := v - (((v.toUInt32 >>> ((1 : Int32).toUInt32 &&& Int32.toUInt32 31)).toInt32) &&& 1431655765)
    let c := (a &&& 858993459) + (((a.toUInt32 >>> ((2 : Int32).toUInt32 &&& Int32.toUInt32 31)).toInt32) &&& 858993459)
    let e := (c + ((c.toUInt32 >>> ((4 : Int32).toUInt32 &&& Int32.toUInt32 31)).toInt32)) &&& 252645135
    let f := e + ((e.toUInt32 >>> ((8 : Int32).toUInt32 &&& Int32.toUInt32 31)).toInt32)
    let g := f + ((f.toUInt32 >>> ((16 : Int32).toUInt32 &&& Int32.toUInt32 31)).toInt32)
    g &&& 63) = nI (pc8 n) := by decide +kernel
  have e1 := e n hn
  rw [← e1] at h
  exact h
def BkC (M : Mm) (b w sg nr : Nat) (num : Nat → Nat) : Prop := M.1 3 0 = nI b ∧ M.1 3 1 = nI w ∧ M.1 3 2 = nI sg ∧ M.1 3 3 = nI nr ∧ ∀ i, i < nr → M.1 4 i = nI (num i)
def BkM (M : Mm) (b w sg nr : Nat) (num : Nat → Nat) : Prop := M.1 42 1 = nI b ∧ M.1 42 2 = nI w ∧ M.1 42 3 = nI sg ∧ M.1 42 4 = nI nr ∧ ∀ i, i < nr → M.1 44 i = nI (num i)
def BkW (b w sg nr : Nat) (num : Nat → Nat) : Prop := 3 ≤ b ∧ b ≤ 8 ∧ 2 ≤ w ∧ w ≤ b ∧ 1 ≤ sg ∧ sg ≤ 99 ∧ nr ≤ 8 ∧ ∀ i, i < nr → num i < 2 ^ b
theorem BkW.n {b w sg nr : Nat} {num : Nat → Nat} (h : BkW b w sg nr num) {i : Nat} (hi : i < nr) : num i < 2 ^ b ∧ num i < 256 := by
  obtain ⟨h1, h2, h3, h4, h5, h6, h7, h8⟩ := h
  have := h8 i hi
  have := p2le h2
  omega
section BK
variable {d : Nat} {M : Mm} {b w sg nr : Nat} {num : Nat → Nat}
theorem c_hasRhythm {K : Int32 → Mm → Prop} {x : Int32} (hC : BkC M b w sg nr num) (hW : BkW b w sg nr num) (h1 : ∀ r, r < nr → x = nI r → K 1 M) (h0 : (∀ r, r < nr → ¬ x = nI r) → K 0 M) : ACi (d + 1) X0_hasRhythm [.ref 3, .int x] M K := by
  obtain ⟨c0, c1, c2, c3, c4⟩ := hC
  obtain ⟨w1, w2, w3, w4, w5, w6, w7, w8⟩ := hW
  refine w_X0_hasRhythm ?_
  rw [c3]
  have tn : (nI nr).toInt = nr := tN (by omega)
  refine ⟨fun c => h0 (fun r hr e => ?_), fun c => ⟨fun c2 => h0 (fun r hr e => ?_), fun c2 => ?_⟩⟩
  · rw [e] at c; exact nI_pos (by omega) c
  · rw [e] at c2; exact nI_ge hr (by omega) c2
  · rw [fa_lt, tI0] at c
    rw [fa_le, tn] at c2
    obtain ⟨r, hr, e⟩ := i_of (x := x) (n := nr) (by omega) (by omega)
    exact h1 r hr e
theorem c_isRhythm {K : Int32 → Mm → Prop} {x : Int32} (hM : BkM M b w sg nr num) (hW : BkW b w sg nr num) (h1 : ∀ r, r < nr → x = nI r → K 1 M) (h0 : (∀ r, r < nr → ¬ x = nI r) → K 0 M) : ACi (d + 2) X9_isRhythm [.ref 42, .int x] M K := by
  obtain ⟨c0, c1, c2, c3, c4⟩ := hM
  obtain ⟨w1, w2, w3, w4, w5, w6, w7, w8⟩ := hW
  refine w_X9_isRhythm ?_
  rw [c3]
  have e : (nI nr - 1).toInt64.toInt = (nr : Int) - 1 := by
    rw [Int32.toInt_toInt64, show (1 : Int32) = nI 1 from rfl, pk_sub_toInt (by omega) (by decide)]; rfl
  refine c_in (l := 0) (u := (nr : Int) - 1) (by decide) e (fun a b => ⟨Or.inr rfl, ?_⟩) (fun a => ⟨Or.inl rfl, h0 (fun r hr e => ?_)⟩)
  · obtain ⟨r, hr, e⟩ := i_of (x := x) (n := nr) a (by omega)
    exact h1 r hr e
  · rw [e, tN (by omega)] at a
    omega
theorem c_turned {K : Int32 → Mm → Prop} {r k : Nat} (hC : BkC M b w sg nr num) (hW : BkW b w sg nr num) (hr : r < nr) (hk : k < b) (h : K (nI (rowN b (num r) k b)) M) : ACi (d + 1) X0_turned [.ref 3, .int (nI r), .int (nI k)] M K := by
  obtain ⟨c0, c1, c2, c3, c4⟩ := hC
  have hn := hW.n hr
  obtain ⟨w1, w2, w3, w4, w5, w6, w7, w8⟩ := hW
  refine w_X0_turned ⟨vp_in_nI (by omega) (by decide), ?_⟩
  rw [nI_clamp (by omega), c4 r hr, c0, trnN b (by omega) (num r) hn.2 k (by omega) ⟨w1, hn.1, hk⟩]
  exact h
theorem c_beatOf {K : Int32 → Mm → Prop} {r k : Nat} (hM : BkM M b w sg nr num) (hW : BkW b w sg nr num) (hr : r < nr) (hk : k < 1000) (h : K (nI (bitN b (num r) k)) M) : ACi (d + 1) X9_beatOf [.ref 42, .int (nI r), .int (nI k)] M K := by
  obtain ⟨c0, c1, c2, c3, c4⟩ := hM
  have hn := hW.n hr
  obtain ⟨w1, w2, w3, w4, w5, w6, w7, w8⟩ := hW
  have hm : k % b < b := Nat.mod_lt _ (by omega)
  refine w_X9_beatOf ⟨vp_in_nI (by omega) (by decide), ?_⟩
  have e1 : nI b - 1 = nI (b - 1) := by rw [show (1 : Int32) = nI 1 from rfl, pk_sub (by omega)]
  rw [c0, nI_clamp (by omega), c4 r hr, pk_rem (by omega) (by omega) (by omega), e1, pk_sub (by omega), shr1 (by omega) (by omega)]
  exact ⟨nI_ne0 (by omega) (by omega), h⟩
theorem c_rowOf {K : Int32 → Mm → Prop} {r k u : Nat} (hM : BkM M b w sg nr num) (hW : BkW b w sg nr num) (hr : r < nr) (hk : k < 500) (hu : u ≤ 8) (h : K (nI (rowN b (num r) k u)) M) : ACi (d + 2) X9_rowOf [.ref 42, .int (nI r), .int (nI k), .int (nI u)] M K := by
  refine w_X9_rowOf ?_
  have key : ∀ (j i : Nat), i + j = u → lp_X9_rowOf_6 (d + 1) M (nI r) (nI k) (nI u) (nI (rowN b (num r) k i)) (nI i) K := by
    intro j
    induction j with
    | zero =>
      intro i hi
      have : i = u := by omega
      subst this
      exact z_X9_rowOf_6 ⟨fun _ => h, fun c => absurd (nI_le (by omega) (by omega)) c⟩
    | succ j ih =>
      intro i hi
      refine z_X9_rowOf_6 ⟨fun c => absurd c (nI_ge (by omega) (by omega)), fun _ => ?_⟩
      rw [nI_add]
      refine c_beatOf hM hW hr (by omega) ?_
      have e : (2 : Int32) * nI (rowN b (num r) k i) = nI (2 * rowN b (num r) k i) := pk_mul 2 _
      rw [e, nI_add, nI_1]
      exact ih (i + 1) (by omega)
  exact key u 0 (by omega)
/-- the turning that makes a rhythm least, first of these -/
def ltF (b n : Nat) : Nat → Nat
  | 0 => 0
  | k + 1 => if rowN b n (k + 1) b < rowN b n (ltF b n k) b then k + 1 else ltF b n k
theorem ltF_le (b n : Nat) : ∀ k, ltF b n k ≤ k
  | 0 => Nat.le_refl _
  | k + 1 => by
    have := ltF_le b n k
    rw [ltF]
    split <;> omega
theorem row256 {b n k w : Nat} (hw : w ≤ 8) : rowN b n k w < 256 := by
  have h1 := rowN_lt b n k w
  have h2 := p2le hw
  omega
theorem c_ltC {K : Int32 → Mm → Prop} {r : Nat} (hC : BkC M b w sg nr num) (hW : BkW b w sg nr num) (hr : r < nr) (h : K (nI (ltF b (num r) (b - 1))) M) : ACi (d + 2) X0_turnsToLeast [.ref 3, .int (nI r)] M K := by
  have w1 := hW.1
  have w2 := hW.2.1
  refine w_X0_turnsToLeast ?_
  have key : ∀ (j i : Nat), i + j = b - 1 → lp_X0_turnsToLeast_4 (d + 1) M (nI r) (nI (ltF b (num r) i)) (nI (i + 1)) K := by
    intro j
    induction j with
    | zero =>
      intro i hi
      have : i = b - 1 := by omega
      subst this
      refine z_X0_turnsToLeast_4 ?_
      rw [hC.1]
      exact ⟨fun _ => h, fun c => absurd (nI_le (by omega) (by omega)) c⟩
    | succ j ih =>
      intro i hi
      have hle := ltF_le b (num r) i
      have st := ih (i + 1) (by omega)
      refine z_X0_turnsToLeast_4 ?_
      rw [hC.1]
      refine ⟨fun c => absurd c (nI_ge (by omega) (by omega)), fun _ => c_turned hC hW hr (by omega) (c_turned hC hW hr (by omega) ?_)⟩
      have r1 : rowN b (num r) (i + 1) b < 256 := row256 w2
      have r2 : rowN b (num r) (ltF b (num r) i) b < 256 := row256 w2
      rw [ltF] at st
      rw [nI_1]
      refine ⟨fun c => ?_, fun c => ?_⟩
      · rw [nI_leI (by omega) (by omega)] at c
        rw [if_neg (by omega)] at st
        exact st
      · rw [nI_leI (by omega) (by omega)] at c
        rw [if_pos (by omega)] at st
        exact st
  exact key (b - 1) 0 (by omega)
theorem c_ltM {K : Int32 → Mm → Prop} {r : Nat} (hM : BkM M b w sg nr num) (hW : BkW b w sg nr num) (hr : r < nr) (h : K (nI (ltF b (num r) (b - 1))) M) : ACi (d + 3) X9_leastTurn [.ref 42, .int (nI r)] M K := by
  have w1 := hW.1
  have w2 := hW.2.1
  refine w_X9_leastTurn ?_
  have key : ∀ (j i : Nat), i + j = b - 1 → lp_X9_leastTurn_4 (d + 2) M (nI r) (nI (ltF b (num r) i)) (nI (i + 1)) K := by
    intro j
    induction j with
    | zero =>
      intro i hi
      have : i = b - 1 := by omega
      subst this
      refine z_X9_leastTurn_4 ?_
      rw [hM.1]
      exact ⟨fun _ => h, fun c => absurd (nI_le (by omega) (by omega)) c⟩
    | succ j ih =>
      intro i hi
      have hle := ltF_le b (num r) i
      have st := ih (i + 1) (by omega)
      refine z_X9_leastTurn_4 ?_
      rw [hM.1]
      refine ⟨fun c => absurd c (nI_ge (by omega) (by omega)), fun _ => c_rowOf hM hW hr (by omega) w2 ?_⟩
      rw [hM.1]
      refine c_rowOf hM hW hr (by omega) w2 ?_
      have r1 : rowN b (num r) (i + 1) b < 256 := row256 w2
      have r2 : rowN b (num r) (ltF b (num r) i) b < 256 := row256 w2
      rw [ltF] at st
      rw [nI_1]
      refine ⟨fun c => ?_, fun c => ?_⟩
      · rw [nI_leI (by omega) (by omega)] at c
        rw [if_neg (by omega)] at st
        exact st
      · rw [nI_leI (by omega) (by omega)] at c
        rw [if_pos (by omega)] at st
        exact st
  exact key (b - 1) 0 (by omega)
end BK
