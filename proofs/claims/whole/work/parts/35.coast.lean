/-! COASTS that change: what can be undone. ps k, bs k: the coast behind k deeds that can be undone; u of them. -/
def RowAt (M : Mm) (B nl : Nat) (pl : Nat → Nat) (bo : Nat → Option Nat) : Prop := ∀ i, i < nl → M.1 43 (B + i) = nI (pl i) ∧ M.1 43 (B + 6 + i) = oi (bo i)
def UnC (M : Mm) (nl u : Nat) (ps : Nat → Nat → Nat) (bs : Nat → Nat → Option Nat) : Prop := M.1 22 0 = nI u ∧ ∀ k, k < u → ∃ l, l < nl ∧ M.1 23 k = nI l ∧ M.1 24 k = nI (ps k l) ∧ M.1 25 k = oi (bs k l) ∧ ∀ i, i < nl → i ≠ l → ps k i = ps (k + 1) i ∧ bs k i = bs (k + 1) i
def UnM (M : Mm) (nl u : Nat) (ps : Nat → Nat → Nat) (bs : Nat → Nat → Option Nat) : Prop := M.1 42 7 = nI u ∧ ∀ k, k < u → RowAt M (12 + 12 * k) nl (ps k) (bs k)
def UnW (nr nl u : Nat) (ps : Nat → Nat → Nat) (bs : Nat → Nat → Option Nat) : Prop := u ≤ 8 ∧ ∀ k, k ≤ u → LtW nr nl (ps k) (bs k)
/-- one deed more: of u at most 7 stay, then the new coast -/
def u7 (u : Nat) : Nat := if u = 8 then 7 else u
def exS {α : Type} (u : Nat) (ps : Nat → α) (p2 : α) (k : Nat) : α := if k ≤ u7 u then ps (k + (u - u7 u)) else p2
theorem u7_le {u : Nat} (h : u ≤ 8) : u7 u ≤ 7 ∧ u7 u ≤ u ∧ u ≤ u7 u + 1 := by unfold u7; split <;> omega
theorem exS_u {α : Type} {u : Nat} {ps : Nat → α} {p2 : α} (h : u ≤ 8) : exS u ps p2 (u7 u) = ps u := by
  have := u7_le h
  unfold exS
  rw [if_pos (Nat.le_refl _)]
  congr 1
  omega
theorem exS_n {α : Type} {u : Nat} {ps : Nat → α} {p2 : α} : exS u ps p2 (u7 u + 1) = p2 := by
  unfold exS
  rw [if_neg (by omega)]
/-- what prepareChange leaves alone -/
def FrP (M M1 : Mm) : Prop := (∀ q, q ≠ 22 → q ≠ 23 → q ≠ 24 → q ≠ 25 → q ≠ 34 → M1.1 q = M.1 q) ∧ (∀ q, q ≠ 34 → M1.2 q = M.2 q) ∧ M1.1 34 0 = 0 ∧ M1.2 34 2 = 0
section CO
variable {d : Nat} {M : Mm} {b w sg nr nl : Nat} {num pl : Nat → Nat} {bo : Nat → Option Nat} {u : Nat} {ps : Nat → Nat → Nat} {bs : Nat → Nat → Option Nat}
theorem c_prep {K : Mm → Prop} {l : Nat} {pn : Nat → Nat} {bn : Nat → Option Nat} (hU : UnC M nl u ps bs) (hL : LtC M nl (ps u) (bs u)) (hu : u ≤ 8) (hn : nl ≤ 6) (hl : l < nl) (hd : ∀ i, i < nl → i ≠ l → ps u i = pn i ∧ bs u i = bn i) (hK : ∀ M1, UnC M1 nl (u7 u + 1) (exS u ps pn) (exS u bs bn) → FrP M M1 → K M1) : ACv (d + 3) X8_prepareChange [.ref 0, .int (nI l)] M K := by
  obtain ⟨h0, h1⟩ := hU
  obtain ⟨g0, g1⟩ := hL
  have g2 := g1 l hl
  refine w_X8_prepareChange (w_X1_remember ?_)
  have vl : vp_in (nI l) 6 := vp_in_nI (by omega) (by decide)
  rw [h0, nI_clamp (n := l) (by omega), g2.1, g2.2]
  refine ⟨fun c => ?_, fun c => ?_⟩
  · have hu8 : u < 8 := (nI_ltI (b := 8) (by omega) (by decide)).mp c
    have e7 : u7 u = u := by unfold u7; rw [if_neg (by omega)]
    have vu : vp_in (nI u) 8 := vp_in_nI hu8 (by decide)
    rw [nI_clamp (n := u) (by omega), nI_1]
    refine ⟨vu, vl, vu, vl, vu, w_X7_end (hK _ ⟨?_, fun k hk => ?_⟩ ⟨fun q a1 a2 a3 a4 a5 => ?_, fun q a1 => ?_, ?_, ?_⟩)⟩
    · simp [rI, rL1, e7]
    · rw [e7] at hk
      by_cases e : k = u
      · subst e
        refine ⟨l, hl, by simp [rI, rL1], ?_, ?_, fun i hi hil => ?_⟩
        · simp only [rL1, rI]
          simp [exS, e7]
        · simp only [rL1, rI]
          simp [exS, e7]
        · have := hd i hi hil
          simp [exS, e7, Nat.not_succ_le_self]
          exact this
      · obtain ⟨m, m1, m2, m3, m4, m5⟩ := h1 k (by omega)
        have k1 : k ≤ u := by omega
        have k2 : k + 1 ≤ u := by omega
        refine ⟨m, m1, by simp [rI, rL1, e, m2], ?_, ?_, fun i hi hil => ?_⟩
        · simp [rI, rL1, e, m3, exS, e7, k1]
        · simp [rI, rL1, e, m4, exS, e7, k1]
        · have := m5 i hi hil
          simp [exS, e7, k1, k2]
          exact this
    · simp only [rL1]
      rw [wI_ne a5, wI_ne a1, wI_ne a4, wI_ne a3, wI_ne a2]
    · rw [wL_ne a1]; rfl
    · simp [rI, rL1]
    · simp [rL]
  · have hu8 : u = 8 := by
      rcases Nat.lt_or_ge u 8 with q | q
      · exact absurd (nI_lt (b := 8) q (by decide)) c
      · omega
    subst hu8
    have e7 : u7 8 = 7 := rfl
    refine w_X1_forgetOldest ?_
    have f0 : (cpI (cpI (cpI (wI M 22 0 7) 23 1 23 0 7) 24 1 24 0 7) 25 1 25 0 7).1 22 0 = nI 7 := by simp [rC, rI]; rfl
    have f14 : (cpI (cpI (cpI (wI M 22 0 7) 23 1 23 0 7) 24 1 24 0 7) 25 1 25 0 7).1 14 l = nI (ps 8 l) := by simp [rC, rI, g2.1]
    have f15 : (cpI (cpI (cpI (wI M 22 0 7) 23 1 23 0 7) 24 1 24 0 7) 25 1 25 0 7).1 15 l = oi (bs 8 l) := by simp [rC, rI, g2.2]
    have f23 : ∀ k, k < 7 → (cpI (cpI (cpI (wI M 22 0 7) 23 1 23 0 7) 24 1 24 0 7) 25 1 25 0 7).1 23 k = M.1 23 (k + 1) := fun k hk => by simp [rC, rI, hk, Nat.add_comm 1 k]
    have f24 : ∀ k, k < 7 → (cpI (cpI (cpI (wI M 22 0 7) 23 1 23 0 7) 24 1 24 0 7) 25 1 25 0 7).1 24 k = M.1 24 (k + 1) := fun k hk => by simp [rC, rI, hk, Nat.add_comm 1 k]
    have f25 : ∀ k, k < 7 → (cpI (cpI (cpI (wI M 22 0 7) 23 1 23 0 7) 24 1 24 0 7) 25 1 25 0 7).1 25 k = M.1 25 (k + 1) := fun k hk => by simp [rC, rI, hk, Nat.add_comm 1 k]
    have ff : ∀ q, q ≠ 22 → q ≠ 23 → q ≠ 24 → q ≠ 25 → (cpI (cpI (cpI (wI M 22 0 7) 23 1 23 0 7) 24 1 24 0 7) 25 1 25 0 7).1 q = M.1 q := fun q a1 a2 a3 a4 => by rw [cpI_ne a4, cpI_ne a3, cpI_ne a2, wI_ne a1]
    have fl : (cpI (cpI (cpI (wI M 22 0 7) 23 1 23 0 7) 24 1 24 0 7) 25 1 25 0 7).2 = M.2 := rfl
    generalize cpI (cpI (cpI (wI M 22 0 7) 23 1 23 0 7) 24 1 24 0 7) 25 1 25 0 7 = N at *
    have vu : vp_in (nI 7) 8 := vp_in_nI (by decide) (by decide)
    rw [f0, f14, f15, nI_clamp (n := 7) (by decide), nI_1]
    refine ⟨vu, vl, vu, vl, vu, w_X7_end (hK _ ⟨?_, fun k hk => ?_⟩ ⟨fun q a1 a2 a3 a4 a5 => ?_, fun q a1 => ?_, ?_, ?_⟩)⟩
    · simp [rI, rL1, e7]
    · rw [e7] at hk
      by_cases e : k = 7
      · subst e
        refine ⟨l, hl, by simp [rI, rL1], ?_, ?_, fun i hi hil => ?_⟩
        · simp only [rL1, rI]
          simp [exS, e7]
        · simp only [rL1, rI]
          simp [exS, e7]
        · have := hd i hi hil
          simp [exS, e7]
          exact this
      · obtain ⟨m, m1, m2, m3, m4, m5⟩ := h1 (k + 1) (by omega)
        have k1 : k ≤ 7 := by omega
        have k2 : k + 1 ≤ 7 := by omega
        refine ⟨m, m1, ?_, ?_, ?_, fun i hi hil => ?_⟩
        · simp [rI, rL1, e, f23 k (by omega), m2]
        · simp [rI, rL1, e, f24 k (by omega), m3, exS, e7, k1]
        · simp [rI, rL1, e, f25 k (by omega), m4, exS, e7, k1]
        · have := m5 i hi hil
          simp [exS, e7, k1, k2]
          exact this
    · simp only [rL1]
      rw [wI_ne a5, wI_ne a1, wI_ne a4, wI_ne a3, wI_ne a2, ff q a1 a2 a3 a4]
    · rw [wL_ne a1]
      show N.2 q = M.2 q
      rw [fl]
    · simp [rI, rL1]
    · simp [rL]
/-- row copies of the model -/
theorem c_copyRow {K : Mm → Prop} {a c : Nat} (ha : a + 12 ≤ 144) (hc : c + 12 ≤ 144) (hd : a + 12 ≤ c ∨ c + 12 ≤ a) (hK : ∀ M1, M1.2 = M.2 → (∀ q, q ≠ 43 → M1.1 q = M.1 q) → (∀ j, j < c ∨ c + 12 ≤ j → M1.1 43 j = M.1 43 j) → (∀ i, i < 12 → M1.1 43 (c + i) = M.1 43 (a + i)) → K M1) : ACv (d + 1) X9_copyRow [.ref 42, .int (nI a), .int (nI c)] M K := by
  refine w_X9_copyRow ?_
  have key : ∀ (j k : Nat) (N : Mm), k + j = 12 → N.2 = M.2 → (∀ q, q ≠ 43 → N.1 q = M.1 q) → (∀ j, j < c ∨ c + 12 ≤ j → N.1 43 j = M.1 43 j) → (∀ i, i < k → N.1 43 (c + i) = M.1 43 (a + i)) → lp_X9_copyRow_2 d N (nI a) (nI c) (nI k) K := by
    intro j
    induction j with
    | zero =>
      intro k N hk g0 g1 g2 g3
      have : k = 12 := by omega
      subst this
      exact z_X9_copyRow_2 ⟨fun _ => hK N g0 g1 g2 g3, fun z => absurd (nI_le (a := 12) (by decide) (by decide)) z⟩
    | succ j ih =>
      intro k N hk g0 g1 g2 g3
      refine z_X9_copyRow_2 ⟨fun z => absurd z (nI_ge (b := 12) (by omega) (by decide)), fun _ => ?_⟩
      rw [nI_add, nI_add, nI_clamp (n := a + k) (by omega), nI_clamp (n := c + k) (by omega), nI_1]
      refine ⟨vp_in_nI (by omega) (by decide), vp_in_nI (by omega) (by decide), ih (k + 1) _ (by omega) g0 (fun q hq => ?_) (fun i hi => ?_) (fun i hi => ?_)⟩
      · rw [wI_ne hq]; exact g1 q hq
      · simp only [rI]
        rw [if_neg (by omega)]
        exact g2 i hi
      · simp only [rI]
        by_cases e : i = k
        · subst e
          rw [if_pos ⟨trivial, rfl⟩]
          exact g2 _ (by omega)
        · rw [if_neg (by omega)]
          exact g3 i (by omega)
  exact key 12 0 M (by omega) rfl (fun _ _ => rfl) (fun _ _ => rfl) (fun i hi => absurd hi (by omega))
/-- what the model's become leaves alone -/
def FrM (M M1 : Mm) : Prop := M1.2 = M.2 ∧ (∀ q, q ≠ 42 → q ≠ 43 → M1.1 q = M.1 q) ∧ (∀ j, j ≠ 7 → j ≠ 11 → M1.1 42 j = M.1 42 j) ∧ (∀ j, 108 ≤ j → M1.1 43 j = M.1 43 j) ∧ M1.1 42 11 = 0
theorem RowAt.of {M1 : Mm} {B : Nat} (h : RowAt M B nl pl bo) (hn : nl ≤ 6) (e : ∀ j, B ≤ j → j < B + 12 → M1.1 43 j = M.1 43 j) : RowAt M1 B nl pl bo := fun i hi => ⟨(e _ (by omega) (by omega)).trans (h i hi).1, (e _ (by omega) (by omega)).trans (h i hi).2⟩
theorem RowAt.mv {M1 : Mm} {B C : Nat} (h : RowAt M B nl pl bo) (hn : nl ≤ 6) (e : ∀ j, j < 12 → M1.1 43 (C + j) = M.1 43 (B + j)) : RowAt M1 C nl pl bo := fun i hi => ⟨(e i (by omega)).trans (h i hi).1, by have := e (6 + i) (by omega); rw [← Nat.add_assoc, ← Nat.add_assoc] at this; exact this.trans (h i hi).2⟩
theorem c_becomeEnd {K : Mm → Prop} {N : Mm} {pos : Nat} {v : Int32} {pn : Nat → Nat} {bn : Nat → Option Nat} {v1 : Nat} (hv1 : v1 ≤ 7) (hn : nl ≤ 6) (hp : pos < 12) (hN : N.1 42 7 = nI v1) (hrow : RowAt N 0 nl pl bo) (hold : ∀ k, k < v1 → RowAt N (12 + 12 * k) nl (ps k) (bs k)) (hps : ps v1 = pl ∧ bs v1 = bo) (hnew : ∀ N1 : Mm, RowAt N1 0 nl pl bo → RowAt (wI N1 43 pos v) 0 nl pn bn) (hK : ∀ M1, M1.1 42 7 = nI (v1 + 1) → (∀ k, k < v1 + 1 → RowAt M1 (12 + 12 * k) nl (ps k) (bs k)) → RowAt M1 0 nl pn bn → FrM N M1 → K M1) : ACv (d + 1) X9_copyRow [.ref 42, .int 0, .int (nI (12 + 12 * v1))] N (fun M1 => vp_in (nI pos) 144 ∧ K (wI (wI (wI M1 42 7 (M1.1 42 7 + 1)) 43 (nI pos).toNatClampNeg v) 42 11 0)) := by
  refine c_copyRow (a := 0) (c := 12 + 12 * v1) (by omega) (by omega) (by omega) (fun M1 e1 e2 e3 e4 => ⟨vp_in_nI (by omega) (by decide), ?_⟩)
  rw [nI_clamp (by omega), e2 42 (by decide), hN, nI_1]
  have r0 : RowAt M1 0 nl pl bo := hrow.of hn (fun j _ hj => e3 j (by omega))
  have r1 := hnew (wI M1 42 7 (nI (v1 + 1))) (r0.of hn (fun j _ _ => by simp [rI]))
  refine hK _ (by simp [rI]) (fun k hk => ?_) (r1.of hn (fun j _ _ => by simp [rI])) ⟨by rw [← e1]; rfl, fun q a1 a2 => ?_, fun j a1 a2 => ?_, fun j a1 => ?_, by simp [rI]⟩
  · have base : RowAt M1 (12 + 12 * k) nl (ps k) (bs k) := by
      by_cases e : k = v1
      · subst e
        rw [hps.1, hps.2]
        exact hrow.mv hn (fun j hj => by rw [e4 j hj])
      · exact (hold k (by omega)).of hn (fun j q1 q2 => e3 j (by omega))
    refine base.of hn (fun j q1 q2 => ?_)
    have : ¬ j = pos := by omega
    simp [rI, this]
  · rw [wI_ne a1, wI_ne a2, wI_ne a1, e2 q a2]
  · simp [rI, a1, a2, e2 42 (by decide)]
  · have : ¬ j = pos := by omega
    simp [rI, this]
    exact e3 j (by omega)
theorem c_become {K : Mm → Prop} {pos : Nat} {v : Int32} {pn : Nat → Nat} {bn : Nat → Option Nat} (hU : UnM M nl u ps bs) (hL : LtM M nl (ps u) (bs u)) (hu : u ≤ 8) (hn : nl ≤ 6) (hp : pos < 12) (hnew : ∀ N1 : Mm, RowAt N1 0 nl (ps u) (bs u) → RowAt (wI N1 43 pos v) 0 nl pn bn) (hK : ∀ M1, UnM M1 nl (u7 u + 1) (exS u ps pn) (exS u bs bn) → LtM M1 nl pn bn → FrM M M1 → K M1) : ACv (d + 2) X9_become [.ref 42, .int (nI pos), .int v] M K := by
  obtain ⟨h0, h1⟩ := hU
  have r0 : RowAt M 0 nl (ps u) (bs u) := fun i hi => by
    have := hL.2 i hi
    simp only [Nat.zero_add]
    exact this
  have fin : ∀ M1, M1.1 42 7 = nI (u7 u + 1) → (∀ k, k < u7 u + 1 → RowAt M1 (12 + 12 * k) nl (ps (k + (u - u7 u))) (bs (k + (u - u7 u)))) → RowAt M1 0 nl pn bn → FrM M M1 → K M1 := by
    intro M1 g0 g1 g2 g3
    refine hK M1 ⟨g0, fun k hk => ?_⟩ ⟨by rw [g3.2.2.1 5 (by decide) (by decide)]; exact hL.1, fun i hi => ?_⟩ g3
    · have := g1 k hk
      unfold exS
      rw [if_pos (by omega), if_pos (by omega)]
      exact this
    · have := g2 i hi
      simp only [Nat.zero_add] at this
      exact this
  refine w_X9_become ?_
  by_cases hu8 : u = 8
  · subst hu8
    have e7 : u7 8 = 7 := rfl
    have key : ∀ (j k : Nat) (N : Mm), k + j = 84 → N.2 = M.2 → (∀ q, q ≠ 43 → N.1 q = M.1 q) → (∀ i, i < 12 ∨ 96 ≤ i → N.1 43 i = M.1 43 i) → (∀ i, i < k → N.1 43 (12 + i) = M.1 43 (24 + i)) → (∀ i, k ≤ i → i < 84 → N.1 43 (12 + (12 + i)) = M.1 43 (24 + i)) → lp_X9_become_2 (d + 1) N (nI pos) v (nI k) K := by
      intro j
      induction j with
      | zero =>
        intro k N hk g0 g1 g2 g3 g4
        have : k = 84 := by omega
        subst this
        have hN : N.1 42 7 = nI 8 := by rw [g1 42 (by decide)]; exact h0
        refine z_X9_become_2 ⟨fun _ => ⟨fun z => absurd hN z, fun _ => ?_⟩, fun z => absurd (nI_le (a := 84) (by decide) (by decide)) z⟩
        rw [hN]
        show ACv (d + 1) X9_copyRow [.ref 42, .int 0, .int (nI (12 + 12 * 7))] (wI N 42 7 (nI 7)) _
        refine c_becomeEnd (ps := fun k => ps (k + 1)) (bs := fun k => bs (k + 1)) (pl := ps 8) (bo := bs 8) (v1 := 7) (by decide) hn hp (by simp [rI]) ?_ (fun k hk => ?_) ⟨rfl, rfl⟩ hnew (fun M1 q0 q1 q2 q3 => fin M1 (by rw [e7]; exact q0) (fun k hk => ?_) q2 ?_)
        · exact r0.of hn (fun j _ hj => by simp [rI]; exact g2 j (by omega))
        · refine (h1 (k + 1) (by omega)).mv hn (fun j hj => ?_)
          have := g3 (12 * k + j) (by omega)
          simp only [rI]
          rw [if_neg (by omega), show 12 + 12 * k + j = 12 + (12 * k + j) by omega, this, show 24 + (12 * k + j) = 12 + 12 * (k + 1) + j by omega]
        · rw [e7] at hk ⊢
          exact q1 k hk
        · refine ⟨q3.1.trans g0, fun q a1 a2 => (q3.2.1 q a1 a2).trans ?_, fun j a1 a2 => (q3.2.2.1 j a1 a2).trans ?_, fun j a1 => (q3.2.2.2.1 j a1).trans ?_, q3.2.2.2.2⟩
          · rw [wI_ne a1]; exact g1 q a2
          · simp [rI, a1, g1 42 (by decide)]
          · simp [rI]; exact g2 j (by omega)
      | succ j ih =>
        intro k N hk g0 g1 g2 g3 g4
        have hN : N.1 42 7 = nI 8 := by rw [g1 42 (by decide)]; exact h0
        have e24 : (24 : Int32) + nI k = nI (24 + k) := nI_add 24 k
        have e12 : (12 : Int32) + nI k = nI (12 + k) := nI_add 12 k
        refine z_X9_become_2 ⟨fun z => absurd z (nI_ge (b := 84) (by omega) (by decide)), fun _ => ⟨fun z => absurd hN z, fun _ => ?_⟩⟩
        rw [e24, e12, nI_clamp (n := 24 + k) (by omega), nI_clamp (n := 12 + k) (by omega), nI_1]
        refine ⟨vp_in_nI (by omega) (by decide), vp_in_nI (by omega) (by decide), ih (k + 1) _ (by omega) g0 (fun q hq => ?_) (fun i hi => ?_) (fun i hi => ?_) (fun i q1 q2 => ?_)⟩
        · rw [wI_ne hq]; exact g1 q hq
        · simp only [rI]
          rw [if_neg (by omega)]
          exact g2 i hi
        · simp only [rI]
          by_cases e : i = k
          · subst e
            rw [if_pos ⟨trivial, rfl⟩]
            have := g4 i (Nat.le_refl _) (by omega)
            rw [show 12 + (12 + i) = 24 + i by omega] at this
            exact this
          · rw [if_neg (by omega)]
            exact g3 i (by omega)
        · simp only [rI]
          rw [if_neg (by omega)]
          exact g4 i (by omega) q2
    exact key 84 0 M (by omega) rfl (fun _ _ => rfl) (fun _ _ => rfl) (fun i hi => absurd hi (by omega)) (fun i _ hi => by rw [show 12 + (12 + i) = 24 + i by omega])
  · have e7 : u7 u = u := by unfold u7; rw [if_neg hu8]
    have hne : ¬ nI u = 8 := fun z => hu8 ((nI_eq (b := 8) (by omega) (by decide)).mp z)
    have em : nI u - 0 = nI u := by simp
    have e12 : (12 : Int32) + 12 * nI u = nI (12 + 12 * u) := by rw [m12]; exact nI_add 12 _
    have go : ACv (d + 1) X9_copyRow [.ref 42, .int 0, .int (nI (12 + 12 * u))] (wI M 42 7 (nI u)) (fun M1 => vp_in (nI pos) 144 ∧ K (wI (wI (wI M1 42 7 (M1.1 42 7 + 1)) 43 (nI pos).toNatClampNeg v) 42 11 0)) := by
      refine c_becomeEnd (pl := ps u) (bo := bs u) (v1 := u) (by omega) hn hp (by simp [rI]) (r0.of hn (fun j _ _ => by simp [rI])) (fun k hk => (h1 k hk).of hn (fun j _ _ => by simp [rI])) ⟨rfl, rfl⟩ hnew (fun M1 q0 q1 q2 q3 => fin M1 (by rw [e7]; exact q0) (fun k hk => ?_) q2 ?_)
      · rw [e7] at hk ⊢
        rw [Nat.sub_self]
        exact q1 k hk
      · refine ⟨q3.1, fun q a1 a2 => (q3.2.1 q a1 a2).trans (wI_ne a1), fun j a1 a2 => (q3.2.2.1 j a1 a2).trans (by simp [rI, a1]), fun j a1 => (q3.2.2.2.1 j a1).trans (by simp [rI]), q3.2.2.2.2⟩
    refine z_X9_become_2 ?_
    rw [h0, em, e12]
    exact ⟨fun z => ⟨fun _ => go, fun z => absurd z hne⟩, fun _ => ⟨fun _ => ⟨fun _ => go, fun z => absurd z hne⟩, fun z => absurd z hne⟩⟩
end CO
