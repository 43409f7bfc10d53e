/-! THE INVARIANT between the class's memory and the model's. -/
def ToldI (M : Mm) (nr nl : Nat) (tp : Nat → Nat) (tb : Nat → Option Nat) : Prop := M.1 5 0 = nI nl ∧ (∀ i, i < nl → M.1 6 i = nI (tp i) ∧ M.1 7 i = oi (tb i)) ∧ RowAt M 132 nl tp tb ∧ (∀ i, nl ≤ i → i < 6 → M.1 43 (132 + 6 + i) = -1) ∧ LtW nr nl tp tb
def KeptI (M : Mm) (nr nl : Nat) : Prop := ∀ k, k < 2 → (M.1 (16 + 3 * k) 3 = 0 ∧ M.1 45 k = 0) ∨ (M.1 (16 + 3 * k) 3 = 1 ∧ M.1 45 k = 1 ∧ ∃ pk bk, M.1 (16 + 3 * k) 0 = nI nl ∧ (∀ i, i < nl → M.1 (16 + 3 * k + 1) i = nI (pk i) ∧ M.1 (16 + 3 * k + 2) i = oi (bk i)) ∧ RowAt M (108 + 12 * k) nl pk bk ∧ LtW nr nl pk bk)
def WatOff (M : Mm) : Prop := M.1 34 0 = 0 ∧ M.2 34 2 = 0 ∧ M.1 42 11 = 0
def WatOn (M : Mm) (b nl : Nat) (bo : Nat → Option Nat) (T : Nat) (lf ms : Nat → Bool) : Prop := T < b ∧ M.1 34 0 = 1 ∧ M.1 42 11 = 1 ∧ M.1 34 1 = M.1 42 12 ∧ (M.1 34 1 = 0 ∨ M.1 34 1 = 1) ∧ M.1 34 4 = nI T ∧ M.2 34 2 = lN (bsN lf 48) ∧ M.2 34 3 = lN (bsN ms 48) ∧ (∀ p, p < 48 → M.1 47 p = (if lf p then 1 else 0)) ∧ ∀ p, p < 48 → lf p = true → p / 8 < nl ∧ p % 8 < b ∧ (bo (p / 8)).isSome = true ∧ M.1 48 p = nI ((p % 8 + T) % b) ∧ M.1 49 p = (if ms p then 1 else 0)
def WatchI (M : Mm) (b nl : Nat) (bo : Nat → Option Nat) : Prop := WatOff M ∨ ∃ T lf ms, WatOn M b nl bo T lf ms
def TextR (M : Mm) (n : Nat) (tx : Nat → Nat) : Prop := n ≤ 200 ∧ M.1 1 0 = nI n ∧ M.1 42 10 = nI n ∧ ∀ i, i < n → M.1 2 i = nI (tx i) ∧ M.1 46 i = nI (tx i) ∧ tx i < 256
def TextI (M : Mm) : Prop := ∃ n tx, TextR M n tx
def WordsI (M : Mm) : Prop := ∀ k, k < 6 → ∀ j, j < strN.getD k 0 → M.1 (53 + k) j = (strB.getD k []).getD j 0
def CoI (M : Mm) (b w sg nr nl : Nat) (num : Nat → Nat) (u : Nat) (ps : Nat → Nat → Nat) (bs : Nat → Nat → Option Nat) (tp : Nat → Nat) (tb : Nat → Option Nat) : Prop :=
  (BkC M b w sg nr num ∧ BkM M b w sg nr num ∧ BkW b w sg nr num) ∧ (LtC M nl (ps u) (bs u) ∧ LtM M nl (ps u) (bs u)) ∧ (UnC M nl u ps bs ∧ UnM M nl u ps bs ∧ UnW nr nl u ps bs) ∧ ToldI M nr nl tp tb ∧ KeptI M nr nl ∧ WatchI M b nl (bs u) ∧ TapesI M ∧ TextI M ∧ WordsI M
def Inv (M : Mm) : Prop := ∃ b w sg nr nl num u ps bs tp tb, CoI M b w sg nr nl num u ps bs tp tb
/-- a public call: both answer alike, and the invariant stays -/
abbrev Pr (X Y : Md) (vs : List Value) (M : Mm) : Prop := ∀ d, ACi (d + 20) X (.ref 0 :: vs) M (fun r M1 => ACi (d + 20) Y (.ref 42 :: vs) M1 (fun r' M2 => r = r' ∧ Inv M2))
section OF
variable {M N : Mm} {b w sg nr nl : Nat} {num pl : Nat → Nat} {bo : Nat → Option Nat} {u : Nat} {ps : Nat → Nat → Nat} {bs : Nat → Nat → Option Nat}
theorem BkC.of (h : BkC M b w sg nr num) (e1 : N.1 3 = M.1 3) (e2 : N.1 4 = M.1 4) : BkC N b w sg nr num := by unfold BkC at *; rw [e1, e2]; exact h
theorem BkM.of (h : BkM M b w sg nr num) (e1 : ∀ j, 1 ≤ j → j ≤ 4 → N.1 42 j = M.1 42 j) (e2 : N.1 44 = M.1 44) : BkM N b w sg nr num := by unfold BkM at *; rw [e1 1 (by decide) (by decide), e1 2 (by decide) (by decide), e1 3 (by decide) (by decide), e1 4 (by decide) (by decide), e2]; exact h
theorem LtC.of (h : LtC M nl pl bo) (e1 : N.1 13 0 = M.1 13 0) (e2 : N.1 14 = M.1 14) (e3 : N.1 15 = M.1 15) : LtC N nl pl bo := by unfold LtC at *; rw [e1, e2, e3]; exact h
theorem LtM.of (h : LtM M nl pl bo) (e1 : N.1 42 5 = M.1 42 5) (e2 : N.1 43 = M.1 43) : LtM N nl pl bo := by unfold LtM at *; rw [e1, e2]; exact h
theorem UnC.of (h : UnC M nl u ps bs) (e1 : N.1 22 0 = M.1 22 0) (e2 : N.1 23 = M.1 23) (e3 : N.1 24 = M.1 24) (e4 : N.1 25 = M.1 25) : UnC N nl u ps bs := by unfold UnC at *; rw [e1, e2, e3, e4]; exact h
theorem UnM.of (h : UnM M nl u ps bs) (e1 : N.1 42 7 = M.1 42 7) (e2 : N.1 43 = M.1 43) : UnM N nl u ps bs := by unfold UnM RowAt at *; rw [e1, e2]; exact h
theorem ToldI.of (h : ToldI M nr nl pl bo) (e1 : N.1 5 0 = M.1 5 0) (e2 : N.1 6 = M.1 6) (e3 : N.1 7 = M.1 7) (hn : nl ≤ 6) (e4 : ∀ j, 132 ≤ j → j < 144 → N.1 43 j = M.1 43 j) : ToldI N nr nl pl bo := by
  obtain ⟨h1, h2, h3, h4, h5⟩ := h
  exact ⟨e1.trans h1, fun i hi => by rw [e2, e3]; exact h2 i hi, h3.of hn (fun j a b => e4 j a b), fun i a b => (e4 _ (by omega) (by omega)).trans (h4 i a b), h5⟩
theorem KeptI.of (h : KeptI M nr nl) (e1 : ∀ q, 16 ≤ q → q ≤ 21 → N.1 q = M.1 q) (e2 : N.1 45 = M.1 45) (hn : nl ≤ 6) (e3 : ∀ j, 108 ≤ j → j < 132 → N.1 43 j = M.1 43 j) : KeptI N nr nl := by
  intro k hk
  rw [e1 (16 + 3 * k) (by omega) (by omega), e2, e1 (16 + 3 * k + 1) (by omega) (by omega), e1 (16 + 3 * k + 2) (by omega) (by omega)]
  rcases h k hk with q | ⟨q1, q2, pk, bk, q3, q4, q5, q6⟩
  · exact Or.inl q
  · exact Or.inr ⟨q1, q2, pk, bk, q3, q4, q5.of hn (fun j a b => e3 j (by omega) (by omega)), q6⟩
theorem WatchI.of (h : WatchI M b nl bo) (e1 : N.1 34 = M.1 34) (e2 : N.2 34 = M.2 34) (e3 : N.1 42 11 = M.1 42 11) (e4 : N.1 42 12 = M.1 42 12) (e5 : N.1 47 = M.1 47) (e6 : N.1 48 = M.1 48) (e7 : N.1 49 = M.1 49) : WatchI N b nl bo := by
  unfold WatchI WatOff WatOn at *
  rw [e1, e2, e3, e4, e5, e6, e7]
  exact h
theorem TapesI.of (h : TapesI M) (e1 : ∀ q, 36 ≤ q → q ≤ 41 → N.1 q = M.1 q) (e2 : N.1 50 = M.1 50) (e3 : N.1 51 = M.1 51) : TapesI N := by
  intro t ht
  obtain ⟨hr, xs, h1, h2, h3⟩ := h t ht
  exact ⟨hr, xs, h1.of (e1 _ (by omega) (by omega)) (e1 _ (by omega) (by omega)), h2.of (by rw [e2]) (fun j _ _ => by rw [e3]), h3⟩
theorem TextI.of (h : TextI M) (e1 : N.1 1 0 = M.1 1 0) (e2 : N.1 2 = M.1 2) (e3 : N.1 42 10 = M.1 42 10) (e4 : N.1 46 = M.1 46) : TextI N := by
  obtain ⟨n, tx, h⟩ := h
  refine ⟨n, tx, ?_⟩
  unfold TextR at *
  rw [e1, e2, e3, e4]
  exact h
theorem WordsI.of (h : WordsI M) (e : ∀ q, 53 ≤ q → q ≤ 58 → N.1 q = M.1 q) : WordsI N := fun k hk j hj => by rw [e (53 + k) (by omega) (by omega)]; exact h k hk j hj
end OF
theorem lift0 {X Y : Md} {vs : List Value} {M : Mm} (h : Inv M) (hp : Pr0 X Y vs M) (mono : ∀ (d : Nat) (Z : Md) (vs : List Value) (M : Mm) (K K' : Int32 → Mm → Prop), (∀ r M', K r M' → K' r M') → ACi d Z vs M K → ACi d Z vs M K') : Pr X Y vs M := fun d => mono _ _ _ _ _ _ (fun r M1 h1 => mono _ _ _ _ _ _ (fun r' M2 h2 => ⟨h2.1, by rw [h2.2]; exact h⟩) h1) (hp d)
