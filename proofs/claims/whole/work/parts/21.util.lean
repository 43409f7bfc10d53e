/-! UTIL: reads over writes, comparisons, small contracts of both sides. -/
theorem rI {M : Mm} {a j a' j' : Nat} {x : Int32} : (wI M a j x).1 a' j' = if a' = a ∧ j' = j then x else M.1 a' j' := rfl
theorem rI2 {M : Mm} {a j : Nat} {x : Int32} : (wI M a j x).2 = M.2 := rfl
theorem rL {M : Mm} {a j a' j' : Nat} {x : Int64} : (wL M a j x).2 a' j' = if a' = a ∧ j' = j then x else M.2 a' j' := rfl
theorem rL1 {M : Mm} {a j : Nat} {x : Int64} : (wL M a j x).1 = M.1 := rfl
theorem rC {M : Mm} {sa sp da dp n a' j' : Nat} : (cpI M sa sp da dp n).1 a' j' = if a' = da then (if dp ≤ j' ∧ j' < dp + n then M.1 sa (sp + (j' - dp)) else M.1 da j') else M.1 a' j' := rfl
theorem rC2 {M : Mm} {sa sp da dp n : Nat} : (cpI M sa sp da dp n).2 = M.2 := rfl
theorem rCL {M : Mm} {sa sp da dp n a' j' : Nat} : (cpL M sa sp da dp n).2 a' j' = if a' = da then (if dp ≤ j' ∧ j' < dp + n then M.2 sa (sp + (j' - dp)) else M.2 da j') else M.2 a' j' := rfl
theorem rCL1 {M : Mm} {sa sp da dp n : Nat} : (cpL M sa sp da dp n).1 = M.1 := rfl
theorem cpI_ne {M : Mm} {sa sp da dp n q : Nat} (h : q ≠ da) : (cpI M sa sp da dp n).1 q = M.1 q := by funext k; simp [cpI, h]
theorem cpL_ne {M : Mm} {sa sp da dp n q : Nat} (h : q ≠ da) : (cpL M sa sp da dp n).2 q = M.2 q := by funext k; simp [cpL, h]
theorem lgc_lt (x y : Int64) : lg_cmp x y < 0 ↔ x < y := by
  unfold lg_cmp
  simp only [gt_iff_lt, Int64.lt_iff_toInt_lt, ← Int64.toInt_inj]
  repeat' split
  all_goals (constructor <;> intro hh <;> first | omega | decide | exact absurd hh (by decide))
theorem lgc_gt (x y : Int64) : 0 < lg_cmp x y ↔ y < x := by
  unfold lg_cmp
  simp only [gt_iff_lt, Int64.lt_iff_toInt_lt, ← Int64.toInt_inj]
  repeat' split
  all_goals (constructor <;> intro hh <;> first | omega | decide | exact absurd hh (by decide))
theorem lgc_eq (x y : Int64) : lg_cmp x y = 0 ↔ x = y := by
  unfold lg_cmp
  simp only [gt_iff_lt, Int64.lt_iff_toInt_lt, ← Int64.toInt_inj]
  repeat' split
  all_goals (constructor <;> intro hh <;> first | omega | decide | exact absurd hh (by decide))
theorem tI0 : (0 : Int32).toInt = 0 := by decide
theorem tN {n : Nat} (h : n < 2147483648) : (nI n).toInt = (n : Int) := nI_toInt h
/-- an int below n, not negative -/
theorem i_of {x : Int32} {n : Nat} (h0 : 0 ≤ x.toInt) (h1 : x.toInt < n) : ∃ j : Nat, j < n ∧ x = nI j := by
  obtain ⟨j, hj, rfl⟩ := nI_of (x := x) (by rw [fa_lt, tI0]; omega)
  rw [tN hj] at h1
  exact ⟨j, by omega, rfl⟩
theorem c_in {d : Nat} {M : Mm} {K : Int32 → Mm → Prop} {x : Int32} {lo hi : Int64} {l u : Int} (hl : lo.toInt = l) (hu : hi.toInt = u) (h1 : l ≤ x.toInt → x.toInt ≤ u → K 1 M) (h0 : (x.toInt < l ∨ u < x.toInt) → K 0 M) : ACi (d + 1) X9_in [.long x.toInt64, .long lo, .long hi] M K := by
  refine w_X9_in ⟨fun c => ?_, fun c => ⟨fun c2 => ?_, fun c2 => ?_⟩⟩
  · rw [lgc_lt, fa_lt64, Int32.toInt_toInt64, hl] at c
    exact h0 (Or.inl c)
  · rw [lgc_gt, fa_lt64, Int32.toInt_toInt64, hu] at c2
    exact h0 (Or.inr c2)
  · rw [lgc_lt, fa_lt64, Int32.toInt_toInt64, hl] at c
    rw [lgc_gt, fa_lt64, Int32.toInt_toInt64, hu] at c2
    exact h1 (by omega) (by omega)
/-- a contract may be weakened at its end -/
theorem c_isTape {d : Nat} {M : Mm} {K : Int32 → Mm → Prop} {x : Int32} (h1 : ∀ t, t < 3 → x = nI t → K 1 M) (h0 : (x.toInt < 0 ∨ 2 < x.toInt) → K 0 M) : ACi (d + 2) X9_isTape [.int x] M K := by
  refine w_X9_isTape (c_in (l := 0) (u := 2) (by decide) (by decide) (fun a b => ⟨Or.inr rfl, ?_⟩) (fun a => ⟨Or.inl rfl, h0 a⟩))
  obtain ⟨t, ht, e⟩ := i_of (n := 3) a (by omega)
  exact h1 t ht e
def isNum (x : Int32) : Prop := -9999 ≤ x.toInt ∧ x.toInt ≤ 9999
theorem c_isNumM {d : Nat} {M : Mm} {K : Int32 → Mm → Prop} {x : Int32} (h1 : isNum x → K 1 M) (h0 : ¬ isNum x → K 0 M) : ACi (d + 2) X9_isNumber [.int x] M K := by
  refine w_X9_isNumber (c_in (l := -9999) (u := 9999) (by decide) (by decide) (fun a b => ⟨Or.inr rfl, h1 ⟨a, b⟩⟩) (fun a => ⟨Or.inl rfl, h0 (fun z => ?_)⟩))
  obtain ⟨z1, z2⟩ := z
  omega
theorem c_isNumC {d : Nat} {M : Mm} {K : Int32 → Mm → Prop} {x : Int32} (h1 : isNum x → K 1 M) (h0 : ¬ isNum x → K 0 M) : ACi (d + 1) X8_isNumber [.int x] M K := by
  have e1 : (-9999 : Int32).toInt = -9999 := by decide
  have e2 : (9999 : Int32).toInt = 9999 := by decide
  refine w_X8_isNumber ⟨fun c => h0 (fun z => ?_), fun c => ⟨fun c2 => h0 (fun z => ?_), fun c2 => h1 ⟨?_, ?_⟩⟩⟩
  · rw [fa_lt, e1] at c; exact absurd z.1 (by omega)
  · rw [fa_lt, e2] at c2; exact absurd z.2 (by omega)
  · rw [fa_lt, e1] at c; omega
  · rw [fa_lt, e2] at c2; omega
theorem c_isEnd {d : Nat} {M : Mm} {K : Int32 → Mm → Prop} {x : Int32} (h1 : x = 0 ∨ x = 1 → K 1 M) (h0 : ¬ (x = 0 ∨ x = 1) → K 0 M) : ACi (d + 1) X8_isEnd [.int x] M K :=
  w_X8_isEnd ⟨fun c => h1 (Or.inl c), fun c => ⟨fun c2 => h0 (fun z => z.elim c c2), fun c2 => h1 (Or.inr c2)⟩⟩
theorem i01 {x : Int32} (h : 0 ≤ x.toInt) (h2 : x.toInt ≤ 1) : x = 0 ∨ x = 1 := by
  obtain ⟨j, hj, rfl⟩ := i_of (n := 2) h (by omega)
  match j, hj with
  | 0, _ => exact Or.inl rfl
  | 1, _ => exact Or.inr rfl
theorem n01 {x : Int32} (h : x.toInt < 0 ∨ 1 < x.toInt) : ¬ (x = 0 ∨ x = 1) := by
  rintro (rfl | rfl)
  · exact absurd h (by decide)
  · exact absurd h (by decide)
theorem c_in01 {d : Nat} {M : Mm} {K : Int32 → Mm → Prop} {x : Int32} (h1 : x = 0 ∨ x = 1 → K 1 M) (h0 : ¬ (x = 0 ∨ x = 1) → K 0 M) : ACi (d + 1) X9_in [.long x.toInt64, .long 0, .long 1] M K :=
  c_in (l := 0) (u := 1) (by decide) (by decide) (fun a b => h1 (i01 a b)) (fun a => h0 (n01 a))
theorem c_tapeAt {d : Nat} {M : Mm} {K : Option Nat → Mm → Prop} {x : Int32} (h1 : ∀ t, t < 3 → x = nI t → K (some (36 + 2 * t)) M) (h0 : (x.toInt < 0 ∨ 2 < x.toInt) → K none M) : ACr (d + 1) X8_tapeAt [.ref 0, .int x] M K := by
  have e3 : (3 : Int32).toInt = 3 := by decide
  refine w_X8_tapeAt ⟨fun c => h0 (Or.inl ?_), fun c => ⟨fun c2 => ?_, fun c2 => h0 (Or.inr ?_)⟩⟩
  · rw [fa_lt, tI0] at c; exact c
  · rw [fa_lt, tI0] at c
    rw [fa_lt, e3] at c2
    obtain ⟨t, ht, rfl⟩ := i_of (x := x) (n := 3) (by omega) c2
    refine ⟨vp_in_nI ht (by decide), 36 + 2 * t, ?_, ?_, h1 t ht rfl⟩
    · rw [nI_clamp (by omega)]
      match t, ht with
      | 0, _ => rfl
      | 1, _ => rfl
      | 2, _ => rfl
    · match t, ht with
      | 0, _ => exact Or.inl rfl
      | 1, _ => exact Or.inr (Or.inl rfl)
      | 2, _ => exact Or.inr (Or.inr rfl)
  · rw [fa_lt, e3] at c2; omega
