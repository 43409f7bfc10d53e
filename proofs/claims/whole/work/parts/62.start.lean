/-! THE START: what the two constructors leave, as an abstract memory. By program. -/
def P8 (h0 : Nat) (wx' : va_W) (tys' : Ty) : Prop := ∃ (q1 : Nat) (q2 : Nat) (c3 : ClassId) (q4 : Nat) (q5 : Nat) (c6 : ClassId) (q7 : Nat) (q8 : Nat) (c9 : ClassId) (q10 : Nat) (c11 : ClassId) (q12 : Nat) (q13 : Nat) (c14 : ClassId) (q15 : Nat) (q16 : Nat) (c17 : ClassId) (q18 : Nat) (c19 : ClassId) (q20 : Nat) (q21 : Nat) (c22 : ClassId) (q23 : Nat) (c24 : ClassId) (q25 : Nat) (q26 : Nat) (c27 : ClassId) (q28 : Nat) (c29 : ClassId) (q30 : Nat) (c31 : ClassId) (q32 : Nat) (q33 : Nat) (c34 : ClassId) (q35 : Nat) (c36 : ClassId) (q37 : Nat) (q38 : Nat) (c39 : ClassId) (q40 : Nat) (c41 : ClassId) (q42 : Nat) (q43 : Nat) (c44 : ClassId) (q45 : Nat) (c46 : ClassId) (q47 : Nat) (c48 : ClassId) (q49 : Nat) (c50 : ClassId) (q51 : Nat) (q52 : Nat) (c53 : ClassId) (q54 : Nat) (c55 : ClassId) (q56 : Nat) (q57 : Nat) (c58 : ClassId) (q59 : Nat) (q60 : Nat) (c61 : ClassId) (q62 : Nat) (q63 : Nat) (c64 : ClassId) (q65 : Nat) (q66 : Nat) (c67 : ClassId), wx' = [(h0, .inr (8, [.ref q1, .ref q4, .ref q12, .ref q20, .ref q25, .ref q32, .ref q37, .ref q42, .ref q51, .ref q56, .ref q57])), (q1, .inr (6, [.int 0, .int 0, .ref q2, .int 0, .int 0])), (q2, .inl (c3, 200, .inl (fun _ => 0))), (q4, .inr (0, [.int 4, .int 2, .int 20, .int 0, .ref q5, .ref q7])), (q5, .inl (c6, 8, .inl (fun _ => 0))), (q7, .inr (2, [.int 0, .ref q8, .ref q10, .int 0])), (q8, .inl (c9, 6, .inl (fun _ => 0))), (q10, .inl (c11, 6, .inl (fun _ => 0))), (q12, .inr (0, [.int 4, .int 2, .int 20, .int 0, .ref q13, .ref q15])), (q13, .inl (c14, 8, .inl (fun _ => 0))), (q15, .inr (2, [.int 0, .ref q16, .ref q18, .int 0])), (q16, .inl (c17, 6, .inl (fun _ => 0))), (q18, .inl (c19, 6, .inl (fun _ => 0))), (q20, .inr (2, [.int 0, .ref q21, .ref q23, .int 0])), (q21, .inl (c22, 6, .inl (fun _ => 0))), (q23, .inl (c24, 6, .inl (fun _ => 0))), (q25, .inr (1, [.int 0, .ref q26, .ref q28, .ref q30])), (q26, .inl (c27, 8, .inl (fun _ => 0))), (q28, .inl (c29, 8, .inl (fun _ => 0))), (q30, .inl (c31, 8, .inl (fun _ => 0))), (q32, .inr (2, [.int 0, .ref q33, .ref q35, .int 0])), (q33, .inl (c34, 6, .inl (fun _ => 0))), (q35, .inl (c36, 6, .inl (fun _ => 0))), (q37, .inr (2, [.int 0, .ref q38, .ref q40, .int 0])), (q38, .inl (c39, 6, .inl (fun _ => 0))), (q40, .inl (c41, 6, .inl (fun _ => 0))), (q42, .inr (4, [.int 0, .ref q43, .int 0, .int 0, .ref q45, .ref q47, .ref q49])), (q43, .inl (c44, 6, .inl (fun _ => 0))), (q45, .inl (c46, 6, .inl (fun _ => 0))), (q47, .inl (c48, 6, .inl (fun _ => 0))), (q49, .inl (c50, 8, .inl (fun _ => 0))), (q51, .inr (3, [.ref q52, .ref q54, .int 0, .int 0, .long 0, .long 0, .long 0])), (q52, .inl (c53, 256, .inr (.inl (fun _ => 0)))), (q54, .inl (c55, 48, .inr (.inl (fun _ => 0)))), (q56, .inr (7, [.int 0, .int 0, .long 0, .long 0, .int 0])), (q57, .inl (c58, 3, .inr (.inr (.inr (.inr (va_up (va_up (va_up (fun _ => none) 0 (some q59)) 1 (some q62)) 2 (some q65))))))), (q59, .inr (5, [.int 0, .int 0, .ref q60])), (q60, .inl (c61, 12, .inl (fun _ => 0))), (q62, .inr (5, [.int 0, .int 0, .ref q63])), (q63, .inl (c64, 12, .inl (fun _ => 0))), (q65, .inr (5, [.int 0, .int 0, .ref q66])), (q66, .inl (c67, 12, .inl (fun _ => 0)))] ∧ tys' = [(c3, .int), (c6, .int), (c9, .int), (c11, .int), (c14, .int), (c17, .int), (c19, .int), (c22, .int), (c24, .int), (c27, .int), (c29, .int), (c31, .int), (c34, .int), (c36, .int), (c39, .int), (c41, .int), (c44, .int), (c46, .int), (c48, .int), (c50, .int), (c53, .long), (c55, .long), (c58, .object "HarbourLights$Tape"), (c61, .int), (c64, .int), (c67, .int)]
def P9 (h0 : Nat) (wx' : va_W) (tys' : Ty) : Prop := ∃ (q1 : Nat) (c2 : ClassId) (q3 : Nat) (c4 : ClassId) (q5 : Nat) (c6 : ClassId) (q7 : Nat) (c8 : ClassId) (q9 : Nat) (c10 : ClassId) (q11 : Nat) (c12 : ClassId) (q13 : Nat) (c14 : ClassId) (q15 : Nat) (c16 : ClassId) (q17 : Nat) (c18 : ClassId) (q19 : Nat) (c20 : ClassId) (q21 : Nat) (c22 : ClassId) (q23 : Nat) (c24 : ClassId) (q25 : Nat) (c26 : ClassId) (q27 : Nat) (c28 : ClassId) (q29 : Nat) (c30 : ClassId) (q31 : Nat) (c32 : ClassId) (q33 : Nat) (c34 : ClassId) (q35 : Nat) (c36 : ClassId) (q37 : Nat) (c38 : ClassId) (q39 : Nat) (c40 : ClassId) (q41 : Nat) (c42 : ClassId) (q43 : Nat) (c44 : ClassId) (g2 : Nat → Int32), wx' = [(h0, .inr (9, [.ref q1, .int 4, .int 2, .int 20, .int 0, .int 0, .ref q3, .int 0, .ref q5, .ref q7, .int 0, .int 0, .int 0, .ref q9, .ref q11, .ref q13, .ref q15, .ref q17, .int 0, .int 0, .int 0, .int 0, .int 0, .int 0, .int 0, .ref q19, .ref q21, .ref q23, .ref q25, .ref q27, .ref q29, .ref q31, .ref q33, .ref q35, .ref q37, .ref q39, .ref q41, .ref q43])), (q1, .inl (c2, 144, .inl g2)), (q3, .inl (c4, 8, .inl (fun _ => 0))), (q5, .inl (c6, 2, .inl (fun _ => 0))), (q7, .inl (c8, 200, .inl (fun _ => 0))), (q9, .inl (c10, 48, .inl (fun _ => 0))), (q11, .inl (c12, 48, .inl (fun _ => 0))), (q13, .inl (c14, 48, .inl (fun _ => 0))), (q15, .inl (c16, 3, .inl (upd (upd (upd (fun _ => 0) 0 (-1)) 1 (-1)) 2 (-1)))), (q17, .inl (c18, 36, .inl (fun _ => 0))), (q19, .inl (c20, 2, .inl (fun _ => 0))), (q21, .inl (c22, 5, .inl (upd (upd (upd (upd (upd (fun _ => 0) 0 98) 1 101) 2 97) 3 116) 4 115))), (q23, .inl (c24, 6, .inl (upd (upd (upd (upd (upd (upd (fun _ => 0) 0 119) 1 105) 2 110) 3 100) 4 111) 5 119))), (q25, .inl (c26, 5, .inl (upd (upd (upd (upd (upd (fun _ => 0) 0 115) 1 105) 2 103) 3 104) 4 116))), (q27, .inl (c28, 6, .inl (upd (upd (upd (upd (upd (upd (fun _ => 0) 0 114) 1 104) 2 121) 3 116) 4 104) 5 109))), (q29, .inl (c30, 5, .inl (upd (upd (upd (upd (upd (fun _ => 0) 0 108) 1 105) 2 103) 3 104) 4 116))), (q31, .inl (c32, 3, .inl (upd (upd (upd (fun _ => 0) 0 108) 1 105) 2 116))), (q33, .inl (c34, 8, .inl (fun _ => 0))), (q35, .inl (c36, 6, .inl (fun _ => 0))), (q37, .inl (c38, 6, .inl (fun _ => 0))), (q39, .inl (c40, 640, .inr (.inl (fun _ => 0)))), (q41, .inl (c42, 128, .inr (.inl (fun _ => 0)))), (q43, .inl (c44, 128, .inr (.inl (fun _ => 0))))] ∧ tys' = [(c2, .int), (c4, .int), (c6, .boolean), (c8, .int), (c10, .boolean), (c12, .int), (c14, .boolean), (c16, .int), (c18, .int), (c20, .int), (c22, .int), (c24, .int), (c26, .int), (c28, .int), (c30, .int), (c32, .int), (c34, .int), (c36, .int), (c38, .int), (c40, .long), (c42, .long), (c44, .long)] ∧ ∀ i, i < 6 → g2 (132 + 6 + i) = -1
theorem j_X8_init (wr : va_W) (h0 : Nat) : CC X8_init 3 41 738 [.ref h0] wr [(h0, .inr (8, dfX8))] [] (P8 h0) := i_X8_init wr h0
theorem j_X9_init (wr : va_W) (h0 : Nat) : CC X9_init 1 22 1485 [.ref h0] wr [(h0, .inr (9, dfX9))] [] (P9 h0) := i_X9_init wr h0
def tabI (g : Nat → Int32) : List (Nat → Int32) := [(fun _ => 0), (fun _ => 0), (fun _ => 0), (fun j => ([4, 2, 20] : List Int32).getD j 0), (fun _ => 0), (fun _ => 0), (fun _ => 0), (fun _ => 0), (fun j => ([4, 2, 20] : List Int32).getD j 0), (fun _ => 0), (fun _ => 0), (fun _ => 0), (fun _ => 0), (fun _ => 0), (fun _ => 0), (fun _ => 0), (fun _ => 0), (fun _ => 0), (fun _ => 0), (fun _ => 0), (fun _ => 0), (fun _ => 0), (fun _ => 0), (fun _ => 0), (fun _ => 0), (fun _ => 0), (fun _ => 0), (fun _ => 0), (fun _ => 0), (fun _ => 0), (fun _ => 0), (fun _ => 0), (fun _ => 0), (fun _ => 0), (fun _ => 0), (fun _ => 0), (fun _ => 0), (fun _ => 0), (fun _ => 0), (fun _ => 0), (fun _ => 0), (fun _ => 0), (fun j => ([0, 4, 2, 20] : List Int32).getD j 0), g, (fun _ => 0), (fun _ => 0), (fun _ => 0), (fun _ => 0), (fun _ => 0), (fun _ => 0), (upd (upd (upd (fun _ => 0) 0 (-1)) 1 (-1)) 2 (-1)), (fun _ => 0), (fun _ => 0), (upd (upd (upd (upd (upd (fun _ => 0) 0 98) 1 101) 2 97) 3 116) 4 115), (upd (upd (upd (upd (upd (upd (fun _ => 0) 0 119) 1 105) 2 110) 3 100) 4 111) 5 119), (upd (upd (upd (upd (upd (fun _ => 0) 0 115) 1 105) 2 103) 3 104) 4 116), (upd (upd (upd (upd (upd (upd (fun _ => 0) 0 114) 1 104) 2 121) 3 116) 4 104) 5 109), (upd (upd (upd (upd (upd (fun _ => 0) 0 108) 1 105) 2 103) 3 104) 4 116), (upd (upd (upd (fun _ => 0) 0 108) 1 105) 2 116), (fun _ => 0), (fun _ => 0), (fun _ => 0), (fun _ => 0), (fun _ => 0), (fun _ => 0)]
def M0 (g : Nat → Int32) : Mm := (fun a => (tabI g).getD a (fun _ => 0), fun _ _ => 0)
def plL : List Nat := [0, 1, 2, 3, 4, 5, 6, 7, 8, 9, 10, 11, 12, 13, 14, 15, 20, 21, 22, 23, 24, 25, 16, 17, 18, 19, 26, 27, 28, 29, 30, 31, 32, 33, 34, 35, 36, 37, 38, 39, 40, 41, 42, 43, 44, 45, 46, 47, 48, 49, 50, 51, 52, 53, 54, 55, 56, 57, 58, 59, 60, 61, 62, 63, 64]
def pl (k : Nat) : Nat := plL.getD k 0
theorem pl_inj : ∀ i, i < 65 → ∀ j, j < 65 → pl i = pl j → i = j := by decide +kernel
def roO (L : List Nat) (adK adV : Nat → Nat) (fm bb i : Nat) : Nat := match L[i]? with
  | some a => a
  | none => if i = 3000 then fm else if i = 4000 then bb else if i < 2000 then adK (i - 1000) else adV (i - 2000)
theorem up3 (f : Nat → Nat) : va_up (va_up (va_up (fun _ => none) 0 (some (f 36))) 1 (some (f 38))) 2 (some (f 40)) = fun j => (([36, 38, 40] : List Nat)[j]?).map f := by
  funext j
  match j with
  | 0 => rfl
  | 1 => rfl
  | 2 => rfl
  | k + 3 => simp [va_up]
theorem inv0 (g : Nat → Int32) (hg : ∀ i, i < 6 → g (132 + 6 + i) = -1) : Inv (M0 g) := by
  have h0 : ∀ {P : Nat → Prop}, ∀ i, i < 0 → P i := fun i h => absurd h (Nat.not_lt_zero i)
  refine ⟨4, 2, 20, 0, 0, fun _ => 0, 0, fun _ _ => 0, fun _ _ => none, fun _ => 0, fun _ => none, ⟨⟨rfl, rfl, rfl, rfl, h0⟩, ⟨rfl, rfl, rfl, rfl, h0⟩, ⟨by decide, by decide, by decide, by decide, by decide, by decide, by decide, h0⟩⟩, ⟨⟨rfl, h0⟩, ⟨rfl, h0⟩⟩, ⟨⟨rfl, h0⟩, ⟨rfl, h0⟩, ⟨by decide, fun k hk => ⟨by decide, h0⟩⟩⟩, ⟨rfl, h0, h0, fun i _ hi => hg i hi, ⟨by decide, h0⟩⟩, ?_, Or.inl ⟨rfl, rfl, rfl⟩, ?_, ⟨0, fun _ => 0, by decide, rfl, rfl, h0⟩, ?_⟩
  · intro k hk
    match k, hk with
    | 0, _ => exact Or.inl ⟨rfl, rfl⟩
    | 1, _ => exact Or.inl ⟨rfl, rfl⟩
  · intro t ht
    match t, ht with
    | 0, _ => exact ⟨false, [], ⟨rfl, rfl, by decide, h0⟩, ⟨rfl, by decide, h0⟩, fun _ => rfl, fun x hx => absurd hx List.not_mem_nil⟩
    | 1, _ => exact ⟨false, [], ⟨rfl, rfl, by decide, h0⟩, ⟨rfl, by decide, h0⟩, fun _ => rfl, fun x hx => absurd hx List.not_mem_nil⟩
    | 2, _ => exact ⟨false, [], ⟨rfl, rfl, by decide, h0⟩, ⟨rfl, by decide, h0⟩, fun _ => rfl, fun x hx => absurd hx List.not_mem_nil⟩
  · intro k hk j hj
    match k, hk, j, hj with
    | 0, _, 0, _ => rfl
    | 0, _, 1, _ => rfl
    | 0, _, 2, _ => rfl
    | 0, _, 3, _ => rfl
    | 0, _, 4, _ => rfl
    | 0, _, j + 5, hj => exact absurd (show j + 5 < 5 from hj) (by omega)
    | 1, _, 0, _ => rfl
    | 1, _, 1, _ => rfl
    | 1, _, 2, _ => rfl
    | 1, _, 3, _ => rfl
    | 1, _, 4, _ => rfl
    | 1, _, 5, _ => rfl
    | 1, _, j + 6, hj => exact absurd (show j + 6 < 6 from hj) (by omega)
    | 2, _, 0, _ => rfl
    | 2, _, 1, _ => rfl
    | 2, _, 2, _ => rfl
    | 2, _, 3, _ => rfl
    | 2, _, 4, _ => rfl
    | 2, _, j + 5, hj => exact absurd (show j + 5 < 5 from hj) (by omega)
    | 3, _, 0, _ => rfl
    | 3, _, 1, _ => rfl
    | 3, _, 2, _ => rfl
    | 3, _, 3, _ => rfl
    | 3, _, 4, _ => rfl
    | 3, _, 5, _ => rfl
    | 3, _, j + 6, hj => exact absurd (show j + 6 < 6 from hj) (by omega)
    | 4, _, 0, _ => rfl
    | 4, _, 1, _ => rfl
    | 4, _, 2, _ => rfl
    | 4, _, 3, _ => rfl
    | 4, _, 4, _ => rfl
    | 4, _, j + 5, hj => exact absurd (show j + 5 < 5 from hj) (by omega)
    | 5, _, 0, _ => rfl
    | 5, _, 1, _ => rfl
    | 5, _, 2, _ => rfl
    | 5, _, j + 3, hj => exact absurd (show j + 3 < 3 from hj) (by omega)
set_option maxHeartbeats 8000000 in
set_option maxRecDepth 100000 in
theorem st_all {h0 m0 : Nat} {wx1 wx2 : va_W} {ty1 ty2 : Ty} (h8 : P8 h0 wx1 ty1) (h9 : P9 m0 wx2 ty2) (D : va_G) (adK adV : Nat → Nat) (fm bb : Nat) : ∃ (ro : Nat → Nat) (ca : Nat → ClassId) (g : Nat → Int32), Inv (M0 g) ∧ ro 0 = h0 ∧ ro 42 = m0 ∧ ro 3000 = fm ∧ ro 4000 = bb ∧ (∀ i, i < 6 → ro (1000 + i) = adK i ∧ ro (2000 + i) = adV i) ∧ (∀ k, k < 65 → (wx1 ++ wx2)[pl k]? = some (ro k, wE (D, ro, ca) (M0 g) k)) ∧ ∀ (i t n : Nat) (rs : List Nat), shp i = .inl (t, n, rs) → i < 65 → ∃ k : Nat, (ty1 ++ ty2)[k]? = some (ca i, aty t) := by
  obtain ⟨q1, q2, c3, q4, q5, c6, q7, q8, c9, q10, c11, q12, q13, c14, q15, q16, c17, q18, c19, q20, q21, c22, q23, c24, q25, q26, c27, q28, c29, q30, c31, q32, q33, c34, q35, c36, q37, q38, c39, q40, c41, q42, q43, c44, q45, c46, q47, c48, q49, c50, q51, q52, c53, q54, c55, q56, q57, c58, q59, q60, c61, q62, q63, c64, q65, q66, c67, rfl, rfl⟩ := h8
  obtain ⟨r1, d2, r3, d4, r5, d6, r7, d8, r9, d10, r11, d12, r13, d14, r15, d16, r17, d18, r19, d20, r21, d22, r23, d24, r25, d26, r27, d28, r29, d30, r31, d32, r33, d34, r35, d36, r37, d38, r39, d40, r41, d42, r43, d44, g, rfl, rfl, hg⟩ := h9
  refine ⟨roO [h0, q1, q2, q4, q5, q7, q8, q10, q12, q13, q15, q16, q18, q20, q21, q23, q32, q33, q35, q37, q38, q40, q25, q26, q28, q30, q42, q43, q45, q47, q49, q51, q52, q54, q56, q57, q59, q60, q62, q63, q65, q66, m0, r1, r3, r5, r7, r9, r11, r13, r15, r17, r19, r21, r23, r25, r27, r29, r31, r33, r35, r37, r39, r41, r43] adK adV fm bb, fun i => ([c3, c3, c3, c3, c6, c3, c9, c11, c3, c14, c3, c17, c19, c3, c22, c24, c3, c34, c36, c3, c39, c41, c3, c27, c29, c31, c3, c44, c46, c48, c50, c3, c53, c55, c3, c58, c3, c61, c3, c64, c3, c67, c3, d2, d4, d6, d8, d10, d12, d14, d16, d18, d20, d22, d24, d26, d28, d30, d32, d34, d36, d38, d40, d42, d44] : List ClassId).getD i c3, g, inv0 g hg, rfl, rfl, rfl, rfl, ?_, ?_, ?_⟩
  · intro i hi
    match i, hi with
    | 0, _ => exact ⟨rfl, rfl⟩
    | 1, _ => exact ⟨rfl, rfl⟩
    | 2, _ => exact ⟨rfl, rfl⟩
    | 3, _ => exact ⟨rfl, rfl⟩
    | 4, _ => exact ⟨rfl, rfl⟩
    | 5, _ => exact ⟨rfl, rfl⟩
  · intro k hk
    match k, hk with
    | 0, _ => rfl
    | 1, _ => rfl
    | 2, _ => rfl
    | 3, _ => rfl
    | 4, _ => rfl
    | 5, _ => rfl
    | 6, _ => rfl
    | 7, _ => rfl
    | 8, _ => rfl
    | 9, _ => rfl
    | 10, _ => rfl
    | 11, _ => rfl
    | 12, _ => rfl
    | 13, _ => rfl
    | 14, _ => rfl
    | 15, _ => rfl
    | 16, _ => rfl
    | 17, _ => rfl
    | 18, _ => rfl
    | 19, _ => rfl
    | 20, _ => rfl
    | 21, _ => rfl
    | 22, _ => rfl
    | 23, _ => rfl
    | 24, _ => rfl
    | 25, _ => rfl
    | 26, _ => rfl
    | 27, _ => rfl
    | 28, _ => rfl
    | 29, _ => rfl
    | 30, _ => rfl
    | 31, _ => rfl
    | 32, _ => rfl
    | 33, _ => rfl
    | 34, _ => rfl
    | 35, _ => exact (congrArg (fun h => some ((q57, .inl (c58, 3, .inr (.inr (.inr (.inr h))))) : Nat × va_E)) (up3 (roO [h0, q1, q2, q4, q5, q7, q8, q10, q12, q13, q15, q16, q18, q20, q21, q23, q32, q33, q35, q37, q38, q40, q25, q26, q28, q30, q42, q43, q45, q47, q49, q51, q52, q54, q56, q57, q59, q60, q62, q63, q65, q66, m0, r1, r3, r5, r7, r9, r11, r13, r15, r17, r19, r21, r23, r25, r27, r29, r31, r33, r35, r37, r39, r41, r43] adK adV fm bb)))
    | 36, _ => rfl
    | 37, _ => rfl
    | 38, _ => rfl
    | 39, _ => rfl
    | 40, _ => rfl
    | 41, _ => rfl
    | 42, _ => rfl
    | 43, _ => rfl
    | 44, _ => rfl
    | 45, _ => rfl
    | 46, _ => rfl
    | 47, _ => rfl
    | 48, _ => rfl
    | 49, _ => rfl
    | 50, _ => rfl
    | 51, _ => rfl
    | 52, _ => rfl
    | 53, _ => rfl
    | 54, _ => rfl
    | 55, _ => rfl
    | 56, _ => rfl
    | 57, _ => rfl
    | 58, _ => rfl
    | 59, _ => rfl
    | 60, _ => rfl
    | 61, _ => rfl
    | 62, _ => rfl
    | 63, _ => rfl
    | 64, _ => rfl
    | k + 65, h => exact absurd h (by omega)
  · intro i t n rs h hi
    match i, hi, h with
    | 0, _, h => exact absurd (sh0.symm.trans h) (fun e => by cases e)
    | 1, _, h => exact absurd (sh1.symm.trans h) (fun e => by cases e)
    | 2, _, h => cases sh2.symm.trans h; exact ⟨0, rfl⟩
    | 3, _, h => exact absurd (sh3.symm.trans h) (fun e => by cases e)
    | 4, _, h => cases sh4.symm.trans h; exact ⟨1, rfl⟩
    | 5, _, h => exact absurd (sh5.symm.trans h) (fun e => by cases e)
    | 6, _, h => cases sh6.symm.trans h; exact ⟨2, rfl⟩
    | 7, _, h => cases sh7.symm.trans h; exact ⟨3, rfl⟩
    | 8, _, h => exact absurd (sh8.symm.trans h) (fun e => by cases e)
    | 9, _, h => cases sh9.symm.trans h; exact ⟨4, rfl⟩
    | 10, _, h => exact absurd (sh10.symm.trans h) (fun e => by cases e)
    | 11, _, h => cases sh11.symm.trans h; exact ⟨5, rfl⟩
    | 12, _, h => cases sh12.symm.trans h; exact ⟨6, rfl⟩
    | 13, _, h => exact absurd (sh13.symm.trans h) (fun e => by cases e)
    | 14, _, h => cases sh14.symm.trans h; exact ⟨7, rfl⟩
    | 15, _, h => cases sh15.symm.trans h; exact ⟨8, rfl⟩
    | 16, _, h => exact absurd (sh16.symm.trans h) (fun e => by cases e)
    | 17, _, h => cases sh17.symm.trans h; exact ⟨12, rfl⟩
    | 18, _, h => cases sh18.symm.trans h; exact ⟨13, rfl⟩
    | 19, _, h => exact absurd (sh19.symm.trans h) (fun e => by cases e)
    | 20, _, h => cases sh20.symm.trans h; exact ⟨14, rfl⟩
    | 21, _, h => cases sh21.symm.trans h; exact ⟨15, rfl⟩
    | 22, _, h => exact absurd (sh22.symm.trans h) (fun e => by cases e)
    | 23, _, h => cases sh23.symm.trans h; exact ⟨9, rfl⟩
    | 24, _, h => cases sh24.symm.trans h; exact ⟨10, rfl⟩
    | 25, _, h => cases sh25.symm.trans h; exact ⟨11, rfl⟩
    | 26, _, h => exact absurd (sh26.symm.trans h) (fun e => by cases e)
    | 27, _, h => cases sh27.symm.trans h; exact ⟨16, rfl⟩
    | 28, _, h => cases sh28.symm.trans h; exact ⟨17, rfl⟩
    | 29, _, h => cases sh29.symm.trans h; exact ⟨18, rfl⟩
    | 30, _, h => cases sh30.symm.trans h; exact ⟨19, rfl⟩
    | 31, _, h => exact absurd (sh31.symm.trans h) (fun e => by cases e)
    | 32, _, h => cases sh32.symm.trans h; exact ⟨20, rfl⟩
    | 33, _, h => cases sh33.symm.trans h; exact ⟨21, rfl⟩
    | 34, _, h => exact absurd (sh34.symm.trans h) (fun e => by cases e)
    | 35, _, h => cases sh35.symm.trans h; exact ⟨22, rfl⟩
    | 36, _, h => exact absurd (sh36.symm.trans h) (fun e => by cases e)
    | 37, _, h => cases sh37.symm.trans h; exact ⟨23, rfl⟩
    | 38, _, h => exact absurd (sh38.symm.trans h) (fun e => by cases e)
    | 39, _, h => cases sh39.symm.trans h; exact ⟨24, rfl⟩
    | 40, _, h => exact absurd (sh40.symm.trans h) (fun e => by cases e)
    | 41, _, h => cases sh41.symm.trans h; exact ⟨25, rfl⟩
    | 42, _, h => exact absurd (sh42.symm.trans h) (fun e => by cases e)
    | 43, _, h => cases sh43.symm.trans h; exact ⟨26, rfl⟩
    | 44, _, h => cases sh44.symm.trans h; exact ⟨27, rfl⟩
    | 45, _, h => cases sh45.symm.trans h; exact ⟨28, rfl⟩
    | 46, _, h => cases sh46.symm.trans h; exact ⟨29, rfl⟩
    | 47, _, h => cases sh47.symm.trans h; exact ⟨30, rfl⟩
    | 48, _, h => cases sh48.symm.trans h; exact ⟨31, rfl⟩
    | 49, _, h => cases sh49.symm.trans h; exact ⟨32, rfl⟩
    | 50, _, h => cases sh50.symm.trans h; exact ⟨33, rfl⟩
    | 51, _, h => cases sh51.symm.trans h; exact ⟨34, rfl⟩
    | 52, _, h => cases sh52.symm.trans h; exact ⟨35, rfl⟩
    | 53, _, h => cases sh53.symm.trans h; exact ⟨36, rfl⟩
    | 54, _, h => cases sh54.symm.trans h; exact ⟨37, rfl⟩
    | 55, _, h => cases sh55.symm.trans h; exact ⟨38, rfl⟩
    | 56, _, h => cases sh56.symm.trans h; exact ⟨39, rfl⟩
    | 57, _, h => cases sh57.symm.trans h; exact ⟨40, rfl⟩
    | 58, _, h => cases sh58.symm.trans h; exact ⟨41, rfl⟩
    | 59, _, h => cases sh59.symm.trans h; exact ⟨42, rfl⟩
    | 60, _, h => cases sh60.symm.trans h; exact ⟨43, rfl⟩
    | 61, _, h => cases sh61.symm.trans h; exact ⟨44, rfl⟩
    | 62, _, h => cases sh62.symm.trans h; exact ⟨45, rfl⟩
    | 63, _, h => cases sh63.symm.trans h; exact ⟨46, rfl⟩
    | 64, _, h => cases sh64.symm.trans h; exact ⟨47, rfl⟩
    | k + 65, h, _ => exact absurd h (by omega)
