/-! THE START: what the two constructors leave, as an abstract memory. By program. -/
def P8 (h0 : Nat) (wx' : va_W) (tys' : Ty) : Prop := ∃ (q1 : Nat) (q2 : Nat) (c3 : ClassId) (q4 : Nat) (q5 : Nat) (c6 : ClassId) (q7 : Nat) (q8 : Nat) (c9 : ClassId) (q10 : Nat) (c11 : ClassId) (q12 : Nat) (q13 : Nat) (c14 : ClassId) (q15 : Nat) (q16 : Nat) (c17 : ClassId) (q18 : Nat) (c19 : ClassId) (q20 : Nat) (q21 : Nat) (c22 : ClassId) (q23 : Nat) (c24 : ClassId) (q25 : Nat) (q26 : Nat) (c27 : ClassId) (q28 : Nat) (c29 : ClassId) (q30 : Nat) (c31 : ClassId) (q32 : Nat) (q33 : Nat) (c34 : ClassId) (q35 : Nat) (c36 : ClassId) (q37 : Nat) (q38 : Nat) (c39 : ClassId) (q40 : Nat) (c41 : ClassId) (q42 : Nat) (q43 : Nat) (c44 : ClassId) (q45 : Nat) (c46 : ClassId) (q47 : Nat) (c48 : ClassId) (q49 : Nat) (c50 : ClassId) (q51 : Nat) (q52 : Nat) (c53 : ClassId) (q54 : Nat) (c55 : ClassId) (q56 : Nat) (q57 : Nat) (c58 : ClassId) (q59 : Nat) (q60 : Nat) (c61 : ClassId) (q62 : Nat) (q63 : Nat) (c64 : ClassId) (q65 : Nat) (q66 : Nat) (c67 : ClassId), wx' = [(h0, .inr (8, [.ref q1, .ref q4, .ref q12, .ref q20, .ref q25, .ref q32, .ref q37, .ref q42, .ref q51, .ref q56, .ref q57])), (q1, .inr (6, [.int 0, .int 0, .ref q2, .int 0, .int 0])), (q2, .inl (c3, 200, .inl (fun _ => 0))), (q4, .inr (0, [.int 4, .int 2, .int 20, .int 0, .ref q5, .ref q7])), (q5, .inl (c6, 8, .inl (fun _ => 0))), (q7, .inr (2, [.int 0, .ref q8, .ref q10, .int 0])), (q8, .inl (c9, 6, .inl (fun _ => 0))), (q10, .inl (c11, 6, .inl (fun _ => 0))), (q12, .inr (0, [.int 4, .int 2, .int 20, .int 0, .ref q13, .ref q15])), (q13, .inl (c14, 8, .inl (fun _ => 0))), (q15, .inr (2, [.int 0, .ref q16, .ref q18, .int 0])), (q16, .inl (c17, 6, .inl (fun _ => 0))), (q18, .inl (c19, 6, .inl (fun _ => 0))), (q20, .inr (2, [.int 0, .ref q21, .ref q23, .int 0])), (q21, .inl (c22, 6, .inl (fun _ => 0))), (q23, .inl (c24, 6, .inl (fun _ => 0))), (q25, .inr (1, [.int 0, .ref q26, .ref q28, .ref q30])), (q26, .inl (c27, 8, .inl (fun _ => 0))), (q28, .inl (c29, 8, .inl (fun _ => 0))), (q30, .inl (c31, 8, .inl (fun _ => 0))), (q32, .inr (2, [.int 0, .ref q33, .ref q35, .int 0])), (q33, .inl (c34, 6, .inl (fun _ => 0))), (q35, .inl (c36, 6, .inl (fun _ => 0))), (q37, .inr (2, [.int 0, .ref q38, .ref q40, .int 0])), (q38, .inl (c39, 6, .inl (fun _ => 0))), (q40, .inl (c41, 6, .inl (fun _ => 0))), (q42, .inr (4, [.int 0, .ref q43, .int 0, .int 0, .ref q45, .ref q47, .ref q49])), (q43, .inl (c44, 6, .inl (fun _ => 0))), (q45, .inl (c46, 6, .inl (fun _ => 0))), (q47, .inl (c48, 6, .inl (fun _ => 0))), (q49, .inl (c50, 8, .inl (fun _ => 0))), (q51, .inr (3, [.ref q52, .ref q54, .int 0, .int 0, .long 0, .long 0, .long 0])), (q52, .inl (c53, 256, .inr (.inl (fun _ => 0)))), (q54, .inl (c55, 48, .inr (.inl (fun _ => 0)))), (q56, .inr (7, [.int 0, .int 0, .long 0, .long 0, .int 0])), (q57, .inl (c58, 3, .inr (.inr (.inr (.inr (va_up (va_up (va_up (fun _ => none) 0 (some q59)) 1 (some q62)) 2 (some q65))))))), (q59, .inr (5, [.int 0, .int 0, .ref q60])), (q60, .inl (c61, 12, .inl (fun _ => 0))), (q62, .inr (5, [.int 0, .int 0, .ref q63])), (q63, .inl (c64, 12, .inl (fun _ => 0))), (q65, .inr (5, [.int 0, .int 0, .ref q66])), (q66, .inl (c67, 12, .inl (fun _ => 0)))] ∧ tys' = [(c3, .int), (c6, .int), (c9, .int), (c11, .int), (c14, .int), (c17, .int), (c19, .int), (c22, .int), (c24, .int), (c27, .int), (c29, .int), (c31, .int), (c34, .int), (c36, .int), (c39, .int), (c41, .int), (c44, .int), (c46, .int), (c48, .int), (c50, .int), (c53, .long), (c55, .long), (c58, .object "HarbourLights$Tape"), (c61, .int), (c64, .int), (c67, .int)]
def P9 (h0 : Nat) (wx' : va_W) (tys' : Ty) : Prop := ∃ (q1 : Nat) (c2 : ClassId) (q3 : Nat) (c4 : ClassId) (q5 : Nat) (c6 : ClassId) (q7 : Nat) (c8 : ClassId) (q9 : Nat) (c10 : ClassId) (q11 : Nat) (c12 : ClassId) (q13 : Nat) (c14 : ClassId) (q15 : Nat) (c16 : ClassId) (q17 : Nat) (c18 : ClassId) (q19 : Nat) (c20 : ClassId) (q21 : Nat) (c22 : ClassId) (q23 : Nat) (c24 : ClassId) (q25 : Nat) (c26 : ClassId) (q27 : Nat) (c28 : ClassId) (q29 : Nat) (c30 : ClassId) (q31 : Nat) (c32 : ClassId) (q33 : Nat) (c34 : ClassId) (q35 : Nat) (c36 : ClassId) (q37 : Nat) (c38 : ClassId) (q39 : Nat) (c40 : ClassId) (q41 : Nat) (c42 : ClassId) (q43 : Nat) (c44 : ClassId) (g2 : Nat → Int32), wx' = [(h0, .inr (9, [.ref q1, .int 4, .int 2, .int 20, .int 0, .int 0, .ref q3, .int 0, .ref q5, .ref q7, .int 0, .int 0, .int 0, .ref q9, .ref q11, .ref q13, .ref q15, .ref q17, .int 0, .int 0, .int 0, .int 0, .int 0, .int 0, .int 0, .ref q19, .ref q21, .ref q23, .ref q25, .ref q27, .ref q29, .ref q31, .ref q33, .ref q35, .ref q37, .ref q39, .ref q41, .ref q43])), (q1, .inl (c2, 144, .inl g2)), (q3, .inl (c4, 8, .inl (fun _ => 0))), (q5, .inl (c6, 2, .inl (fun _ => 0))), (q7, .inl (c8, 200, .inl (fun _ => 0))), (q9, .inl (c10, 48, .inl (fun _ => 0))), (q11, .inl (c12, 48, .inl (fun _ => 0))), (q13, .inl (c14, 48, .inl (fun _ => 0))), (q15, .inl (c16, 3, .inl (upd (upd (upd (fun _ => 0) 0 (-1)) 1 (-1)) 2 (-1)))), (q17, .inl (c18, 36, .inl (fun _ => 0))), (q19, .inl (c20, 2, .inl (fun _ => 0))), (q21, .inl (c22, 5, .inl (upd (upd (upd (upd (upd (fun _ => 0) 0 98) 1 101) 2 97) 3 116) 4 115))), (q23, .inl (c24, 6, .inl (upd (upd (upd (upd (upd (upd (fun _ => 0) 0 119) 1 105) 2 110) 3 100) 4 111) 5 119))), (q25, .inl (c26, 5, .inl (upd (upd (upd (upd (upd (fun _ => 0) 0 115) 1 105) 2 103) 3 104) 4 116))), (q27, .inl (c28, 6, .inl (upd (upd (upd (upd (upd (upd (fun _ => 0) 0 114) 1 104) 2 121) 3 116) 4 104) 5 109))), (q29, .inl (c30, 5, .inl (upd (upd (upd (upd (upd (fun _ => 0) 0 108) 1 105) 2 103) 3 104) 4 116))), (q31, .inl (c32, 3, .inl (upd (upd (upd (fun _ => 0) 0 108) 1 105) 2 116))), (q33, .inl (c34, 8, .inl (fun _ => 0))), (q35, .inl (c36, 6, .inl (fun _ => 0))), (q37, .inl (c38, 6, .inl (fun _ => 0))), (q39, .inl (c40, 640, .inr (.inl (fun _ => 0)))), (q41, .inl (c42, 128, .inr (.inl (fun _ => 0)))), (q43, .inl (c44, 128, .inr (.inl (fun _ => 0))))] ∧ tys' = [(c2, .int), (c4, .int), (c6, .boolean), (c8, .int), (c10, .boolean), (c12, .int), (c14, .boolean), (c16, .int), (c18, .int), (c20, .int), (c22, .int), (c24, .int), (c26, .int), (c28, .int), (c30, .int), (c32, .int), (c34, .int), (c36, .int), (c38, .int), (c40, .long), (c42, .long), (c44, .long)] ∧ ∀ i, i < 6 → g2 (132 + 6 + i) = -1
theorem j_X8_init (wr : va_W) (h0 : Nat) : CC X8_init 3 41 738 [.ref h0] wr [(h0, .inr (8, dfX8))] [] (P8 h0) := i_X8_init wr h0
theorem j_X9_init (wr : va_W) (h0 : Nat) : CC X9_init 1 22 1485 [.ref h0] wr [(h0, .inr (9, dfX9))] [] (P9 h0) := i_X9_init wr h0
def tabI (g : Nat → Int32) : List (Nat → Int32) := [(fun _ => 0), (fun _ => 0), (fun _ => 0), (fun j => ([4, 2, 20] : List Int32).getD j 0), (fun _ => 0), (fun _ => 0), (fun _ => 0), (fun _ => 0), (fun j => ([4, 2, 20] : List Int32).getD j 0), (fun _ => 0), (fun _ => 0), (fun _ => 0), (fun _ => 0), (fun _ => 0), (fun _ => 0), (fun _ => 0), (fun _ => 0), (fun _ => 0), (fun _ => 0), (fun _ => 0), (fun _ => 0), (fun _ => 0), (fun _ => 0), (fun _ => 0), (fun _ => 0), (fun _ => 0), (fun _ => 0), (fun _ => 0), (fun _ => 0), (fun _ => 0), (fun _ => 0), (fun _ => 0), (fun _ => 0), (fun _ => 0), (fun _ => 0), (fun _ => 0), (fun _ => 0), (fun _ => 0), (fun _ => 0), (fun _ => 0), (fun _ => 0), (fun _ => 0), (fun j => ([0, 4, 2, 20] : List Int32).getD j 0), g, (fun _ => 0), (fun _ => 0), (fun _ => 0), (fun _ => 0), (fun _ => 0), (fun _ => 0), (upd (upd (upd (fun _ => 0) 0 (-1)) 1 (-1)) 2 (-1)), (fun _ => 0), (fun _ => 0), (upd (upd (upd (upd (upd (fun _ => 0) 0 98) 1 101) 2 97) 3 116) 4 115), (upd (upd (upd (upd (upd (upd (fun _ => 0) 0 119) 1 105) 2 110) 3 100) 4 111) 5 119), (upd (upd (upd (upd (upd (fun _ => 0) 0 115) 1 105) 2 103) 3 104) 4 116), (upd (upd (upd (upd (upd (upd (fun _ => 0) 0 114) 1 104) 2 121) 3 116) 4 104) 5 109), (upd (upd (upd (upd (upd (fun _ => 0) 0 108) 1 105) 2 103) 3 104) 4 116), (upd (upd (upd (fun _ => 0) 0 108) 1 105) 2 116), (fun _ => 0), (fun _ => 0), (fun _ => 0), (fun _ => 0), (fun _ => 0), (fun _ => 0)]
def M0 (g : Nat → Int32) : Mm := (fun a => (tabI g).getD a (fun _ => 0), fun _ _ => 0)
def plL : List Nat := [0, 1, 2, 3, 4, 5, 6, 7, 8, 9, 10, 11, 12, 13, 14, 15, 20, 21, 22, 23, 24, 25, 16, 17, 18, 19, 26, 27, 28, 29, 30, 31, 32, 33, 34, 35, 36, 37, 38, 39, 40, 41, 42, 43, 44, 45, 46, 47, 48, 49, 50, 51, 52, 53, 54, 55, 56, 57, 58, 59, 60, 61, 62, 63, 64]
def pl (k : Nat) : Nat := plL.getD k 0
theorem pl_inj : ∀ i, i < 65 → ∀ j, j < 65 → pl i = pl j → i = j := by decide +kernel
def roO (L : List Nat) (adK adV : Nat → Nat) (fm bb i : Nat) : Nat := match L[i]? with
  | some a => a
  | none => if i = 3000 then fm else if i = 4000 then bb else if i < 2000 then adK (i - 1000) else adV (i - 2000)
theorem up3 (f : Nat → Nat) : va_up (va_up (va_up (fun _ => none) 0 (some (f 36))) 1 (some (f 38))) 2 (some (f 40)) = fun j => (([36, 38, 40] : List Nat)[j]?).map f := by
  funext j
  match j with
  | 0 => rfl
  | 1 => rfl
  | 2 => rfl
  | k + 3 => simp [va_up]
theorem inv0 (g : Nat → Int32) (hg : ∀ i, i < 6 → g (132 + 6 + i) = -1) : Inv (M0 g) := by
  have h0 : ∀ {P : Nat → Prop}, ∀ i, i < 0 → P i := fun i h => absurd h (Nat.not_lt_zero i)
  refine ⟨4, 2, 20, 0, 0, fun _ => 0, 0, fun _ _ => 0, fun _ _ => none, fun _ => 0, fun _ => none, ⟨⟨rfl, rfl, rfl, rfl, h0⟩, ⟨rfl, rfl, rfl, rfl, h0⟩, ⟨by decide, by decide, by decide, by decide, by decide, by decide, by decide, h0⟩⟩, ⟨⟨rfl, h0⟩, ⟨rfl, h0⟩⟩, ⟨⟨rfl, h0⟩, ⟨rfl, h0⟩, ⟨by decide, fun k hk => ⟨by decide, h0⟩⟩⟩, ⟨rfl, h0, h0, fun i _ hi => hg i hi, ⟨by decide, h0⟩⟩, ?_, Or.inl ⟨rfl, rfl, rfl⟩, ?_, ⟨0, fun _ => 0, by decide, rfl, rfl, h0⟩, ?_⟩
  · intro k hk
    match k, hk with
    | 0, _ => exact Or.inl ⟨rfl, rfl⟩
    | 1, _ => exact Or.inl ⟨rfl, rfl⟩
  · intro t ht
    match t, ht with
    | 0, _ => exact ⟨false, [], ⟨rfl, rfl, by decide, h0⟩, ⟨rfl, by decide, h0⟩, fun _ => rfl, fun x hx => absurd hx List.not_mem_nil⟩
    | 1, _ => exact ⟨false, [], ⟨rfl, rfl, by decide, h0⟩, ⟨rfl, by decide, h0⟩, fun _ => rfl, fun x hx => absurd hx List.not_mem_nil⟩
    | 2, _ => exact ⟨false, [], ⟨rfl, rfl, by decide, h0⟩, ⟨rfl, by decide, h0⟩, fun _ => rfl, fun x hx => absurd hx List.not_mem_nil⟩
  · intro k hk j hj
    match k, hk, j, hj with
    | 0, _, 0, _ => rfl
    | 0, _, 1, _ => rfl
    | 0, _, 2, _ => rfl
    | 0, _, 3, _ => rfl
    | 0, _, 4, _ => rfl
    | 0, _, j + 5, hj => exact absurd (show j + 5 < 5 from hj) (by omega)
    | 1, _, 0, _ => rfl
    | 1, _, 1, _ => rfl
    | 1, _, 2, _ => rfl
    | 1, _, 3, _ => rfl
    | 1, _, 4, _ => rfl
    | 1, _, 5, _ => rfl
    | 1, _, j + 6, hj => exact absurd (show j + 6 < 6 from hj) (by omega)
    | 2, _, 0, _ => rfl
    | 2, _, 1, _ => rfl
    | 2, _, 2, _ => rfl
    | 2, _, 3, _ => rfl
    | 2, _, 4, _ => rfl
    | 2, _, j + 5, hj => exact absurd (show j + 5 < 5 from hj) (by omega)
    | 3, _, 0, _ => rfl
    | 3, _, 1, _ => rfl
    | 3, _, 2, _ => rfl
    | 3, _, 3, _ => rfl
    | 3, _, 4, _ => rfl
    | 3, _, 5, _ => rfl
    | 3, _, j + 6, hj => exact absurd (show j + 6 < 6 from hj) (by omega)
    | 4, _, 0, _ => rfl
    | 4, _, 1, _ => rfl
    | 4, _, 2, _ => rfl
    | 4, _, 3, _ => rfl
    | 4, _, 4, _ => rfl
    | 4, _, j + 5, hj => exact absurd (show j + 5 < 5 from hj) (by omega)
    | 5, _, 0, _ => rfl
    | 5, _, 1, _ => rfl
    | 5, _, 2, _ => rfl
    | 5, _, j + 3, hj => exact absurd (show j + 3 < 3 from hj) (by omega)
/-- mapIdx, by recursion -/
def mi {α β : Type} (f : Nat → α → β) : Nat → List α → List β
  | _, [] => []
  | n, a :: l => f n a :: mi f (n + 1) l
theorem mi_sh {α β : Type} (f : Nat → α → β) : ∀ (l : List α) (n : Nat), mi (fun i => f (i + 1)) n l = mi f (n + 1) l
  | [], _ => rfl
  | a :: l, n => by rw [mi, mi, mi_sh f l (n + 1)]
theorem mi_eq {α β : Type} : ∀ (l : List α) (f : Nat → α → β), l.mapIdx f = mi f 0 l
  | [], f => rfl
  | a :: l, f => by rw [List.mapIdx_cons, mi_eq l, mi, mi_sh f l 0]
theorem key_o {G : Gm} {M : Mm} {ws : va_W} {k pos ci a : Nat} {ks : List (Nat ⊕ Bool)} {fs : List Value} (hs : shp k = .inr (ci, ks)) (hw : ws[pos]? = some (a, .inr (ci, fs))) (ha : G.2.1 k = a) (hf : fs = mi (sv G M k) 0 ks) : ws[pos]? = some (G.2.1 k, wE G M k) := by
  rw [wE_obj hs, mi_eq, ← hf, ha]; exact hw
theorem key_a {G : Gm} {M : Mm} {ws : va_W} {k pos t n a : Nat} {cA : ClassId} {rs : List Nat} {wa : vp_A} (hs : shp k = .inl (t, n, rs)) (hw : ws[pos]? = some (a, .inl (cA, wa))) (ha : G.2.1 k = a) (hA : G.2.2 k = cA) (hf : wa = wA G M k t n rs) : ws[pos]? = some (G.2.1 k, wE G M k) := by
  rw [wE_arr hs, ← hf, ha, hA]; exact hw
