/-! BASE: an abstract memory over the kit's worlds. Every object and array of the run has a fixed abstract address (a small number); ints and longs live in two plain functions. -/
abbrev Md : Type := MethodName × ByteArray × Nat × Option FieldType
abbrev Mm : Type := (Nat → Nat → Int32) × (Nat → Nat → Int64)
abbrev Gm : Type := va_G × (Nat → Nat) × (Nat → ClassId)
abbrev Shp : Type := (Nat × Nat × List Nat) ⊕ (Nat × List (Nat ⊕ Bool))
abbrev classes : List vw_C := [(RX0, TX0, 6), (RX1, TX1, 4), (RX2, TX2, 4), (RX3, TX3, 7), (RX4, TX4, 7), (RX5, TX5, 3), (RX6, TX6, 5), (RX7, TX7, 5), (RX8, TX8, 11), (RX9, TX9, 38)]
abbrev shpLi : List (Nat ⊕ Bool) := [.inr false, .inr false, .inr false, .inr false]
def shpL : List Shp := [
  .inr (8, [.inl 1, .inl 3, .inl 8, .inl 13, .inl 22, .inl 16, .inl 19, .inl 26, .inl 31, .inl 34, .inl 35]),
  .inr (6, [.inr false, .inr false, .inl 2, .inr false, .inr false]), .inl (0, 200, []),
  .inr (0, [.inr false, .inr false, .inr false, .inr false, .inl 4, .inl 5]), .inl (0, 8, []), .inr (2, [.inr false, .inl 6, .inl 7, .inr false]), .inl (0, 6, []), .inl (0, 6, []),
  .inr (0, [.inr false, .inr false, .inr false, .inr false, .inl 9, .inl 10]), .inl (0, 8, []), .inr (2, [.inr false, .inl 11, .inl 12, .inr false]), .inl (0, 6, []), .inl (0, 6, []),
  .inr (2, [.inr false, .inl 14, .inl 15, .inr false]), .inl (0, 6, []), .inl (0, 6, []),
  .inr (2, [.inr false, .inl 17, .inl 18, .inr false]), .inl (0, 6, []), .inl (0, 6, []),
  .inr (2, [.inr false, .inl 20, .inl 21, .inr false]), .inl (0, 6, []), .inl (0, 6, []),
  .inr (1, [.inr false, .inl 23, .inl 24, .inl 25]), .inl (0, 8, []), .inl (0, 8, []), .inl (0, 8, []),
  .inr (4, [.inr false, .inl 27, .inr false, .inr false, .inl 28, .inl 29, .inl 30]), .inl (0, 6, []), .inl (0, 6, []), .inl (0, 6, []), .inl (0, 8, []),
  .inr (3, [.inl 32, .inl 33, .inr false, .inr false, .inr true, .inr true, .inr true]), .inl (1, 256, []), .inl (1, 48, []),
  .inr (7, [.inr false, .inr false, .inr true, .inr true, .inr false]),
  .inl (3, 3, [36, 38, 40]),
  .inr (5, [.inr false, .inr false, .inl 37]), .inl (0, 12, []), .inr (5, [.inr false, .inr false, .inl 39]), .inl (0, 12, []), .inr (5, [.inr false, .inr false, .inl 41]), .inl (0, 12, []),
  .inr (9, [.inl 43, .inr false, .inr false, .inr false, .inr false, .inr false, .inl 44, .inr false, .inl 45, .inl 46, .inr false, .inr false, .inr false, .inl 47, .inl 48, .inl 49, .inl 50, .inl 51, .inr false, .inr false, .inr false, .inr false, .inr false, .inr false, .inr false, .inl 52, .inl 53, .inl 54, .inl 55, .inl 56, .inl 57, .inl 58, .inl 59, .inl 60, .inl 61, .inl 62, .inl 63, .inl 64]),
  .inl (0, 144, []), .inl (0, 8, []), .inl (2, 2, []), .inl (0, 200, []), .inl (2, 48, []), .inl (0, 48, []), .inl (2, 48, []), .inl (0, 3, []), .inl (0, 36, []), .inl (0, 2, []),
  .inl (0, 5, []), .inl (0, 6, []), .inl (0, 5, []), .inl (0, 6, []), .inl (0, 5, []), .inl (0, 3, []), .inl (0, 8, []), .inl (0, 6, []), .inl (0, 6, []), .inl (1, 640, []), .inl (1, 128, []), .inl (1, 128, [])]
abbrev NSH : Nat := 65
def shp (i : Nat) : Shp := shpL.getD i (.inl (0, 0, []))
def aty : Nat → FieldType
  | 0 => .int
  | 1 => .long
  | 2 => .boolean
  | _ => .object "HarbourLights$Tape"
def cvv (ro : Nat → Nat) : Value → Value
  | .ref a => .ref (ro a)
  | v => v
def sv (G : Gm) (M : Mm) (i j : Nat) : Nat ⊕ Bool → Value
  | .inl a => .ref (G.2.1 a)
  | .inr false => .int (M.1 i j)
  | .inr true => .long (M.2 i j)
def wA (G : Gm) (M : Mm) (i t n : Nat) (rs : List Nat) : vp_A := match t with
  | 0 => (n, .inl (M.1 i))
  | 1 => (n, .inr (.inl (M.2 i)))
  | 2 => (n, .inl (M.1 i))
  | _ => (n, .inr (.inr (.inr (.inr (fun j => (rs[j]?).map G.2.1)))))
def wE (G : Gm) (M : Mm) (i : Nat) : va_E := match shp i with
  | .inl (t, n, rs) => .inl (G.2.2 i, wA G M i t n rs)
  | .inr (ci, ks) => .inr (ci, ks.mapIdx (sv G M i))
def wW (G : Gm) (M : Mm) : va_W := (List.range NSH).map (fun i => (G.2.1 i, wE G M i))
def DD (G : Gm) : Prop := ∀ i j, i < NSH → j < NSH → G.2.1 i = G.2.1 j → i = j
def FA (G : Gm) : Nat → Prop := fun q => ∃ i, i < NSH ∧ q = G.2.1 i
def wI (M : Mm) (a j : Nat) (x : Int32) : Mm := (fun a' j' => if a' = a ∧ j' = j then x else M.1 a' j', M.2)
def wL (M : Mm) (a j : Nat) (x : Int64) : Mm := (M.1, fun a' j' => if a' = a ∧ j' = j then x else M.2 a' j')
def cpI (M : Mm) (sa sp da dp n : Nat) : Mm := (fun a' j' => if a' = da then va_cpy (M.1 sa) (M.1 da) sp dp n j' else M.1 a' j', M.2)
def cpL (M : Mm) (sa sp da dp n : Nat) : Mm := (M.1, fun a' j' => if a' = da then va_cpy (M.2 sa) (M.2 da) sp dp n j' else M.2 a' j')
theorem wW_get (G : Gm) (M : Mm) {a : Nat} (h : a < NSH) : (wW G M)[a]? = some (G.2.1 a, wE G M a) := by
  rw [wW, List.getElem?_map, List.getElem?_range h]; rfl
theorem wW_inv {G : Gm} {M : Mm} {k : Nat} {q : Nat × va_E} (h : (wW G M)[k]? = some q) : k < NSH ∧ q = (G.2.1 k, wE G M k) := by
  have hl : k < (wW G M).length := (List.getElem?_eq_some_iff.mp h).1
  have hk : k < NSH := by simpa [wW] using hl
  rw [wW_get G M hk] at h
  exact ⟨hk, (Option.some.inj h).symm⟩
theorem wW_set {G : Gm} {M M' : Mm} {a : Nat} {e : va_E} (ha : a < NSH) (he : e = wE G M' a) (h : ∀ i, i ≠ a → wE G M' i = wE G M i) : (wW G M).set a (G.2.1 a, e) = wW G M' := by
  apply List.ext_getElem?
  intro k
  by_cases hk : k = a
  · subst hk
    rw [List.getElem?_set_self (by simpa [wW] using ha), wW_get G M' ha, he]
  · rw [List.getElem?_set_ne (Ne.symm hk)]
    by_cases hl : k < NSH
    · rw [wW_get G M hl, wW_get G M' hl, h k hk]
    · rw [List.getElem?_eq_none (by simp [wW]; omega), List.getElem?_eq_none (by simp [wW]; omega)]
theorem wW_D {G : Gm} {M : Mm} {A : Nat → Prop} (hD : DD G) (hA : ∀ i, i < NSH → A (G.2.1 i)) : va_D A (wW G M) := by
  refine ⟨fun i j p q hi hj hpq => ?_, fun k q hk => ?_⟩
  · obtain ⟨h1, rfl⟩ := wW_inv hi
    obtain ⟨h2, rfl⟩ := wW_inv hj
    exact hD i j h1 h2 hpq
  · obtain ⟨h1, rfl⟩ := wW_inv hk
    exact hA k h1
theorem wE_off {G : Gm} {M M' : Mm} {i : Nat} (h1 : M'.1 i = M.1 i) (h2 : M'.2 i = M.2 i) : wE G M' i = wE G M i := by
  have hs : sv G M' i = sv G M i := by
    funext j k
    rcases k with a | b
    · rfl
    · cases b
      · show Value.int (M'.1 i j) = Value.int (M.1 i j); rw [h1]
      · show Value.long (M'.2 i j) = Value.long (M.2 i j); rw [h2]
  have ha : ∀ t n rs, wA G M' i t n rs = wA G M i t n rs := by
    intro t n rs
    unfold wA
    rw [h1, h2]
  unfold wE
  rw [hs]
  split
  · rw [ha]
  · rfl
theorem wI_ne {M : Mm} {a j i : Nat} {x : Int32} (h : i ≠ a) : (wI M a j x).1 i = M.1 i := by
  funext k; simp [wI, h]
theorem wI_eq {M : Mm} {a j : Nat} {x : Int32} : (wI M a j x).1 a = upd (M.1 a) j x := by
  funext k; simp [wI, upd]
theorem wL_ne {M : Mm} {a j i : Nat} {x : Int64} (h : i ≠ a) : (wL M a j x).2 i = M.2 i := by
  funext k; simp [wL, h]
theorem wL_eq {M : Mm} {a j : Nat} {x : Int64} : (wL M a j x).2 a = vp_updL (M.2 a) j x := by
  funext k; simp [wL, vp_updL]
/-! what the tables say, as it rides through every call -/
def GW : List Cond := lw_tbl.filter goodWord
theorem inGW {w : Cond} (h : w ∈ lw_tbl) (hg : goodWord w = true) : w ∈ GW := List.mem_filter.mpr ⟨h, hg⟩
def strL : List (String × Nat × String) := [(RX6, 35, "beats"), (RX6, 44, "window"), (RX6, 49, "sight"), (RX6, 54, "rhythm"), (RX6, 64, "light"), (RX6, 76, "lit")]
def strN : List Nat := [5, 6, 5, 6, 5, 3]
def strB : List (List Int32) := [[98, 101, 97, 116, 115], [119, 105, 110, 100, 111, 119], [115, 105, 103, 104, 116], [114, 104, 121, 116, 104, 109], [108, 105, 103, 104, 116], [108, 105, 116]]
def KS (G : Gm) (A : Nat → Prop) (U : State) (H : Heap) : Prop :=
  vk_S 6 strN strB (fun i => G.2.1 (1000 + i)) (fun i => G.2.1 (2000 + i)) A U H ∧ (∀ (i : Nat) (q : String × Nat × String), strL[i]? = some q → vk_R q.1 q.2.1 q.2.2 (G.2.1 (1000 + i)) U) ∧ va_Z "java/lang/String" "COMPACT_STRINGS" "Z" (.int 1) A U H ∧ (va_Z "jdk/internal/util/Preconditions" "SIOOBE_FORMATTER" "Ljava/util/function/BiFunction;" .null A U H ∨ va_Z "jdk/internal/util/Preconditions" "SIOOBE_FORMATTER" "Ljava/util/function/BiFunction;" (.ref (G.2.1 3000)) A U H)
def KK (G : Gm) (A : Nat → Prop) (U : State) (H : Heap) : Prop :=
  (∀ (cn : Nat) (q : vw_C), classes[cn]? = some q → u_Kn U q.1 q.2.1 q.2.2 (G.1.1 cn) (G.1.2 cn)) ∧ (∀ i t n rs, shp i = .inl (t, n, rs) → i < NSH → ArrOfT U (G.2.2 i) (aty t) ∧ va_RA U (G.2.2 i) (aty t)) ∧ va_Nw (.methodLinkNest RX3 71 yX8_lightsIn RX8) U ∧ va_Nw (.methodLinkNest RX7 35 yX8_lightsIn RX8) U ∧ KS G A U H
theorem KK.K {G : Gm} {A : Nat → Prop} {U : State} {H : Heap} (h : KK G A U H) : va_K G.1 classes [] U := ⟨h.1, fun k q hk => by simp at hk⟩
theorem KK.KA {G : Gm} {A : Nat → Prop} {U : State} {H : Heap} (h : KK G A U H) {i t n : Nat} {rs : List Nat} (hs : shp i = .inl (t, n, rs)) (hi : i < NSH) : va_K G.1 classes [(G.2.2 i, aty t)] U := by
  refine ⟨h.1, fun k q hk => ?_⟩
  match k, hk with
  | 0, hk => cases hk; exact h.2.1 i t n rs hs hi
  | k + 1, hk => simp at hk
theorem KK.KA2 {G : Gm} {A : Nat → Prop} {U : State} {H : Heap} (h : KK G A U H) {i t n : Nat} {rs : List Nat} (hs : shp i = .inl (t, n, rs)) (hi : i < NSH) {i2 n2 : Nat} {rs2 : List Nat} (hs2 : shp i2 = .inl (t, n2, rs2)) (hi2 : i2 < NSH) : va_K G.1 classes [(G.2.2 i, aty t), (G.2.2 i2, aty t)] U := by
  refine ⟨h.1, fun k q hk => ?_⟩
  match k, hk with
  | 0, hk => cases hk; exact h.2.1 i t n rs hs hi
  | 1, hk => cases hk; exact h.2.1 i2 t n2 rs2 hs2 hi2
  | k + 2, hk => simp at hk
theorem KS.go {G : Gm} {A B : Nat → Prop} {s U : State} {H0 H : Heap} (h : KS G A s H0) (hW : s.WarmedH U.vm) (hAB : ∀ q, B q → A q) (hk : ∀ a : Nat, a < H0.size → ¬ A a → H[a]? = H0[a]?) : KS G B U H := by
  obtain ⟨h1, h2, h3, h4⟩ := h
  refine ⟨((h1.kept hk).moved hW.alike).narrow hAB, fun i q hq => (h2 i q hq).warm hW, ((h3.kept hk).moved hW.alike).narrow hAB, h4.elim (fun h => Or.inl (((h.kept hk).moved hW.alike).narrow hAB)) (fun h => Or.inr (((h.kept hk).moved hW.alike).narrow hAB))⟩
theorem KK.go {G : Gm} {A B : Nat → Prop} {s U : State} {H0 H : Heap} (h : KK G A s H0) (hW : s.WarmedH U.vm) (hAB : ∀ q, B q → A q) (hk : ∀ a : Nat, a < H0.size → ¬ A a → H[a]? = H0[a]?) : KK G B U H := by
  obtain ⟨h1, h2, h3, h4, h5⟩ := h
  exact ⟨fun cn q hq => u_Kn_moved hW.alike (h1 cn q hq), fun i t n rs hs hi => ⟨arrOfT_moved hW.alike (h2 i t n rs hs hi).1, (h2 i t n rs hs hi).2.moved hW.alike⟩, va_Nw.warmM hW h3, va_Nw.warmM hW h4, h5.go hW hAB hk⟩
theorem KK.same {G : Gm} {A : Nat → Prop} {u U : State} {H : Heap} (h : KK G A u H) (hv : U.vm = u.vm) : KK G A U H := by
  have hvm : u.vm.Alike U.vm := by rw [hv]; exact Vm.Alike.refl _
  obtain ⟨h1, h2, h3, h4, h5, h6, h7, h8⟩ := h
  exact ⟨fun cn q hq => u_Kn_moved hvm (h1 cn q hq), fun i t n rs hs hi => ⟨arrOfT_moved hvm (h2 i t n rs hs hi).1, (h2 i t n rs hs hi).2.moved hvm⟩, va_Nw.same rfl hv.symm h3, va_Nw.same rfl hv.symm h4, h5.moved hvm, fun i q hq => (h6 i q hq).same hv, h7.moved hvm, h8.elim (fun h => Or.inl (h.moved hvm)) (fun h => Or.inr (h.moved hvm))⟩
/-! locals -/
def LH (ls : Array Slot) (nL : Nat) (ro : Nat → Nat) (lv : List (Option Value)) : Prop := ls.size = nL ∧ lv_wf ls ∧ ∀ (i : Nat) (w : Value), lv[i]? = some (some w) → ls[i]? = some (.val (cvv ro w))
def lvp (ro : Nat → Nat) (lv : List (Option Value)) : List (Nat × Value) := (List.range lv.length).filterMap (fun i => match lv[i]? with
  | some (some w) => some (i, cvv ro w)
  | _ => none)
theorem lvp_mem {ro : Nat → Nat} {lv : List (Option Value)} {q : Nat × Value} : q ∈ lvp ro lv ↔ ∃ w, lv[q.1]? = some (some w) ∧ q.2 = cvv ro w := by
  unfold lvp
  rw [List.mem_filterMap]
  constructor
  · rintro ⟨i, -, h⟩
    split at h
    · rename_i w hw
      cases h
      exact ⟨w, hw, rfl⟩
    · cases h
  · rintro ⟨w, hw, he⟩
    refine ⟨q.1, List.mem_range.mpr (List.getElem?_eq_some_iff.mp hw).1, ?_⟩
    rw [hw]
    exact congrArg some (Prod.ext rfl he.symm)
theorem LH.has {ls : Array Slot} {nL : Nat} {ro : Nat → Nat} {lv : List (Option Value)} (h : LH ls nL ro lv) : lv_has ls nL (lvp ro lv) := by
  refine ⟨h.1, h.2.1, fun q hq => ?_⟩
  obtain ⟨w, hw, he⟩ := lvp_mem.mp hq
  rw [he]
  exact h.2.2 q.1 w hw
theorem cvv_cat (ro : Nat → Nat) (w : Value) : (cvv ro w).category = w.category := by cases w <;> rfl
def stI (lv : List (Option Value)) (i : Nat) (v : Value) : List (Option Value) := lv.mapIdx (fun j w => if j = i then some v else if j + 1 = i then (match w with
  | some w => if w.category = 2 then none else some w
  | none => none) else w)
def stL (lv : List (Option Value)) (i : Nat) (v : Value) : List (Option Value) := lv.mapIdx (fun j w => if j = i then some v else if j = i + 1 then none else if j + 1 = i then (match w with
  | some w => if w.category = 2 then none else some w
  | none => none) else w)
theorem LH.ofI {ls : Array Slot} {nL i : Nat} {ro : Nat → Nat} {lv lv' : List (Option Value)} {v : Value} (h : lv_has ls nL ((i, cvv ro v) :: (lvp ro lv).filter (fun q => !(q.1 == i) && !(q.1 + 1 == i && q.2.category == 2)))) (he : stI lv i v = lv') : LH ls nL ro lv' := by
  subst he
  refine ⟨h.1, h.2.1, fun j w hj => ?_⟩
  rw [stI, List.getElem?_mapIdx] at hj
  cases hl : lv[j]? with
  | none => rw [hl] at hj; cases hj
  | some o =>
    rw [hl] at hj
    have hj := Option.some.inj hj
    by_cases h1 : j = i
    · subst h1
      simp at hj
      subst hj
      exact h.2.2 (j, cvv ro v) List.mem_cons_self
    · simp only [h1, if_false] at hj
      by_cases h2 : j + 1 = i
      · simp only [h2, if_true] at hj
        cases o with
        | none => simp at hj
        | some w' =>
          by_cases h3 : w'.category = 2
          · simp [h3] at hj
          · simp [h3] at hj
            subst hj
            refine h.2.2 (j, cvv ro w') (List.mem_cons_of_mem _ (List.mem_filter.mpr ⟨lvp_mem.mpr ⟨w', hl, rfl⟩, ?_⟩))
            simp [h1, cvv_cat, h3]
      · simp only [h2, if_false] at hj
        subst hj
        refine h.2.2 (j, cvv ro w) (List.mem_cons_of_mem _ (List.mem_filter.mpr ⟨lvp_mem.mpr ⟨w, hl, rfl⟩, ?_⟩))
        simp [h1, h2]
theorem LH.ofL {ls : Array Slot} {nL i : Nat} {ro : Nat → Nat} {lv lv' : List (Option Value)} {v : Value} (h : lv_has ls nL ((i, cvv ro v) :: (lvp ro lv).filter (fun q => !(q.1 == i) && (!(q.1 == i + 1) && !(q.1 + 1 == i && q.2.category == 2))))) (he : stL lv i v = lv') : LH ls nL ro lv' := by
  subst he
  refine ⟨h.1, h.2.1, fun j w hj => ?_⟩
  rw [stL, List.getElem?_mapIdx] at hj
  cases hl : lv[j]? with
  | none => rw [hl] at hj; cases hj
  | some o =>
    rw [hl] at hj
    have hj := Option.some.inj hj
    by_cases h1 : j = i
    · subst h1
      simp at hj
      subst hj
      exact h.2.2 (j, cvv ro v) List.mem_cons_self
    · simp only [h1, if_false] at hj
      by_cases h4 : j = i + 1
      · simp [h4] at hj
      · simp only [h4, if_false] at hj
        by_cases h2 : j + 1 = i
        · simp only [h2, if_true] at hj
          cases o with
          | none => simp at hj
          | some w' =>
            by_cases h3 : w'.category = 2
            · simp [h3] at hj
            · simp [h3] at hj
              subst hj
              refine h.2.2 (j, cvv ro w') (List.mem_cons_of_mem _ (List.mem_filter.mpr ⟨lvp_mem.mpr ⟨w', hl, rfl⟩, ?_⟩))
              simp [h1, h4, cvv_cat, h3]
        · simp only [h2, if_false] at hj
          subst hj
          refine h.2.2 (j, cvv ro w) (List.mem_cons_of_mem _ (List.mem_filter.mpr ⟨lvp_mem.mpr ⟨w, hl, rfl⟩, ?_⟩))
          simp [h1, h2, h4]
/-- fewer known locals -/
def lvLe : List (Option Value) → List (Option Value) → Prop
  | [], _ => True
  | none :: a, _ :: b => lvLe a b
  | none :: a, [] => lvLe a []
  | some v :: a, o :: b => o = some v ∧ lvLe a b
  | some _ :: _, [] => False
theorem lvLe_at : ∀ (a b : List (Option Value)), lvLe a b → ∀ (i : Nat) (w : Value), a[i]? = some (some w) → b[i]? = some (some w)
  | [], _, _, i, w, h => by simp at h
  | none :: a, o :: b, hl, 0, w, h => by simp at h
  | none :: a, o :: b, hl, i + 1, w, h => by
    simp only [List.getElem?_cons_succ] at h ⊢
    exact lvLe_at a b hl i w h
  | none :: a, [], hl, 0, w, h => by simp at h
  | none :: a, [], hl, i + 1, w, h => by
    simp only [List.getElem?_cons_succ] at h
    have := lvLe_at a [] hl i w h
    simp at this
  | some v :: a, o :: b, hl, 0, w, h => by
    simp only [List.getElem?_cons_zero] at h ⊢
    rw [hl.1]; exact h
  | some v :: a, o :: b, hl, i + 1, w, h => by
    simp only [List.getElem?_cons_succ] at h ⊢
    exact lvLe_at a b hl.2 i w h
theorem LH.le {ls : Array Slot} {nL : Nat} {ro : Nat → Nat} {a b : List (Option Value)} (h : LH ls nL ro b) (hl : lvLe a b) : LH ls nL ro a := ⟨h.1, h.2.1, fun i w hw => h.2.2 i w (lvLe_at a b hl i w hw)⟩
