/-! CONTRACTS over the abstract memory: AC d Y vs M Q: method Y, called at vs with memory M and room for d frames, comes back with Q. -/
def RM (d : Nat) : Room := { frames := d, cells := 0, slots := 0, locals := 40 * d }
def wd (Y : Md) : List Cond := Cond.code Y.1 Y.2.1 Y.2.2.1 Y.2.2.2 :: GW
abbrev Qt : Type := Gm → Array Value → State → Outcome → State → Prop
def QI (K : Int32 → Mm → Prop) : Qt := fun G => va_Qi K (fun M' t => va_P G.1 classes (wW G M') t.heap) (FA G)
def QL (K : Int64 → Mm → Prop) : Qt := fun G => va_Ql K (fun M' t => va_P G.1 classes (wW G M') t.heap) (FA G)
def QV (K : Mm → Prop) : Qt := fun G => va_Qv K (fun M' t => va_P G.1 classes (wW G M') t.heap) (FA G)
def QR (K : Option Nat → Mm → Prop) : Qt := fun G => va_Qq (fun r M' => ∃ a : Option Nat, r = a.map G.2.1 ∧ K a M') (fun M' t => va_P G.1 classes (wW G M') t.heap) (FA G)
def PC (G : Gm) (vs : List Value) (M : Mm) : Array Value → State → Prop := va_Pc (vs.map (cvv G.2.1)) (fun U => va_P G.1 classes (wW G M) U.heap ∧ KK G (FA G) U U.heap)
def AC (d : Nat) (Y : Md) (vs : List Value) (M : Mm) (Qk : Qt) : Prop := ∀ (l : Launch) (G : Gm), DD G → Met l Y.1 (wd Y) (RM d) (PC G vs M) (Qk G) 0 0 (FA G)
abbrev ACi (d : Nat) (Y : Md) (vs : List Value) (M : Mm) (K : Int32 → Mm → Prop) : Prop := AC d Y vs M (QI K)
abbrev ACl (d : Nat) (Y : Md) (vs : List Value) (M : Mm) (K : Int64 → Mm → Prop) : Prop := AC d Y vs M (QL K)
abbrev ACv (d : Nat) (Y : Md) (vs : List Value) (M : Mm) (K : Mm → Prop) : Prop := AC d Y vs M (QV K)
abbrev ACr (d : Nat) (Y : Md) (vs : List Value) (M : Mm) (K : Option Nat → Mm → Prop) : Prop := AC d Y vs M (QR K)
def AW (d : Nat) (X : Md) (M : Mm) (pc : Nat) (lv : List (Option Value)) (st : List Value) (Qk : Qt) : Prop :=
  ∀ (p : Program) (l : Launch) (e : Env) (s : State) (m : MethodId) (args : Array Value) (below : List Frame) (meth : Method) (c : Code) (G : Gm), CX p s m args meth c G (FA G) X → BW p l e (RM d) s m args below meth c G (FA G) 0 0 (MQ below (Qk G) args s 0 0 (FA G)) X M pc lv st
def lvArgs : List Value → List (Option Value)
  | [] => []
  | v :: vs => if v.category = 2 then some v :: none :: lvArgs vs else some v :: lvArgs vs
theorem lvArgs_in (ro : Nat → Nat) : ∀ (vs : List Value) (k i : Nat) (w : Value), (lvArgs vs)[i]? = some (some w) → (k + i, cvv ro w) ∈ lv_args k (vs.map (cvv ro))
  | [], k, i, w, h => by simp [lvArgs] at h
  | v :: vs, k, i, w, h => by
    unfold lvArgs at h
    rw [List.map_cons, lv_args, cvv_cat]
    by_cases hc : v.category = 2
    · rw [if_pos hc] at h
      rw [if_pos hc]
      match i, h with
      | 0, h =>
        simp only [List.getElem?_cons_zero, Option.some.injEq] at h
        subst h
        exact List.mem_cons_self
      | 1, h => simp at h
      | i + 2, h =>
        simp only [List.getElem?_cons_succ] at h
        have := lvArgs_in ro vs (k + 2) i w h
        rw [show k + (i + 2) = k + 2 + i by omega]
        exact List.mem_cons_of_mem _ this
    · rw [if_neg hc] at h
      rw [if_neg hc]
      match i, h with
      | 0, h =>
        simp only [List.getElem?_cons_zero, Option.some.injEq] at h
        subst h
        exact List.mem_cons_self
      | i + 1, h =>
        simp only [List.getElem?_cons_succ] at h
        have := lvArgs_in ro vs (k + 1) i w h
        rw [show k + (i + 1) = k + 1 + i by omega]
        exact List.mem_cons_of_mem _ this
theorem lg_sl_len (ro : Nat → Nat) : ∀ vs : List Value, (lg_sl (vs.map (cvv ro))).length = (lg_sl vs).length
  | [] => rfl
  | v :: vs => by
    have ih := lg_sl_len ro vs
    unfold lg_sl at ih ⊢
    rw [List.map_cons, List.flatMap_cons, List.flatMap_cons, List.length_append, List.length_append, ih]
    congr 1
    cases v <;> rfl
/-- a contract out of a walk from the entry -/
theorem AC.ofW {d : Nat} {Y : Md} {vs : List Value} {M : Mm} {Qk : Qt} {lv : List (Option Value)} (hy : plainName Y.1.cls = true) (hn : (lg_sl vs).length ≤ Y.2.2.1) (hlv : lvLe lv (lvArgs vs)) (h : AW d Y M 0 lv [] Qk) : AC d Y vs M Qk := by
  intro l G hD
  refine Met.ofW (cc := Y.2.1) (maxL := Y.2.2.1) (ret := Y.2.2.2) hy rfl ?_
  intro p e s m args below meth c s₁ B hml hv
  obtain ⟨rfl, hP, hK⟩ := hv
  have hts := atoms_spec (ws := wd Y) B.pre
  have hC : CX p s m (vs.map (cvv G.2.1)).toArray meth c G (FA G) Y := ⟨B.exec, B.bytes, B.returns, hml, findClass_of_methodNamed B.named, fun w hw => hts w (List.mem_cons_of_mem _ hw), B.notSynchronized, hK, hD, fun i hi => ⟨i, hi, rfl⟩⟩
  have hl := lv_entry (vs.map (cvv G.2.1)) (n := Y.2.2.1) (by rw [lg_sl_len]; exact hn)
  rw [lg_entry_eq]
  exact h p l e s m _ below meth c G hC s.heap [] _ hP va_S.rf ⟨hl.1, hl.2.1, fun i w hw => by
    have h1 := lvArgs_in G.2.1 vs 0 i w (lvLe_at lv _ hlv i w hw)
    rw [Nat.zero_add] at h1
    exact hl.2.2 _ h1⟩
section HC
variable {p : Program} {l : Launch} {e : Env} {R : Room} {s : State} {m : MethodId} {args : Array Value} {below : List Frame} {meth : Method} {c : Code} {G : Gm} {A : Nat → Prop} {cells slots : Nat} {Q : State → Prop} {X : Md} {M : Mm} {pc q : Nat} {lv lv' : List (Option Value)} {st st0 : List Value}
def MV (own : String) (idx : Nat) (Y : Md) (n : Nat) : Prop := Cond.methodLink own idx Y.1 ∈ GW ∧ Cond.instanceMethod Y.1 ∈ GW ∧ Cond.selects Y.1.cls Y.1 Y.1 ∈ GW ∧ Cond.initialized Y.1.cls ∈ GW ∧ Cond.code Y.1 Y.2.1 Y.2.2.1 Y.2.2.2 ∈ GW ∧ (Y.1.cls ≠ "java/lang/invoke/MethodHandle" ∧ Y.1.cls ≠ "java/lang/invoke/VarHandle" ∧ (parseMethodDescriptor Y.1.desc).map (fun d => d.parameters.length) = some n) ∧ Y.2.2.1 ≤ 21
def MS (own : String) (idx : Nat) (Y : Md) (n : Nat) : Prop := Cond.methodLink own idx Y.1 ∈ GW ∧ Cond.static Y.1 ∈ GW ∧ Cond.initialized Y.1.cls ∈ GW ∧ Cond.code Y.1 Y.2.1 Y.2.2.1 Y.2.2.2 ∈ GW ∧ (Y.1.cls ≠ "java/lang/invoke/MethodHandle" ∧ Y.1.cls ≠ "java/lang/invoke/VarHandle" ∧ (parseMethodDescriptor Y.1.desc).map (fun d => d.parameters.length) = some n) ∧ Y.2.2.1 ≤ 21
theorem gwgood {ws : List Cond} (h : ∀ w ∈ ws, w ∈ GW) : GoodIn GW ws := fun w hw => ⟨h w hw, good_of_word (List.mem_filter.mp (h w hw)).2⟩
theorem wd_in {Y : Md} (h : Cond.code Y.1 Y.2.1 Y.2.2.1 Y.2.2.2 ∈ GW) : ∀ w ∈ wd Y, w ∈ GW := fun w hw => by
  rcases List.mem_cons.mp hw with rfl | hw
  · exact h
  · exact hw
theorem PC_blind (G : Gm) (vs : List Value) (M : Mm) : FrameBlind (PC G vs M) := fun a U g mk h => ⟨h.1, h.2.1, KK.same (U := U.calling g mk a) (u := U) h.2.2 rfl⟩
theorem PC_of (hc : CX p s m args meth c G A X) {vs : List Value} {H : Heap} {locs : List Loc} (hP : va_P G.1 classes (wW G M) H) (hS : va_S A s.heap H locs) (U : State) (hU : U.heap = H) (hW : s.WarmedH U.vm) : PC G vs M (vs.map (cvv G.2.1)).toArray U := by
  refine ⟨rfl, by rw [hU]; exact hP, ?_⟩
  rw [hU]
  exact KK.go hc.2.2.2.2.2.2.2.1 hW (fun q hq => by obtain ⟨i, hi, rfl⟩ := hq; exact hc.2.2.2.2.2.2.2.2.2 i hi) hS.2.1
theorem hb_runV (hc : CX p s m args meth c G A X) {idx n b ci d : Nat} {Y : Md} {vs : List Value} {ks : List (Nat ⊕ Bool)} {T : u_T} {N : Nat} {Qk : Qt} {H : Heap} {locs : List Loc} {ls : Array Slot} (hm : MV X.1.cls idx Y n) (hac : AC d Y (.ref b :: vs) M Qk) (hsh : shp b = .inr (ci, ks)) (hb : b < NSH) (hcl : classes[ci]? = some (Y.1.cls, T, N)) (hn : vs.length = n) (hst : st0 = vs.reverse ++ .ref b :: st) (hw : (st.map fun v => v.category).sum ≤ 8) (hR : d + 1 ≤ R.frames ∧ 40 * d + 40 ≤ R.locals) (hcs : cells ≤ R.cells ∧ slots ≤ R.slots) (hd : decode X.2.1 pc = .ok (.invokevirtual idx, 3))
    (hP : va_P G.1 classes (wW G M) H) (hS : va_S A s.heap H locs) (hl : LH ls X.2.2.1 G.2.1 lv) :
    va_Run p l e R s m args below meth c H locs cells slots 0 0 (F0 m pc ls (st0.map (cvv G.2.1))) (st.map (cvv G.2.1)) (Qk G (Value.ref (G.2.1 b) :: vs.map (cvv G.2.1)).toArray) (FA G) := by
  obtain ⟨m1, m2, m3, m4, m5, m6, m7⟩ := hm
  refine va_runV (Ts := GW) (own := X.1.cls) (C := Y.1.cls) (As := vs.map (cvv G.2.1)) (rest := st.map (cvv G.2.1)) ⟨hc.1, hc.2.1, hc.2.2.2.1, hc.2.2.2.2.1, hc.2.2.2.2.2.1⟩ (hac l G hc.2.2.2.2.2.2.2.2.1) (cwV n hc.2.2.2.2.2.1 (gwgood (fun w hw => ?_)) rfl rfl rfl ⟨rfl, m6⟩ ⟨hR.1, ?_⟩) ⟨PC_blind _ _ _, va_recv hc.2.2.2.2.2.2.2.1.K hP hcl ((wW_get G M hb).trans (by rw [wE_obj hsh])), fun U hU hW => PC_of hc (vs := .ref b :: vs) hP hS U hU hW⟩ rfl (by rw [List.length_map]; exact hn) hl.1 ?_ (lv_room (by rw [cats]; exact hw)) hd hcs
  · rcases List.mem_append.mp hw with h | h
    · simp only [List.mem_cons, List.not_mem_nil, or_false] at h
      rcases h with rfl | rfl | rfl | rfl
      · exact m1
      · exact m2
      · exact m3
      · exact m4
    · exact wd_in m5 w h
  · show 8 + (Y.2.2.1 + 11) + 40 * d ≤ R.locals
    omega
  · show st0.map (cvv G.2.1) = _
    rw [hst, List.map_append, List.map_reverse]
    rfl
theorem hb_runS (hc : CX p s m args meth c G A X) {idx n d : Nat} {Y : Md} {vs : List Value} {Qk : Qt} {H : Heap} {locs : List Loc} {ls : Array Slot} (hm : MS X.1.cls idx Y n) (hac : AC d Y vs M Qk) (hn : vs.length = n) (hst : st0 = vs.reverse ++ st) (hw : (st.map fun v => v.category).sum ≤ 8) (hR : d + 1 ≤ R.frames ∧ 40 * d + 40 ≤ R.locals) (hcs : cells ≤ R.cells ∧ slots ≤ R.slots) (hd : decode X.2.1 pc = .ok (.invokestatic idx, 3))
    (hP : va_P G.1 classes (wW G M) H) (hS : va_S A s.heap H locs) (hl : LH ls X.2.2.1 G.2.1 lv) :
    va_Run p l e R s m args below meth c H locs cells slots 0 0 (F0 m pc ls (st0.map (cvv G.2.1))) (st.map (cvv G.2.1)) (Qk G (vs.map (cvv G.2.1)).toArray) (FA G) := by
  obtain ⟨m1, m2, m4, m5, m6, m7⟩ := hm
  refine va_runS (Ts := GW) (own := X.1.cls) (As := vs.map (cvv G.2.1)) (rest := st.map (cvv G.2.1)) ⟨hc.1, hc.2.1, hc.2.2.2.1, hc.2.2.2.2.1, hc.2.2.2.2.2.1⟩ (hac l G hc.2.2.2.2.2.2.2.2.1) (va_cwS n hc.2.2.2.2.2.1 (gwgood (fun w hw => ?_)) rfl rfl rfl m6 ⟨hR.1, ?_⟩) ⟨PC_blind _ _ _, fun U hU hW => PC_of hc hP hS U hU hW⟩ rfl (by rw [List.length_map]; exact hn) hl.1 ?_ (lv_room (by rw [cats]; exact hw)) hd hcs
  · rcases List.mem_append.mp hw with h | h
    · simp only [List.mem_cons, List.not_mem_nil, or_false] at h
      rcases h with rfl | rfl | rfl
      · exact m1
      · exact m2
      · exact m4
    · exact wd_in m5 w h
  · show 8 + (Y.2.2.1 + 11) + 40 * d ≤ R.locals
    omega
  · show st0.map (cvv G.2.1) = _
    rw [hst, List.map_append, List.map_reverse]
/-- a nest mate's private static method: lightsIn -/
theorem hb_runN (hc : CX p s m args meth c G A X) {idx n d : Nat} {Y : Md} {vs : List Value} {Qk : Qt} {H : Heap} {locs : List Loc} {ls : Array Slot} (hnw : KK G A s s.heap → va_Nw (.methodLinkNest X.1.cls idx Y.1 RX8) s) (hm : Cond.static Y.1 ∈ GW ∧ Cond.initialized Y.1.cls ∈ GW ∧ Cond.code Y.1 Y.2.1 Y.2.2.1 Y.2.2.2 ∈ GW ∧ (Y.1.cls ≠ "java/lang/invoke/MethodHandle" ∧ Y.1.cls ≠ "java/lang/invoke/VarHandle" ∧ (parseMethodDescriptor Y.1.desc).map (fun d => d.parameters.length) = some n) ∧ Y.2.2.1 ≤ 21) (hac : AC d Y vs M Qk) (hn : vs.length = n) (hst : st0 = vs.reverse ++ st) (hw : (st.map fun v => v.category).sum ≤ 8) (hR : d + 1 ≤ R.frames ∧ 40 * d + 40 ≤ R.locals) (hcs : cells ≤ R.cells ∧ slots ≤ R.slots) (hd : decode X.2.1 pc = .ok (.invokestatic idx, 3))
    (hP : va_P G.1 classes (wW G M) H) (hS : va_S A s.heap H locs) (hl : LH ls X.2.2.1 G.2.1 lv) :
    va_Run p l e R s m args below meth c H locs cells slots 0 0 (F0 m pc ls (st0.map (cvv G.2.1))) (st.map (cvv G.2.1)) (Qk G (vs.map (cvv G.2.1)).toArray) (FA G) := by
  obtain ⟨m2, m4, m5, m6, m7⟩ := hm
  refine va_runSN (Ts := GW) (own := X.1.cls) (As := vs.map (cvv G.2.1)) (rest := st.map (cvv G.2.1)) ⟨hc.1, hc.2.1, hc.2.2.2.1, hc.2.2.2.2.1, hc.2.2.2.2.2.1⟩ (hac l G hc.2.2.2.2.2.2.2.2.1) ⟨va_cnB n hc.2.2.2.2.2.1 (gwgood (wd_in m5)) rfl rfl rfl (hnw hc.2.2.2.2.2.2.2.1) (hc.2.2.2.2.2.1 _ m4) m6 ⟨hR.1, ?_⟩, hc.2.2.2.2.2.1 _ m2, trivial⟩ ⟨PC_blind _ _ _, fun U hU hW => PC_of hc hP hS U hU hW⟩ rfl (by rw [List.length_map]; exact hn) hl.1 ?_ (lv_room (by rw [cats]; exact hw)) hd hcs
  · show 8 + (Y.2.2.1 + 11) + 40 * d ≤ R.locals
    omega
  · show st0.map (cvv G.2.1) = _
    rw [hst, List.map_append, List.map_reverse]

theorem hb_callVi (hc : CX p s m args meth c G A X) {idx n b ci d : Nat} {Y : Md} {vs : List Value} {ks : List (Nat ⊕ Bool)} {T : u_T} {N : Nat} {K : Int32 → Mm → Prop} (hm : MV X.1.cls idx Y n) (hac : AC d Y (.ref b :: vs) M (QI K)) (hsh : shp b = .inr (ci, ks)) (hb : b < NSH) (hcl : classes[ci]? = some (Y.1.cls, T, N)) (hn : vs.length = n) (hst : st0 = vs.reverse ++ .ref b :: st) (hw : (st.map fun v => v.category).sum ≤ 8) (hR : d + 1 ≤ R.frames ∧ 40 * d + 40 ≤ R.locals) (hcs : cells ≤ R.cells ∧ slots ≤ R.slots) (hd : decode X.2.1 pc = .ok (.invokevirtual idx, 3)) (hq : pc + 3 = q) (kk : ∀ (x : Int32) (M' : Mm), K x M' → BW p l e R s m args below meth c G A cells slots Q X M' q lv (.int x :: st)) : BW p l e R s m args below meth c G A cells slots Q X M pc lv st0 := by
  subst hq
  intro H locs ls hP hS hl
  refine va_calli (hb_runV hc hm hac hsh hb hcl hn hst hw hR hcs hd hP hS hl) hS (fun z _ hz => by obtain ⟨i, hi, rfl⟩ := hz; exact hc.2.2.2.2.2.2.2.2.2 i hi) (fun z hz => by obtain ⟨i, hi, rfl⟩ := hz; exact hc.2.2.2.2.2.2.2.2.2 i hi) (fun r u t H1 locs1 ht hvm hpost hB hz hk hS1 => ?_)
  exact kk r u hpost H1 locs1 ls (by rw [← ht]; exact hB) hS1 hl
theorem hb_callSi (hc : CX p s m args meth c G A X) {idx n d : Nat} {Y : Md} {vs : List Value} {K : Int32 → Mm → Prop} (hm : MS X.1.cls idx Y n) (hac : AC d Y vs M (QI K))  (hn : vs.length = n) (hst : st0 = vs.reverse ++ st) (hw : (st.map fun v => v.category).sum ≤ 8) (hR : d + 1 ≤ R.frames ∧ 40 * d + 40 ≤ R.locals) (hcs : cells ≤ R.cells ∧ slots ≤ R.slots) (hd : decode X.2.1 pc = .ok (.invokestatic idx, 3)) (hq : pc + 3 = q) (kk : ∀ (x : Int32) (M' : Mm), K x M' → BW p l e R s m args below meth c G A cells slots Q X M' q lv (.int x :: st)) : BW p l e R s m args below meth c G A cells slots Q X M pc lv st0 := by
  subst hq
  intro H locs ls hP hS hl
  refine va_calli (hb_runS hc hm hac hn hst hw hR hcs hd hP hS hl) hS (fun z _ hz => by obtain ⟨i, hi, rfl⟩ := hz; exact hc.2.2.2.2.2.2.2.2.2 i hi) (fun z hz => by obtain ⟨i, hi, rfl⟩ := hz; exact hc.2.2.2.2.2.2.2.2.2 i hi) (fun r u t H1 locs1 ht hvm hpost hB hz hk hS1 => ?_)
  exact kk r u hpost H1 locs1 ls (by rw [← ht]; exact hB) hS1 hl
theorem hb_callNi (hc : CX p s m args meth c G A X) {idx n d : Nat} {Y : Md} {vs : List Value} {K : Int32 → Mm → Prop} (hnw : KK G A s s.heap → va_Nw (.methodLinkNest X.1.cls idx Y.1 RX8) s) (hm : Cond.static Y.1 ∈ GW ∧ Cond.initialized Y.1.cls ∈ GW ∧ Cond.code Y.1 Y.2.1 Y.2.2.1 Y.2.2.2 ∈ GW ∧ (Y.1.cls ≠ "java/lang/invoke/MethodHandle" ∧ Y.1.cls ≠ "java/lang/invoke/VarHandle" ∧ (parseMethodDescriptor Y.1.desc).map (fun d => d.parameters.length) = some n) ∧ Y.2.2.1 ≤ 21) (hac : AC d Y vs M (QI K))  (hn : vs.length = n) (hst : st0 = vs.reverse ++ st) (hw : (st.map fun v => v.category).sum ≤ 8) (hR : d + 1 ≤ R.frames ∧ 40 * d + 40 ≤ R.locals) (hcs : cells ≤ R.cells ∧ slots ≤ R.slots) (hd : decode X.2.1 pc = .ok (.invokestatic idx, 3)) (hq : pc + 3 = q) (kk : ∀ (x : Int32) (M' : Mm), K x M' → BW p l e R s m args below meth c G A cells slots Q X M' q lv (.int x :: st)) : BW p l e R s m args below meth c G A cells slots Q X M pc lv st0 := by
  subst hq
  intro H locs ls hP hS hl
  refine va_calli (hb_runN hc hnw hm hac hn hst hw hR hcs hd hP hS hl) hS (fun z _ hz => by obtain ⟨i, hi, rfl⟩ := hz; exact hc.2.2.2.2.2.2.2.2.2 i hi) (fun z hz => by obtain ⟨i, hi, rfl⟩ := hz; exact hc.2.2.2.2.2.2.2.2.2 i hi) (fun r u t H1 locs1 ht hvm hpost hB hz hk hS1 => ?_)
  exact kk r u hpost H1 locs1 ls (by rw [← ht]; exact hB) hS1 hl
theorem hb_callVl (hc : CX p s m args meth c G A X) {idx n b ci d : Nat} {Y : Md} {vs : List Value} {ks : List (Nat ⊕ Bool)} {T : u_T} {N : Nat} {K : Int64 → Mm → Prop} (hm : MV X.1.cls idx Y n) (hac : AC d Y (.ref b :: vs) M (QL K)) (hsh : shp b = .inr (ci, ks)) (hb : b < NSH) (hcl : classes[ci]? = some (Y.1.cls, T, N)) (hn : vs.length = n) (hst : st0 = vs.reverse ++ .ref b :: st) (hw : (st.map fun v => v.category).sum ≤ 8) (hR : d + 1 ≤ R.frames ∧ 40 * d + 40 ≤ R.locals) (hcs : cells ≤ R.cells ∧ slots ≤ R.slots) (hd : decode X.2.1 pc = .ok (.invokevirtual idx, 3)) (hq : pc + 3 = q) (kk : ∀ (x : Int64) (M' : Mm), K x M' → BW p l e R s m args below meth c G A cells slots Q X M' q lv (.long x :: st)) : BW p l e R s m args below meth c G A cells slots Q X M pc lv st0 := by
  subst hq
  intro H locs ls hP hS hl
  refine va_calll (hb_runV hc hm hac hsh hb hcl hn hst hw hR hcs hd hP hS hl) hS (fun z _ hz => by obtain ⟨i, hi, rfl⟩ := hz; exact hc.2.2.2.2.2.2.2.2.2 i hi) (fun z hz => by obtain ⟨i, hi, rfl⟩ := hz; exact hc.2.2.2.2.2.2.2.2.2 i hi) (fun r u t H1 locs1 ht hvm hpost hB hz hk hS1 => ?_)
  exact kk r u hpost H1 locs1 ls (by rw [← ht]; exact hB) hS1 hl
theorem hb_callSl (hc : CX p s m args meth c G A X) {idx n d : Nat} {Y : Md} {vs : List Value} {K : Int64 → Mm → Prop} (hm : MS X.1.cls idx Y n) (hac : AC d Y vs M (QL K))  (hn : vs.length = n) (hst : st0 = vs.reverse ++ st) (hw : (st.map fun v => v.category).sum ≤ 8) (hR : d + 1 ≤ R.frames ∧ 40 * d + 40 ≤ R.locals) (hcs : cells ≤ R.cells ∧ slots ≤ R.slots) (hd : decode X.2.1 pc = .ok (.invokestatic idx, 3)) (hq : pc + 3 = q) (kk : ∀ (x : Int64) (M' : Mm), K x M' → BW p l e R s m args below meth c G A cells slots Q X M' q lv (.long x :: st)) : BW p l e R s m args below meth c G A cells slots Q X M pc lv st0 := by
  subst hq
  intro H locs ls hP hS hl
  refine va_calll (hb_runS hc hm hac hn hst hw hR hcs hd hP hS hl) hS (fun z _ hz => by obtain ⟨i, hi, rfl⟩ := hz; exact hc.2.2.2.2.2.2.2.2.2 i hi) (fun z hz => by obtain ⟨i, hi, rfl⟩ := hz; exact hc.2.2.2.2.2.2.2.2.2 i hi) (fun r u t H1 locs1 ht hvm hpost hB hz hk hS1 => ?_)
  exact kk r u hpost H1 locs1 ls (by rw [← ht]; exact hB) hS1 hl
theorem hb_callVv (hc : CX p s m args meth c G A X) {idx n b ci d : Nat} {Y : Md} {vs : List Value} {ks : List (Nat ⊕ Bool)} {T : u_T} {N : Nat} {K : Mm → Prop} (hm : MV X.1.cls idx Y n) (hac : AC d Y (.ref b :: vs) M (QV K)) (hsh : shp b = .inr (ci, ks)) (hb : b < NSH) (hcl : classes[ci]? = some (Y.1.cls, T, N)) (hn : vs.length = n) (hst : st0 = vs.reverse ++ .ref b :: st) (hw : (st.map fun v => v.category).sum ≤ 8) (hR : d + 1 ≤ R.frames ∧ 40 * d + 40 ≤ R.locals) (hcs : cells ≤ R.cells ∧ slots ≤ R.slots) (hd : decode X.2.1 pc = .ok (.invokevirtual idx, 3)) (hq : pc + 3 = q) (kk : ∀ (M' : Mm), K M' → BW p l e R s m args below meth c G A cells slots Q X M' q lv st) : BW p l e R s m args below meth c G A cells slots Q X M pc lv st0 := by
  subst hq
  intro H locs ls hP hS hl
  refine va_callv (hb_runV hc hm hac hsh hb hcl hn hst hw hR hcs hd hP hS hl) hS (fun z _ hz => by obtain ⟨i, hi, rfl⟩ := hz; exact hc.2.2.2.2.2.2.2.2.2 i hi) (fun z hz => by obtain ⟨i, hi, rfl⟩ := hz; exact hc.2.2.2.2.2.2.2.2.2 i hi) (fun u t H1 locs1 ht hvm hpost hB hz hk hS1 => ?_)
  exact kk u hpost H1 locs1 ls (by rw [← ht]; exact hB) hS1 hl
theorem hb_callSv (hc : CX p s m args meth c G A X) {idx n d : Nat} {Y : Md} {vs : List Value} {K : Mm → Prop} (hm : MS X.1.cls idx Y n) (hac : AC d Y vs M (QV K))  (hn : vs.length = n) (hst : st0 = vs.reverse ++ st) (hw : (st.map fun v => v.category).sum ≤ 8) (hR : d + 1 ≤ R.frames ∧ 40 * d + 40 ≤ R.locals) (hcs : cells ≤ R.cells ∧ slots ≤ R.slots) (hd : decode X.2.1 pc = .ok (.invokestatic idx, 3)) (hq : pc + 3 = q) (kk : ∀ (M' : Mm), K M' → BW p l e R s m args below meth c G A cells slots Q X M' q lv st) : BW p l e R s m args below meth c G A cells slots Q X M pc lv st0 := by
  subst hq
  intro H locs ls hP hS hl
  refine va_callv (hb_runS hc hm hac hn hst hw hR hcs hd hP hS hl) hS (fun z _ hz => by obtain ⟨i, hi, rfl⟩ := hz; exact hc.2.2.2.2.2.2.2.2.2 i hi) (fun z hz => by obtain ⟨i, hi, rfl⟩ := hz; exact hc.2.2.2.2.2.2.2.2.2 i hi) (fun u t H1 locs1 ht hvm hpost hB hz hk hS1 => ?_)
  exact kk u hpost H1 locs1 ls (by rw [← ht]; exact hB) hS1 hl
theorem hb_callVr (hc : CX p s m args meth c G A X) {idx n b ci d : Nat} {Y : Md} {vs : List Value} {ks : List (Nat ⊕ Bool)} {T : u_T} {N : Nat} {K : Option Nat → Mm → Prop} (hm : MV X.1.cls idx Y n) (hac : AC d Y (.ref b :: vs) M (QR K)) (hsh : shp b = .inr (ci, ks)) (hb : b < NSH) (hcl : classes[ci]? = some (Y.1.cls, T, N)) (hn : vs.length = n) (hst : st0 = vs.reverse ++ .ref b :: st) (hw : (st.map fun v => v.category).sum ≤ 8) (hR : d + 1 ≤ R.frames ∧ 40 * d + 40 ≤ R.locals) (hcs : cells ≤ R.cells ∧ slots ≤ R.slots) (hd : decode X.2.1 pc = .ok (.invokevirtual idx, 3)) (hq : pc + 3 = q) (kn : ∀ (M' : Mm), K none M' → BW p l e R s m args below meth c G A cells slots Q X M' q lv (.null :: st)) (ks : ∀ (x : Nat) (M' : Mm), K (some x) M' → BW p l e R s m args below meth c G A cells slots Q X M' q lv (.ref x :: st)) : BW p l e R s m args below meth c G A cells slots Q X M pc lv st0 := by
  subst hq
  intro H locs ls hP hS hl
  refine va_callq (hb_runV hc hm hac hsh hb hcl hn hst hw hR hcs hd hP hS hl) hS (fun z _ hz => by obtain ⟨i, hi, rfl⟩ := hz; exact hc.2.2.2.2.2.2.2.2.2 i hi) (fun z hz => by obtain ⟨i, hi, rfl⟩ := hz; exact hc.2.2.2.2.2.2.2.2.2 i hi) (fun r u t H1 locs1 ht hvm hpost hB hz hk hS1 => ?_)
  obtain ⟨a, rfl, hK⟩ := hpost
  cases a with
  | none => exact kn u hK H1 locs1 ls (by rw [← ht]; exact hB) hS1 hl
  | some x => exact ks x u hK H1 locs1 ls (by rw [← ht]; exact hB) hS1 hl
theorem hb_callSr (hc : CX p s m args meth c G A X) {idx n d : Nat} {Y : Md} {vs : List Value} {K : Option Nat → Mm → Prop} (hm : MS X.1.cls idx Y n) (hac : AC d Y vs M (QR K))  (hn : vs.length = n) (hst : st0 = vs.reverse ++ st) (hw : (st.map fun v => v.category).sum ≤ 8) (hR : d + 1 ≤ R.frames ∧ 40 * d + 40 ≤ R.locals) (hcs : cells ≤ R.cells ∧ slots ≤ R.slots) (hd : decode X.2.1 pc = .ok (.invokestatic idx, 3)) (hq : pc + 3 = q) (kn : ∀ (M' : Mm), K none M' → BW p l e R s m args below meth c G A cells slots Q X M' q lv (.null :: st)) (ks : ∀ (x : Nat) (M' : Mm), K (some x) M' → BW p l e R s m args below meth c G A cells slots Q X M' q lv (.ref x :: st)) : BW p l e R s m args below meth c G A cells slots Q X M pc lv st0 := by
  subst hq
  intro H locs ls hP hS hl
  refine va_callq (hb_runS hc hm hac hn hst hw hR hcs hd hP hS hl) hS (fun z _ hz => by obtain ⟨i, hi, rfl⟩ := hz; exact hc.2.2.2.2.2.2.2.2.2 i hi) (fun z hz => by obtain ⟨i, hi, rfl⟩ := hz; exact hc.2.2.2.2.2.2.2.2.2 i hi) (fun r u t H1 locs1 ht hvm hpost hB hz hk hS1 => ?_)
  obtain ⟨a, rfl, hK⟩ := hpost
  cases a with
  | none => exact kn u hK H1 locs1 ls (by rw [← ht]; exact hB) hS1 hl
  | some x => exact ks x u hK H1 locs1 ls (by rw [← ht]; exact hB) hS1 hl
end HC
section HR
variable {p : Program} {l : Launch} {e : Env} {R : Room} {s : State} {m : MethodId} {args : Array Value} {below : List Frame} {meth : Method} {c : Code} {G : Gm} {X : Md} {M : Mm} {pc : Nat} {lv : List (Option Value)}
theorem hb_iret (hc : CX p s m args meth c G (FA G) X) {K : Int32 → Mm → Prop} {x : Int32} (hr : X.2.2.2 = some .int) (hd : decode X.2.1 pc = .ok (.ireturn, 1)) (kk : K x M) : BW p l e R s m args below meth c G (FA G) 0 0 (MQ below (QI K G) args s 0 0 (FA G)) X M pc lv [.int x] := by
  intro H locs ls hP hS hl
  have hlocks := hc.2.2.2.2.2.2.1
  exact W.iret (v := x) hc.1 hc.2.1 (hc.2.2.1.trans hr) (fun t ht hW => ⟨⟨x, M, rfl, kk, by show va_P _ _ _ _; rw [ht]; exact hP⟩, hS.F ht⟩) hS.2.2 hd hlocks
theorem hb_zret (hc : CX p s m args meth c G (FA G) X) {K : Int32 → Mm → Prop} {x : Int32} (hr : X.2.2.2 = some .boolean) (hz : x = 0 ∨ x = 1) (hd : decode X.2.1 pc = .ok (.ireturn, 1)) (kk : K x M) : BW p l e R s m args below meth c G (FA G) 0 0 (MQ below (QI K G) args s 0 0 (FA G)) X M pc lv [.int x] := by
  intro H locs ls hP hS hl
  have hlocks := hc.2.2.2.2.2.2.1
  exact W.zret (v := x) hc.1 hc.2.1 (hc.2.2.1.trans hr) (narZ hz) (fun t ht hW => ⟨⟨x, M, rfl, kk, by show va_P _ _ _ _; rw [ht]; exact hP⟩, hS.F ht⟩) hS.2.2 hd hlocks
theorem hb_nret (hc : CX p s m args meth c G (FA G) X) {K : Int32 → Mm → Prop} {x : Int32} {ty : FieldType} (hr : X.2.2.2 = some ty) (hz : narrow ty (.int x) = .int x) (hd : decode X.2.1 pc = .ok (.ireturn, 1)) (kk : K x M) : BW p l e R s m args below meth c G (FA G) 0 0 (MQ below (QI K G) args s 0 0 (FA G)) X M pc lv [.int x] := by
  intro H locs ls hP hS hl
  have hlocks := hc.2.2.2.2.2.2.1
  exact W.zret (v := x) hc.1 hc.2.1 (hc.2.2.1.trans hr) hz (fun t ht hW => ⟨⟨x, M, rfl, kk, by show va_P _ _ _ _; rw [ht]; exact hP⟩, hS.F ht⟩) hS.2.2 hd hlocks
theorem hb_lret (hc : CX p s m args meth c G (FA G) X) {K : Int64 → Mm → Prop} {x : Int64} (hr : X.2.2.2 = some .long) (hd : decode X.2.1 pc = .ok (.lreturn, 1)) (kk : K x M) : BW p l e R s m args below meth c G (FA G) 0 0 (MQ below (QL K G) args s 0 0 (FA G)) X M pc lv [.long x] := by
  intro H locs ls hP hS hl
  have hlocks := hc.2.2.2.2.2.2.1
  exact W.lret (v := x) hc.1 hc.2.1 (hc.2.2.1.trans hr) (fun t ht hW => ⟨⟨x, M, rfl, kk, by show va_P _ _ _ _; rw [ht]; exact hP⟩, hS.F ht⟩) hS.2.2 hd hlocks
theorem hb_vret (hc : CX p s m args meth c G (FA G) X) {K : Mm → Prop} (hr : X.2.2.2 = none) (hd : decode X.2.1 pc = .ok (.return_, 1)) (kk : K M) : BW p l e R s m args below meth c G (FA G) 0 0 (MQ below (QV K G) args s 0 0 (FA G)) X M pc lv [] := by
  intro H locs ls hP hS hl
  have hlocks := hc.2.2.2.2.2.2.1
  exact W.vret hc.1 hc.2.1 (hc.2.2.1.trans hr) (fun t ht hW => ⟨⟨M, rfl, kk, by show va_P _ _ _ _; rw [ht]; exact hP⟩, hS.F ht⟩) hS.2.2 hd hlocks
theorem hb_aret (hc : CX p s m args meth c G (FA G) X) {K : Option Nat → Mm → Prop} {x : Nat} {nm : String} (hr : X.2.2.2 = some (.object nm)) (hd : decode X.2.1 pc = .ok (.areturn, 1)) (kk : K (some x) M) : BW p l e R s m args below meth c G (FA G) 0 0 (MQ below (QR K G) args s 0 0 (FA G)) X M pc lv [.ref x] := by
  intro H locs ls hP hS hl
  have hlocks := hc.2.2.2.2.2.2.1
  exact W.aret (v := .ref (G.2.1 x)) hc.1 hc.2.1 (hc.2.2.1.trans hr) (Or.inl ⟨nm, rfl⟩) (Or.inr ⟨_, rfl⟩) (fun t ht hW => ⟨⟨some (G.2.1 x), M, rfl, ⟨some x, rfl, kk⟩, by show va_P _ _ _ _; rw [ht]; exact hP⟩, hS.F ht⟩) hS.2.2 hd hlocks
theorem hb_aretN (hc : CX p s m args meth c G (FA G) X) {K : Option Nat → Mm → Prop} {nm : String} (hr : X.2.2.2 = some (.object nm)) (hd : decode X.2.1 pc = .ok (.areturn, 1)) (kk : K none M) : BW p l e R s m args below meth c G (FA G) 0 0 (MQ below (QR K G) args s 0 0 (FA G)) X M pc lv [.null] := by
  intro H locs ls hP hS hl
  have hlocks := hc.2.2.2.2.2.2.1
  exact W.aret (v := .null) hc.1 hc.2.1 (hc.2.2.1.trans hr) (Or.inl ⟨nm, rfl⟩) (Or.inl rfl) (fun t ht hW => ⟨⟨none, M, rfl, ⟨none, rfl, kk⟩, by show va_P _ _ _ _; rw [ht]; exact hP⟩, hS.F ht⟩) hS.2.2 hd hlocks
end HR
