/-! CONSTRUCTORS: worlds that grow. wr: what was there, wx: what is being made. -/
def NX (U : State) : Prop := va_Nw (.methodLinkNest RX8 11 yX6_init RX8) U ∧ va_Nw (.methodLinkNest RX0 17 yX2_init RX8) U ∧ va_Nw (.methodLinkNest RX8 28 yX2_init RX8) U ∧ va_Nw (.methodLinkNest RX8 35 yX1_init RX8) U ∧ va_Nw (.methodLinkNest RX8 48 yX4_init RX8) U ∧ va_Nw (.methodLinkNest RX8 55 yX3_init RX8) U ∧ va_Nw (.methodLinkNest RX8 62 yX7_init RX8) U ∧ va_Nw (.methodLinkNest RX8 73 yX5_init RX8) U ∧ va_AO "HarbourLights$Tape" U
theorem NX.go {s U : State} (h : NX s) (hW : s.WarmedH U.vm) : NX U := by
  obtain ⟨h1, h2, h3, h4, h5, h6, h7, h8, h9⟩ := h
  exact ⟨va_Nw.warmM hW h1, va_Nw.warmM hW h2, va_Nw.warmM hW h3, va_Nw.warmM hW h4, va_Nw.warmM hW h5, va_Nw.warmM hW h6, va_Nw.warmM hW h7, va_Nw.warmM hW h8, h9.moved hW.alike⟩
theorem NX.same {u U : State} (h : NX u) (hv : U.vm = u.vm) : NX U := by
  have hvm : u.vm.Alike U.vm := by rw [hv]; exact Vm.Alike.refl _
  obtain ⟨h1, h2, h3, h4, h5, h6, h7, h8, h9⟩ := h
  exact ⟨va_Nw.same rfl hv.symm h1, va_Nw.same rfl hv.symm h2, va_Nw.same rfl hv.symm h3, va_Nw.same rfl hv.symm h4, va_Nw.same rfl hv.symm h5, va_Nw.same rfl hv.symm h6, va_Nw.same rfl hv.symm h7, va_Nw.same rfl hv.symm h8, h9.moved hvm⟩
abbrev Ty : Type := List (ClassId × FieldType)
theorem ax_get {wr wx : va_W} {j : Nat} {v : Nat × va_E} (h : wx[j]? = some v) : (wr ++ wx)[wr.length + j]? = some v := by
  rw [List.getElem?_append_right (by omega), Nat.add_sub_cancel_left]; exact h
theorem ax_set {wr wx : va_W} {j : Nat} {v : Nat × va_E} : (wr ++ wx).set (wr.length + j) v = wr ++ wx.set j v := by
  rw [List.set_append_right (h := by omega), Nat.add_sub_cancel_left]
def CY (p : Program) (s : State) (m : MethodId) (args : Array Value) (meth : Method) (c : Code) (A : Nat → Prop) (X : Md) : Prop :=
  p.tables.exec = Jvm.exec ∧ c.code = X.2.1 ∧ meth.sig.returnType = X.2.2.2 ∧ c.maxLocals = X.2.2.1 ∧ s.vm.findClass X.1.cls = some m.cls ∧ (∀ w ∈ GW, w.before args s = true) ∧ meth.locks = false ∧ meth.name = X.1.name ∧ (∀ q : Nat, s.heap.size ≤ q → A q) ∧ NX s
def CB (p : Program) (l : Launch) (e : Env) (R : Room) (s : State) (m : MethodId) (args : Array Value) (below : List Frame) (meth : Method) (c : Code) (D : va_G) (A : Nat → Prop) (cells slots : Nat) (Q : State → Prop) (X : Md) (wr wx : va_W) (tys : Ty) (pc : Nat) (lv : List (Option Value)) (st : List Value) : Prop :=
  ∀ (H : Heap) (locs : List Loc) (ls : Array Slot), va_P D classes (wr ++ wx) H → va_D A (wr ++ wx) → va_K D classes tys s → va_S A s.heap H locs → LH ls X.2.2.1 id lv → W p l e R s m args below meth c H locs cells slots Q (F0 m pc ls st)
section CBS
variable {p : Program} {l : Launch} {e : Env} {R : Room} {s : State} {m : MethodId} {args : Array Value} {below : List Frame} {meth : Method} {c : Code} {D : va_G} {A : Nat → Prop} {cells slots : Nat} {Q : State → Prop} {X : Md} {wr wx : va_W} {tys : Ty} {pc q : Nat} {lv lv' : List (Option Value)} {st : List Value}
theorem cb_iconst (hc : CY p s m args meth c A X) {n : Int} {v : Int32} (hd : decode X.2.1 pc = .ok (.iconst n, 1)) (hq : pc + 1 = q) (hv : Int32.ofInt n = v) (kk : CB p l e R s m args below meth c D A cells slots Q X wr wx tys q lv (.int v :: st)) : CB p l e R s m args below meth c D A cells slots Q X wr wx tys pc lv st := by
  subst hq
  intro H locs ls hP hD hK hS hl
  exact lv_iconst hc.1 hc.2.1 hd hv (kk H locs ls hP hD hK hS hl)
theorem cb_bipush (hc : CY p s m args meth c A X) {n : Int} {v : Int32} (hd : decode X.2.1 pc = .ok (.bipush n, 2)) (hq : pc + 2 = q) (hv : (Int8.ofInt n).toInt32 = v) (kk : CB p l e R s m args below meth c D A cells slots Q X wr wx tys q lv (.int v :: st)) : CB p l e R s m args below meth c D A cells slots Q X wr wx tys pc lv st := by
  subst hq
  intro H locs ls hP hD hK hS hl
  exact lv_bipush hc.1 hc.2.1 hd hv (kk H locs ls hP hD hK hS hl)
theorem cb_sipush (hc : CY p s m args meth c A X) {n : Int} {v : Int32} (hd : decode X.2.1 pc = .ok (.sipush n, 3)) (hq : pc + 3 = q) (hv : (Int16.ofInt n).toInt32 = v) (kk : CB p l e R s m args below meth c D A cells slots Q X wr wx tys q lv (.int v :: st)) : CB p l e R s m args below meth c D A cells slots Q X wr wx tys pc lv st := by
  subst hq
  intro H locs ls hP hD hK hS hl
  exact lv_sipush hc.1 hc.2.1 hd hv (kk H locs ls hP hD hK hS hl)
theorem cb_aload_n (hc : CY p s m args meth c A X) {k : Fin 4} {x : Nat} (hd : decode X.2.1 pc = .ok (.aload_n k, 1)) (hq : pc + 1 = q) (hv : lv[(k : Nat)]? = some (some (.ref x))) (kk : CB p l e R s m args below meth c D A cells slots Q X wr wx tys q lv (.ref x :: st)) : CB p l e R s m args below meth c D A cells slots Q X wr wx tys pc lv st := by
  subst hq
  intro H locs ls hP hD hK hS hl
  exact lv_aload_n hc.1 hc.2.1 hd rfl (hl.2.2 _ _ hv) (kk H locs ls hP hD hK hS hl)
theorem cb_iload_n (hc : CY p s m args meth c A X) {k : Fin 4} {x : Int32} (hd : decode X.2.1 pc = .ok (.iload_n k, 1)) (hq : pc + 1 = q) (hv : lv[(k : Nat)]? = some (some (.int x))) (kk : CB p l e R s m args below meth c D A cells slots Q X wr wx tys q lv (.int x :: st)) : CB p l e R s m args below meth c D A cells slots Q X wr wx tys pc lv st := by
  subst hq
  intro H locs ls hP hD hK hS hl
  exact lv_iload_n hc.1 hc.2.1 hd rfl (hl.2.2 _ _ hv) (kk H locs ls hP hD hK hS hl)
theorem cb_istore_n (hc : CY p s m args meth c A X) {k : Fin 4} {x : Int32} (hd : decode X.2.1 pc = .ok (.istore_n k, 1)) (hq : pc + 1 = q) (hn : (k : Nat) < X.2.2.1) (hv : stI lv (k : Nat) (.int x) = lv') (kk : CB p l e R s m args below meth c D A cells slots Q X wr wx tys q lv' st) : CB p l e R s m args below meth c D A cells slots Q X wr wx tys pc lv (.int x :: st) := by
  subst hq
  intro H locs ls hP hD hK hS hl
  exact lv_istore_n hc.1 hc.2.1 hd rfl hl.has hn rfl (fun ls' hl' => kk H locs ls' hP hD hK hS (LH.ofI (ro := id) (v := .int x) hl' hv))
theorem cb_iinc (hc : CY p s m args meth c A X) {k : Nat} {n : Int} {x v : Int32} (hd : decode X.2.1 pc = .ok (.iinc k n, 3)) (hq : pc + 3 = q) (hx : lv[k]? = some (some (.int x))) (hw : x + Int32.ofInt n = v) (hn : k < X.2.2.1) (hv : stI lv k (.int v) = lv') (kk : CB p l e R s m args below meth c D A cells slots Q X wr wx tys q lv' st) : CB p l e R s m args below meth c D A cells slots Q X wr wx tys pc lv st := by
  subst hq
  intro H locs ls hP hD hK hS hl
  obtain ⟨j, hj⟩ := List.getElem?_of_mem (lvp_mem (ro := id) (lv := lv) (q := (k, .int x)) |>.mpr ⟨.int x, hx, rfl⟩)
  exact lv_iinc hc.1 hc.2.1 hd hl.has hj hw hn rfl (fun ls' hl' => kk H locs ls' hP hD hK hS (LH.ofI (ro := id) (v := .int v) hl' hv))
theorem cb_iadd (hc : CY p s m args meth c A X) {x y z : Int32} (hd : decode X.2.1 pc = .ok (.iadd, 1)) (hq : pc + 1 = q) (hz : x + y = z) (kk : CB p l e R s m args below meth c D A cells slots Q X wr wx tys q lv (.int z :: st)) : CB p l e R s m args below meth c D A cells slots Q X wr wx tys pc lv (.int y :: .int x :: st) := by
  subst hq
  subst hz
  intro H locs ls hP hD hK hS hl
  exact lv_iadd hc.1 hc.2.1 hd (kk H locs ls hP hD hK hS hl)
theorem cb_dup (hc : CY p s m args meth c A X) {v : Value} (hd : decode X.2.1 pc = .ok (.dup, 1)) (hq : pc + 1 = q) (hv : v.category = 1) (kk : CB p l e R s m args below meth c D A cells slots Q X wr wx tys q lv (v :: v :: st)) : CB p l e R s m args below meth c D A cells slots Q X wr wx tys pc lv (v :: st) := by
  subst hq
  intro H locs ls hP hD hK hS hl
  exact lv_dup hc.1 hc.2.1 hd hv (kk H locs ls hP hD hK hS hl)
theorem cb_ge_f (hc : CY p s m args meth c A X) {x y : Int32} {off : Int} {tg : Nat} (hd : decode X.2.1 pc = .ok (.if_icmp .ge off, 3)) (hq : pc + 3 = q) (ht : (pc : Int) + off = (tg : Int)) (hz : ¬ y ≤ x) (kf : CB p l e R s m args below meth c D A cells slots Q X wr wx tys q lv st) : CB p l e R s m args below meth c D A cells slots Q X wr wx tys pc lv (.int y :: .int x :: st) := by
  subst hq
  intro H locs ls hP hD hK hS hl
  exact lv_icmp_ge hc.1 hc.2.1 hd ht (fun z => absurd z hz) (fun z => kf H locs ls hP hD hK hS hl)
theorem cb_ge_t (hc : CY p s m args meth c A X) {x y : Int32} {off : Int} {tg : Nat} (hd : decode X.2.1 pc = .ok (.if_icmp .ge off, 3)) (ht : (pc : Int) + off = (tg : Int)) (hz : y ≤ x) (kt : CB p l e R s m args below meth c D A cells slots Q X wr wx tys tg lv st) : CB p l e R s m args below meth c D A cells slots Q X wr wx tys pc lv (.int y :: .int x :: st) := by
  intro H locs ls hP hD hK hS hl
  exact lv_icmp_ge hc.1 hc.2.1 hd ht (fun z => kt H locs ls hP hD hK hS hl) (fun z => absurd hz z)
theorem cb_goto (hc : CY p s m args meth c A X) {off : Int} {tg : Nat} (hd : decode X.2.1 pc = .ok (.goto off, 3)) (ht : (pc : Int) + off = (tg : Int)) (kk : CB p l e R s m args below meth c D A cells slots Q X wr wx tys tg lv st) : CB p l e R s m args below meth c D A cells slots Q X wr wx tys pc lv st := by
  intro H locs ls hP hD hK hS hl
  exact lv_goto hc.1 hc.2.1 hd ht (kk H locs ls hP hD hK hS hl)
theorem cb_objInit (hc : CY p s m args meth c A X) {idx a : Nat} (hw1 : Cond.methodLink X.1.cls idx Lib.objectInit ∈ GW) (hw2 : Cond.instanceMethod Lib.objectInit ∈ GW) (hw3 : Cond.code Lib.objectInit ⟨#[0xb1]⟩ 1 none ∈ GW) (hd : decode X.2.1 pc = .ok (.invokespecial idx, 3)) (hq : pc + 3 = q) (hfr : 1 ≤ R.frames) (hlo : 12 ≤ R.locals) (kk : CB p l e R s m args below meth c D A cells slots Q X wr wx tys q lv []) : CB p l e R s m args below meth c D A cells slots Q X wr wx tys pc lv [.ref a] := by
  subst hq
  intro H locs ls hP hD hK hS hl
  refine W.objInit hc.1 hc.2.1 hc.2.2.2.2.1 (hc.2.2.2.2.2.1 _ hw1) (hc.2.2.2.2.2.1 _ hw2) (hc.2.2.2.2.2.1 _ hw3) rfl (by rw [hc.2.2.2.1]; exact hl.1) rfl hd hfr (by show 2 * 0 + 0 + 12 ≤ R.locals; omega) ?_
  exact W.eq (g2 := F0 m (pc + 3) ls []) rfl (kk H locs ls hP hD hK hS hl)
theorem cb_newI (hc : CY p s m args meth c A X) {n : Int32} {N' : Nat} (hw : Cond.arrayClass .int ∈ GW) (hd : decode X.2.1 pc = .ok (.newarray .int, 2)) (hq : pc + 2 = q) (hn : ¬ n < 0) (hN : n.toNatClampNeg = N') (hb : N' * 4 ≤ 536870912) (hcs : cells + 1 ≤ R.cells ∧ slots + N' ≤ R.slots) (kk : ∀ (q' : Nat) (cA : ClassId), CB p l e R s m args below meth c D A (cells + 1) (slots + N') Q X wr (wx ++ [(q', .inl (cA, N', .inl (fun _ => 0)))]) (tys ++ [(cA, .int)]) q lv (.ref q' :: st)) : CB p l e R s m args below meth c D A cells slots Q X wr wx tys pc lv (.int n :: st) := by
  subst hq
  intro H locs ls hP hD hK hS hl
  refine va_newa (atype := .int) (ty := .int) (a0 := (N', .inl (fun _ => 0))) hc.1 hc.2.1 (hc.2.2.2.2.2.1 _ hw) rfl hK hP hD hS hc.2.2.2.2.2.2.2.2.1 (fun cA => rfl) hn hN hb hcs.1 hcs.2 hd (fun q' cA H1 hK1 hP1 hD1 hS1 => ?_)
  rw [List.append_assoc] at hP1 hD1
  exact kk q' cA H1 locs ls hP1 hD1 hK1 hS1 hl
theorem cb_newL (hc : CY p s m args meth c A X) {n : Int32} {N' : Nat} (hw : Cond.arrayClass .long ∈ GW) (hd : decode X.2.1 pc = .ok (.newarray .long, 2)) (hq : pc + 2 = q) (hn : ¬ n < 0) (hN : n.toNatClampNeg = N') (hb : N' * 8 ≤ 536870912) (hcs : cells + 1 ≤ R.cells ∧ slots + N' ≤ R.slots) (kk : ∀ (q' : Nat) (cA : ClassId), CB p l e R s m args below meth c D A (cells + 1) (slots + N') Q X wr (wx ++ [(q', .inl (cA, N', .inr (.inl (fun _ => 0))))]) (tys ++ [(cA, .long)]) q lv (.ref q' :: st)) : CB p l e R s m args below meth c D A cells slots Q X wr wx tys pc lv (.int n :: st) := by
  subst hq
  intro H locs ls hP hD hK hS hl
  refine va_newa (atype := .long) (ty := .long) (a0 := (N', .inr (.inl (fun _ => 0)))) hc.1 hc.2.1 (hc.2.2.2.2.2.1 _ hw) rfl hK hP hD hS hc.2.2.2.2.2.2.2.2.1 (fun cA => rfl) hn hN hb hcs.1 hcs.2 hd (fun q' cA H1 hK1 hP1 hD1 hS1 => ?_)
  rw [List.append_assoc] at hP1 hD1
  exact kk q' cA H1 locs ls hP1 hD1 hK1 hS1 hl
theorem cb_newZ (hc : CY p s m args meth c A X) {n : Int32} {N' : Nat} (hw : Cond.arrayClass .boolean ∈ GW) (hd : decode X.2.1 pc = .ok (.newarray .boolean, 2)) (hq : pc + 2 = q) (hn : ¬ n < 0) (hN : n.toNatClampNeg = N') (hb : N' * 1 ≤ 536870912) (hcs : cells + 1 ≤ R.cells ∧ slots + N' ≤ R.slots) (kk : ∀ (q' : Nat) (cA : ClassId), CB p l e R s m args below meth c D A (cells + 1) (slots + N') Q X wr (wx ++ [(q', .inl (cA, N', .inl (fun _ => 0)))]) (tys ++ [(cA, .boolean)]) q lv (.ref q' :: st)) : CB p l e R s m args below meth c D A cells slots Q X wr wx tys pc lv (.int n :: st) := by
  subst hq
  intro H locs ls hP hD hK hS hl
  refine va_newa (atype := .boolean) (ty := .boolean) (a0 := (N', .inl (fun _ => 0))) hc.1 hc.2.1 (hc.2.2.2.2.2.1 _ hw) rfl hK hP hD hS hc.2.2.2.2.2.2.2.2.1 (fun cA => rfl) hn hN hb hcs.1 hcs.2 hd (fun q' cA H1 hK1 hP1 hD1 hS1 => ?_)
  rw [List.append_assoc] at hP1 hD1
  exact kk q' cA H1 locs ls hP1 hD1 hK1 hS1 hl
theorem cb_newT (hc : CY p s m args meth c A X) {idx : Nat} {n : Int32} {N' : Nat} (hw : Cond.classLink X.1.cls idx "HarbourLights$Tape" ∈ GW) (hd : decode X.2.1 pc = .ok (.anewarray idx, 3)) (hq : pc + 3 = q) (hn : ¬ n < 0) (hN : n.toNatClampNeg = N') (hb : N' * 4 ≤ 536870912) (hcs : cells + 1 ≤ R.cells ∧ slots + N' ≤ R.slots) (kk : ∀ (q' : Nat) (cA : ClassId), CB p l e R s m args below meth c D A (cells + 1) (slots + N') Q X wr (wx ++ [(q', .inl (cA, N', .inr (.inr (.inr (.inr (fun _ => none))))))]) (tys ++ [(cA, .object "HarbourLights$Tape")]) q lv (.ref q' :: st)) : CB p l e R s m args below meth c D A cells slots Q X wr wx tys pc lv (.int n :: st) := by
  subst hq
  intro H locs ls hP hD hK hS hl
  refine va_newq hc.1 hc.2.1 hc.2.2.2.2.1 (hc.2.2.2.2.2.1 _ hw) hc.2.2.2.2.2.2.2.2.2.2.2.2.2.2.2.2.2 hK hP hD hS hc.2.2.2.2.2.2.2.2.1 hn hN hb hcs.1 hcs.2 hd (fun q' cA H1 hK1 hP1 hD1 hS1 => ?_)
  rw [List.append_assoc] at hP1 hD1
  exact kk q' cA H1 locs ls hP1 hD1 hK1 hS1 hl
theorem cb_new (hc : CY p s m args meth c A X) {idx ci N : Nat} {C : String} {T : u_T} {tt : Nat → FieldType} {fs : List Value} (hk : CK ci C T N tt) (hw1 : Cond.classLink X.1.cls idx C ∈ GW) (hw2 : Cond.instantiable C N ∈ GW) (hw3 : Cond.initialized C ∈ GW) (hfs : ∀ j, j < N → defaultValue (tt j) = vp_V fs j) (hd : decode X.2.1 pc = .ok (.new idx, 3)) (hq : pc + 3 = q) (hcs : cells + 1 ≤ R.cells ∧ slots + N ≤ R.slots) (kk : ∀ (q' : Nat), CB p l e R s m args below meth c D A (cells + 1) (slots + N) Q X wr (wx ++ [(q', .inr (ci, fs))]) tys q lv (.ref q' :: st)) : CB p l e R s m args below meth c D A cells slots Q X wr wx tys pc lv st := by
  subst hq
  intro H locs ls hP hD hK hS hl
  obtain ⟨h1, h2, h3, h4⟩ := hk
  refine va_new (C := C) (T := T) (N := N) (ci := ci) (fs := fs) hc.1 hc.2.1 hc.2.2.2.2.2.1 h2 tt h4 hc.2.2.2.2.1 (hc.2.2.2.2.2.1 _ hw1) (hc.2.2.2.2.2.1 _ hw2) (hc.2.2.2.2.2.1 _ hw3) hK hP hD hS hc.2.2.2.2.2.2.2.2.1 h1 hfs hcs.1 hcs.2 hd (fun q' H1 hP1 hD1 hS1 => ?_)
  rw [List.append_assoc] at hP1 hD1
  exact kk q' H1 locs ls hP1 hD1 hK hS1 hl
theorem cb_putR (hc : CY p s m args meth c A X) {idx ci j i a v : Nat} {ty : FieldType} {fs : List Value} (hf : FL X.1.cls idx ci j ty true) (hT : ∀ (C : String) (T : u_T) (N : Nat), classes[ci]? = some (C, T, N) → (T j).1 = X.1.cls) (hin : X.1.name = "<init>") (he : wx[i]? = some (a, .inr (ci, fs))) (hl0 : j < fs.length) (hn : narrow ty (.ref v) = .ref v) (hfit : fits ty (.ref v) = true) (hd : decode X.2.1 pc = .ok (.putfield idx, 3)) (hq : pc + 3 = q) (kk : CB p l e R s m args below meth c D A cells slots Q X wr (wx.set i (a, .inr (ci, fs.set j (.ref v)))) tys q lv st) : CB p l e R s m args below meth c D A cells slots Q X wr wx tys pc lv (.ref v :: .ref a :: st) := by
  subst hq
  intro H locs ls hP hD hK hS hl
  obtain ⟨C, T, N, tt, ⟨h1, h2, h3, h4⟩, h5, h6, h7, h8⟩ := hf
  refine va_putF (C := C) (T := T) (N := N) (ci := ci) (ref := (T j).1) (ty := ty) (v := .ref v) (fs := fs) hc.1 hc.2.1 hc.2.2.2.2.2.1 h2 tt h4 h3 hc.2.2.2.2.1 hK hP hD hS (wr.length + i) (ax_get he) h1 j h5 (hc.2.2.2.2.2.1 _ h6) (fun _ h9 => h9) h8 (hc.2.2.2.2.2.2.2.1.trans hin) (hT C T N h1) ((h4 j h5).trans (by rw [h7])) hn hfit hl0 hd (fun H1 locs1 hP1 hD1 hS1 => ?_)
  rw [ax_set] at hP1 hD1
  exact kk H1 locs1 ls hP1 hD1 hK hS1 hl
theorem cb_putI (hc : CY p s m args meth c A X) {idx ci j i a : Nat} {x : Int32} {fs : List Value} (hf : FL X.1.cls idx ci j .int false) (he : wx[i]? = some (a, .inr (ci, fs))) (hl0 : j < fs.length) (hd : decode X.2.1 pc = .ok (.putfield idx, 3)) (hq : pc + 3 = q) (kk : CB p l e R s m args below meth c D A cells slots Q X wr (wx.set i (a, .inr (ci, fs.set j (.int x)))) tys q lv st) : CB p l e R s m args below meth c D A cells slots Q X wr wx tys pc lv (.int x :: .ref a :: st) := by
  subst hq
  intro H locs ls hP hD hK hS hl
  obtain ⟨C, T, N, tt, ⟨h1, h2, h3, h4⟩, h5, h6, h7, h8⟩ := hf
  refine va_put (C := C) (T := T) (N := N) (ci := ci) (ref := (T j).1) (ty := .int) (v := .int x) (fs := fs) hc.1 hc.2.1 hc.2.2.2.2.2.1 h2 tt h4 h3 hc.2.2.2.2.1 hK hP hD hS (wr.length + i) (ax_get he) h1 j h5 (hc.2.2.2.2.2.1 _ h6) (fun _ h9 => h9) h8 ((h4 j h5).trans (by rw [h7])) rfl rfl hl0 hd (fun H1 locs1 hP1 hD1 hS1 => ?_)
  rw [ax_set] at hP1 hD1
  exact kk H1 locs1 ls hP1 hD1 hK hS1 hl
theorem cb_getR (hc : CY p s m args meth c A X) {idx ci j i a r : Nat} {ty : FieldType} {fin : Bool} {fs : List Value} (hf : FL X.1.cls idx ci j ty fin) (he : wx[i]? = some (a, .inr (ci, fs))) (hj : fs[j]? = some (.ref r)) (hd : decode X.2.1 pc = .ok (.getfield idx, 3)) (hq : pc + 3 = q) (kk : CB p l e R s m args below meth c D A cells slots Q X wr wx tys q lv (.ref r :: st)) : CB p l e R s m args below meth c D A cells slots Q X wr wx tys pc lv (.ref a :: st) := by
  subst hq
  intro H locs ls hP hD hK hS hl
  obtain ⟨C, T, N, tt, ⟨h1, h2, h3, h4⟩, h5, h6, h7, h8⟩ := hf
  exact va_get (C := C) (T := T) (N := N) (ci := ci) (ref := (T j).1) hc.1 hc.2.1 hc.2.2.2.2.2.1 h2 hc.2.2.2.2.1 hK hP (wr.length + i) (ax_get he) h1 j h5 (hc.2.2.2.2.2.1 _ h6) (fun _ h9 => h9) hj hd (kk H locs ls hP hD hK hS hl)
theorem cb_iald (hc : CY p s m args meth c A X) {t0 i a n k : Nat} {cA : ClassId} {f : Nat → Int32} {ix v : Int32} (he : wx[i]? = some (a, .inl (cA, n, .inl f))) (ht : tys[t0]? = some (cA, .int)) (hin : vp_in ix n) (hk : ix.toNatClampNeg = k) (hv : f k = v) (hd : decode X.2.1 pc = .ok (.iaload, 1)) (hq : pc + 1 = q) (kk : CB p l e R s m args below meth c D A cells slots Q X wr wx tys q lv (.int v :: st)) : CB p l e R s m args below meth c D A cells slots Q X wr wx tys pc lv (.int ix :: .ref a :: st) := by
  subst hq
  subst hk
  subst hv
  intro H locs ls hP hD hK hS hl
  exact va_iald hc.1 hc.2.1 hK hP (wr.length + i) t0 (ax_get he) ht hin hd (kk H locs ls hP hD hK hS hl)
theorem cb_iast (hc : CY p s m args meth c A X) {t0 i a n k : Nat} {cA : ClassId} {f : Nat → Int32} {ix x : Int32} (he : wx[i]? = some (a, .inl (cA, n, .inl f))) (ht : tys[t0]? = some (cA, .int)) (hin : vp_in ix n) (hk : ix.toNatClampNeg = k) (hd : decode X.2.1 pc = .ok (.iastore, 1)) (hq : pc + 1 = q) (kk : CB p l e R s m args below meth c D A cells slots Q X wr (wx.set i (a, .inl (cA, n, .inl (upd f k x)))) tys q lv st) : CB p l e R s m args below meth c D A cells slots Q X wr wx tys pc lv (.int x :: .int ix :: .ref a :: st) := by
  subst hq
  subst hk
  intro H locs ls hP hD hK hS hl
  refine va_iast hc.1 hc.2.1 hK hP hD hS (wr.length + i) t0 (ax_get he) ht hin hd (fun H1 locs1 hP1 hD1 hS1 => ?_)
  rw [ax_set] at hP1 hD1
  exact kk H1 locs1 ls hP1 hD1 hK hS1 hl
theorem cb_astT (hc : CY p s m args meth c A X) {t0 i j a n k v : Nat} {cA : ClassId} {f : Nat → Option Nat} {ix : Int32} {vs : List Value} (he : wx[i]? = some (a, .inl (cA, n, .inr (.inr (.inr (.inr f)))))) (ht : tys[t0]? = some (cA, .object RX5)) (hv : wx[j]? = some (v, .inr (5, vs))) (hin : vp_in ix n) (hk : ix.toNatClampNeg = k) (hd : decode X.2.1 pc = .ok (.aastore, 1)) (hq : pc + 1 = q) (kk : CB p l e R s m args below meth c D A cells slots Q X wr (wx.set i (a, .inl (cA, n, .inr (.inr (.inr (.inr (va_up f k (some v)))))))) tys q lv st) : CB p l e R s m args below meth c D A cells slots Q X wr wx tys pc lv (.ref v :: .int ix :: .ref a :: st) := by
  subst hq
  subst hk
  intro H locs ls hP hD hK hS hl
  refine va_astq (r := (RX5, TX5, 3)) hc.1 hc.2.1 hK hP hD hS (wr.length + i) t0 (wr.length + j) 5 (ax_get he) ht (ax_get hv) rfl hin hd (fun H1 locs1 hP1 hD1 hS1 => ?_)
  rw [ax_set] at hP1 hD1
  exact kk H1 locs1 ls hP1 hD1 hK hS1 hl
end CBS
/-- a contract of a constructor (or of a method that it calls): over wr, from wx to what post says -/
def RC (fr cl sl : Nat) : Room := { frames := fr, cells := cl, slots := sl, locals := 40 * fr }
def PK (D : va_G) (A : Nat → Prop) (vs : List Value) (wr wx : va_W) (tys : Ty) : Array Value → State → Prop := va_Pc vs (fun U => (∀ q : Nat, U.heap.size ≤ q → A q) ∧ va_P D classes (wr ++ wx) U.heap ∧ va_D A (wr ++ wx) ∧ va_K D classes tys U ∧ NX U)
def QK (D : va_G) (A : Nat → Prop) (wr : va_W) (post : va_W → Ty → Prop) : Array Value → State → Outcome → State → Prop := va_Qv (fun u : va_W × Ty => post u.1 u.2) (fun u t => va_P D classes (wr ++ u.1) t.heap ∧ va_D A (wr ++ u.1) ∧ va_K D classes u.2 t) A
def CC (Y : Md) (fr cl sl : Nat) (vs : List Value) (wr wx : va_W) (tys : Ty) (post : va_W → Ty → Prop) : Prop := ∀ (l : Launch) (D : va_G) (A : Nat → Prop), Met l Y.1 (wd Y) (RC fr cl sl) (PK D A vs wr wx tys) (QK D A wr post) cl sl A
theorem CC.ofW {Y : Md} {fr cl sl : Nat} {vs : List Value} {wr wx : va_W} {tys : Ty} {post : va_W → Ty → Prop} {lv : List (Option Value)} (hy : plainName Y.1.cls = true) (hn : (lg_sl vs).length ≤ Y.2.2.1) (hlv : lvLe lv (lvArgs vs)) (h : ∀ (p : Program) (l : Launch) (e : Env) (s : State) (m : MethodId) (args : Array Value) (below : List Frame) (meth : Method) (c : Code) (D : va_G) (A : Nat → Prop), CY p s m args meth c A Y → CB p l e (RC fr cl sl) s m args below meth c D A 0 0 (MQ below (QK D A wr post) args s cl sl A) Y wr wx tys 0 lv []) : CC Y fr cl sl vs wr wx tys post := by
  intro l D A
  refine Met.ofW (cc := Y.2.1) (maxL := Y.2.2.1) (ret := Y.2.2.2) hy rfl ?_
  intro p e s m args below meth c s₁ B hml hv
  obtain ⟨rfl, hA, hP, hD, hK, hN⟩ := hv
  have hts := atoms_spec (ws := wd Y) B.pre
  have hC : CY p s m vs.toArray meth c A Y := ⟨B.exec, B.bytes, B.returns, hml, findClass_of_methodNamed B.named, fun w hw => hts w (List.mem_cons_of_mem _ hw), B.notSynchronized, (name_of_methodNamed B.named B.method).1, hA, hN⟩
  have hl := lv_entry vs (n := Y.2.2.1) hn
  rw [lg_entry_eq]
  have e0 : vs.map (cvv id) = vs := by
    have : ∀ v : Value, cvv id v = v := fun v => by cases v <;> rfl
    rw [List.map_congr_left (fun v _ => this v), List.map_id']
  exact h p l e s m _ below meth c D A hC s.heap [] _ hP hD hK va_S.rf ⟨hl.1, hl.2.1, fun i w hw => by
    have h1 := lvArgs_in id vs 0 i w (lvLe_at lv _ hlv i w hw)
    rw [Nat.zero_add, e0] at h1
    exact hl.2.2 _ h1⟩
section CBC
variable {p : Program} {l : Launch} {e : Env} {R : Room} {s : State} {m : MethodId} {args : Array Value} {below : List Frame} {meth : Method} {c : Code} {D : va_G} {A : Nat → Prop} {cells slots : Nat} {Q : State → Prop} {X : Md} {wr wx : va_W} {tys : Ty} {pc q : Nat} {lv lv' : List (Option Value)} {st st0 : List Value}
theorem cb_vret (hc : CY p s m args meth c A X) {post : va_W → Ty → Prop} (hr : X.2.2.2 = none) (hd : decode X.2.1 pc = .ok (.return_, 1)) (kk : post wx tys) : CB p l e R s m args below meth c D A cells slots (MQ below (QK D A wr post) args s cells slots A) X wr wx tys pc lv [] := by
  intro H locs ls hP hD hK hS hl
  have hlocks := hc.2.2.2.2.2.2.1
  exact W.vret hc.1 hc.2.1 (hc.2.2.1.trans hr) (fun t ht hW => ⟨⟨(wx, tys), rfl, kk, by rw [ht]; exact hP, hD, va_K.moved hW.alike hK⟩, hS.F ht⟩) hS.2.2 hd hlocks
theorem PK_blind (D : va_G) (A : Nat → Prop) (vs : List Value) (wr wx : va_W) (tys : Ty) : FrameBlind (PK D A vs wr wx tys) := fun a U g mk h => ⟨h.1, h.2.1, h.2.2.1, h.2.2.2.1, va_K.moved (u := U) (U := U.calling g mk a) (Vm.Alike.refl U.vm) h.2.2.2.2.1, NX.same (U := U.calling g mk a) (u := U) h.2.2.2.2.2 rfl⟩
theorem PK_of (hc : CY p s m args meth c A X) {vs : List Value} {H : Heap} {locs : List Loc} (hP : va_P D classes (wr ++ wx) H) (hD : va_D A (wr ++ wx)) (hK : va_K D classes tys s) (hS : va_S A s.heap H locs) (U : State) (hU : U.heap = H) (hW : s.WarmedH U.vm) : PK D A vs wr wx tys vs.toArray U := ⟨rfl, fun q h => hc.2.2.2.2.2.2.2.2.1 q (Nat.le_trans hS.1 (by rw [← hU]; exact h)), by rw [hU]; exact hP, hD, va_K.moved hW.alike hK, hc.2.2.2.2.2.2.2.2.2.go hW⟩
/-- a private constructor of a nest mate -/
theorem cb_callN (hc : CY p s m args meth c A X) {idx fr cl sl h : Nat} {Y : Md} {wx1 wx2 : va_W} {post : va_W → Ty → Prop} (hnw : NX s → va_Nw (.methodLinkNest X.1.cls idx Y.1 RX8) s) (hw1 : Cond.instanceMethod Y.1 ∈ GW) (hw2 : Cond.initialized Y.1.cls ∈ GW) (hw3 : Cond.code Y.1 Y.2.1 Y.2.2.1 none ∈ GW) (hr : Y.2.2.2 = none) (hy : Y.1.name = "<init>") (hdd : Y.1.cls ≠ "java/lang/invoke/MethodHandle" ∧ Y.1.cls ≠ "java/lang/invoke/VarHandle" ∧ (parseMethodDescriptor Y.1.desc).map (fun d => d.parameters.length) = some 0) (hml : Y.2.2.1 ≤ 21) (hC : CC Y fr cl sl [.ref h] (wr ++ wx1) wx2 [] post) (hst : st0 = .ref h :: st) (hwx : wx1 ++ wx2 = wx) (hw : (st.map fun v => v.category).sum ≤ 8) (hR : fr + 1 ≤ R.frames ∧ 40 * fr + 40 ≤ R.locals) (hcs : cells + cl ≤ R.cells ∧ slots + sl ≤ R.slots) (hd : decode X.2.1 pc = .ok (.invokespecial idx, 3)) (hq : pc + 3 = q) (kk : ∀ (wx' : va_W) (tys' : Ty), post wx' tys' → CB p l e R s m args below meth c D A (cells + cl) (slots + sl) Q X wr (wx1 ++ wx') (tys ++ tys') q lv st) : CB p l e R s m args below meth c D A cells slots Q X wr wx tys pc lv st0 := by
  subst hq
  subst hwx
  subst hst
  intro H locs ls hP hD hK hS hl
  rw [← List.append_assoc] at hP hD
  have hwd : ∀ w ∈ wd Y, w ∈ GW := fun w hw => by
    rcases List.mem_cons.mp hw with rfl | hw
    · rw [hr]; exact hw3
    · exact hw
  refine va_callv (va_runIN (Ts := GW) (own := X.1.cls) (host := RX8) (n := 0) (b := h) (As := []) (rest := st) ⟨hc.1, hc.2.1, hc.2.2.2.1, hc.2.2.2.2.1, hc.2.2.2.2.2.1⟩ (hC l D A) ⟨va_cnB (bytes := Y.2.1) (maxL := Y.2.2.1) 0 hc.2.2.2.2.2.1 (gwgood hwd) (by unfold wd; rw [hr]) rfl rfl (hnw hc.2.2.2.2.2.2.2.2.2) (hc.2.2.2.2.2.1 _ hw2) hdd ⟨hR.1, by show 8 + (Y.2.2.1 + 11) + 40 * fr ≤ R.locals; omega⟩, hy, hc.2.2.2.2.2.1 _ hw1⟩ ⟨PK_blind _ _ _ _ _ _, fun U hU hW => PK_of hc hP hD (hK.sub (tys' := []) [] rfl) hS U hU hW⟩ rfl rfl hl.1 rfl (lv_room hw) hd hcs) hS (fun z _ hz => hz) (fun z hz => hz) (fun u t H1 locs1 ht hvm hpost hB hz hk hS1 => ?_)
  obtain ⟨hP1, hD1, hK1⟩ := hB
  rw [ht, List.append_assoc] at hP1
  rw [List.append_assoc] at hD1
  exact kk u.1 u.2 hpost H1 locs1 ls hP1 hD1 (hK.app (va_K.moved hvm.symm hK1)) hS1 hl
/-- a constructor that all may call -/
theorem cb_callI (hc : CY p s m args meth c A X) {idx fr cl sl h : Nat} {Y : Md} {wx1 wx2 : va_W} {post : va_W → Ty → Prop} (hw0 : Cond.methodLink X.1.cls idx Y.1 ∈ GW) (hw1 : Cond.instanceMethod Y.1 ∈ GW) (hw2 : Cond.initialized Y.1.cls ∈ GW) (hw3 : Cond.code Y.1 Y.2.1 Y.2.2.1 none ∈ GW) (hr : Y.2.2.2 = none) (hy : Y.1.name = "<init>") (hdd : Y.1.cls ≠ "java/lang/invoke/MethodHandle" ∧ Y.1.cls ≠ "java/lang/invoke/VarHandle" ∧ (parseMethodDescriptor Y.1.desc).map (fun d => d.parameters.length) = some 0) (hml : Y.2.2.1 ≤ 21) (hC : CC Y fr cl sl [.ref h] (wr ++ wx1) wx2 [] post) (hst : st0 = .ref h :: st) (hwx : wx1 ++ wx2 = wx) (hw : (st.map fun v => v.category).sum ≤ 8) (hR : fr + 1 ≤ R.frames ∧ 40 * fr + 40 ≤ R.locals) (hcs : cells + cl ≤ R.cells ∧ slots + sl ≤ R.slots) (hd : decode X.2.1 pc = .ok (.invokespecial idx, 3)) (hq : pc + 3 = q) (kk : ∀ (wx' : va_W) (tys' : Ty), post wx' tys' → CB p l e R s m args below meth c D A (cells + cl) (slots + sl) Q X wr (wx1 ++ wx') (tys ++ tys') q lv st) : CB p l e R s m args below meth c D A cells slots Q X wr wx tys pc lv st0 := by
  subst hq
  subst hwx
  subst hst
  intro H locs ls hP hD hK hS hl
  rw [← List.append_assoc] at hP hD
  have hwd : ∀ w ∈ wd Y, w ∈ GW := fun w hw => by
    rcases List.mem_cons.mp hw with rfl | hw
    · rw [hr]; exact hw3
    · exact hw
  refine va_callv (va_runI (Ts := GW) (own := X.1.cls) (n := 0) (b := h) (As := []) (rest := st) ⟨hc.1, hc.2.1, hc.2.2.2.1, hc.2.2.2.2.1, hc.2.2.2.2.2.1⟩ (hC l D A) (cwI (bytes := Y.2.1) (maxL := Y.2.2.1) 0 hc.2.2.2.2.2.1 (gwgood hwd) (by unfold wd; rw [hr]) rfl rfl (hc.2.2.2.2.2.1 _ hw2) (hc.2.2.2.2.2.1 _ hw0) (hc.2.2.2.2.2.1 _ hw1) hy hdd ⟨hR.1, by show 8 + (Y.2.2.1 + 11) + 40 * fr ≤ R.locals; omega⟩) ⟨PK_blind _ _ _ _ _ _, fun U hU hW => PK_of hc hP hD (hK.sub (tys' := []) [] rfl) hS U hU hW⟩ rfl rfl hl.1 rfl (lv_room hw) hd hcs) hS (fun z _ hz => hz) (fun z hz => hz) (fun u t H1 locs1 ht hvm hpost hB hz hk hS1 => ?_)
  obtain ⟨hP1, hD1, hK1⟩ := hB
  rw [ht, List.append_assoc] at hP1
  rw [List.append_assoc] at hD1
  exact kk u.1 u.2 hpost H1 locs1 ls hP1 hD1 (hK.app (va_K.moved hvm.symm hK1)) hS1 hl
/-- a method of the object that is being made; all of wx goes with it -/
theorem cb_callV (hc : CY p s m args meth c A X) {idx fr cl sl h n i ci N : Nat} {T : u_T} {fs : List Value} {Y : Md} {vs : List Value} {post : va_W → Ty → Prop} (hm : MV X.1.cls idx Y n) (hC : CC Y fr 0 0 (.ref h :: vs) wr wx tys post) (he : wx[i]? = some (h, .inr (ci, fs))) (hcl : classes[ci]? = some (Y.1.cls, T, N)) (hn : vs.length = n) (hst : st0 = vs.reverse ++ .ref h :: st) (hw : (st.map fun v => v.category).sum ≤ 8) (hR : fr + 1 ≤ R.frames ∧ 40 * fr + 40 ≤ R.locals) (hcs : cells ≤ R.cells ∧ slots ≤ R.slots) (hd : decode X.2.1 pc = .ok (.invokevirtual idx, 3)) (hq : pc + 3 = q) (kk : ∀ (wx' : va_W) (tys' : Ty), post wx' tys' → CB p l e R s m args below meth c D A cells slots Q X wr wx' tys' q lv st) : CB p l e R s m args below meth c D A cells slots Q X wr wx tys pc lv st0 := by
  subst hq
  subst hst
  intro H locs ls hP hD hK hS hl
  obtain ⟨m1, m2, m3, m4, m5, m6, m7⟩ := hm
  refine va_callv (va_runV (Ts := GW) (own := X.1.cls) (C := Y.1.cls) (As := vs) (rest := st) ⟨hc.1, hc.2.1, hc.2.2.2.1, hc.2.2.2.2.1, hc.2.2.2.2.2.1⟩ (hC l D A) (cwV n hc.2.2.2.2.2.1 (gwgood (fun w hw => ?_)) rfl rfl rfl ⟨rfl, m6⟩ ⟨hR.1, ?_⟩) ⟨PK_blind _ _ _ _ _ _, va_recv hK hP hcl (ax_get he), fun U hU hW => PK_of hc hP hD hK hS U hU hW⟩ rfl hn hl.1 rfl (lv_room hw) hd hcs) hS (fun z _ hz => hz) (fun z hz => hz) (fun u t H1 locs1 ht hvm hpost hB hz hk hS1 => ?_)
  · rcases List.mem_append.mp hw with h | h
    · simp only [List.mem_cons, List.not_mem_nil, or_false] at h
      rcases h with rfl | rfl | rfl | rfl
      · exact m1
      · exact m2
      · exact m3
      · exact m4
    · exact wd_in m5 w h
  · show 8 + (Y.2.2.1 + 11) + 40 * fr ≤ R.locals
    omega
  obtain ⟨hP1, hD1, hK1⟩ := hB
  rw [ht] at hP1
  exact kk u.1 u.2 hpost H1 locs1 ls hP1 hD1 (va_K.moved hvm.symm hK1) hS1 hl
end CBC
