/-! RULES: an abstract machine over the abstract memory; each rule stands on a row of the kit. -/
section HB
variable {p : Program} {l : Launch} {e : Env} {R : Room} {s : State} {m : MethodId} {args : Array Value} {below : List Frame} {meth : Method} {c : Code} {G : Gm} {A : Nat → Prop} {cells slots : Nat} {Q : State → Prop} {X : Md} {M : Mm} {pc q : Nat} {lv lv' : List (Option Value)} {st : List Value}
def CX (p : Program) (s : State) (m : MethodId) (args : Array Value) (meth : Method) (c : Code) (G : Gm) (A : Nat → Prop) (X : Md) : Prop :=
  p.tables.exec = Jvm.exec ∧ c.code = X.2.1 ∧ meth.sig.returnType = X.2.2.2 ∧ c.maxLocals = X.2.2.1 ∧ s.vm.findClass X.1.cls = some m.cls ∧ (∀ w ∈ GW, w.before args s = true) ∧ meth.locks = false ∧ KK G A s s.heap ∧ DD G ∧ (∀ i, i < NSH → A (G.2.1 i))
def BW (p : Program) (l : Launch) (e : Env) (R : Room) (s : State) (m : MethodId) (args : Array Value) (below : List Frame) (meth : Method) (c : Code) (G : Gm) (A : Nat → Prop) (cells slots : Nat) (Q : State → Prop) (X : Md) (M : Mm) (pc : Nat) (lv : List (Option Value)) (st : List Value) : Prop :=
  ∀ (H : Heap) (locs : List Loc) (ls : Array Slot), va_P G.1 classes (wW G M) H → va_S A s.heap H locs → LH ls X.2.2.1 G.2.1 lv → W p l e R s m args below meth c H locs cells slots Q (F0 m pc ls (st.map (cvv G.2.1)))

theorem hb_iconst (hc : CX p s m args meth c G A X) {n : Int} {v : Int32} (hd : decode X.2.1 pc = .ok (.iconst n, 1)) (hq : pc + 1 = q) (hv : Int32.ofInt n = v) (kk : BW p l e R s m args below meth c G A cells slots Q X M q lv (.int v :: st)) : BW p l e R s m args below meth c G A cells slots Q X M pc lv (st) := by
  subst hq
  intro H locs ls hP hS hl
  exact lv_iconst hc.1 hc.2.1 hd hv (kk H locs ls hP hS hl)
theorem hb_bipush (hc : CX p s m args meth c G A X) {n : Int} {v : Int32} (hd : decode X.2.1 pc = .ok (.bipush n, 2)) (hq : pc + 2 = q) (hv : (Int8.ofInt n).toInt32 = v) (kk : BW p l e R s m args below meth c G A cells slots Q X M q lv (.int v :: st)) : BW p l e R s m args below meth c G A cells slots Q X M pc lv (st) := by
  subst hq
  intro H locs ls hP hS hl
  exact lv_bipush hc.1 hc.2.1 hd hv (kk H locs ls hP hS hl)
theorem hb_sipush (hc : CX p s m args meth c G A X) {n : Int} {v : Int32} (hd : decode X.2.1 pc = .ok (.sipush n, 3)) (hq : pc + 3 = q) (hv : (Int16.ofInt n).toInt32 = v) (kk : BW p l e R s m args below meth c G A cells slots Q X M q lv (.int v :: st)) : BW p l e R s m args below meth c G A cells slots Q X M pc lv (st) := by
  subst hq
  intro H locs ls hP hS hl
  exact lv_sipush hc.1 hc.2.1 hd hv (kk H locs ls hP hS hl)
theorem hb_lconst (hc : CX p s m args meth c G A X) {n : Fin 2} {v : Int64} (hd : decode X.2.1 pc = .ok (.lconst n, 1)) (hq : pc + 1 = q) (hv : Int64.ofNat (n : Nat) = v) (kk : BW p l e R s m args below meth c G A cells slots Q X M q lv (.long v :: st)) : BW p l e R s m args below meth c G A cells slots Q X M pc lv (st) := by
  subst hq
  intro H locs ls hP hS hl
  exact lv_lconst hc.1 hc.2.1 hd hv (kk H locs ls hP hS hl)
theorem hb_null (hc : CX p s m args meth c G A X)  (hd : decode X.2.1 pc = .ok (.aconst_null, 1)) (hq : pc + 1 = q)  (kk : BW p l e R s m args below meth c G A cells slots Q X M q lv (.null :: st)) : BW p l e R s m args below meth c G A cells slots Q X M pc lv (st) := by
  subst hq
  intro H locs ls hP hS hl
  exact lv_null hc.1 hc.2.1 hd (kk H locs ls hP hS hl)
theorem hb_ldc (hc : CX p s m args meth c G A X) {n : Nat} {v : Int32} (hd : decode X.2.1 pc = .ok (.ldc n, 2)) (hq : pc + 2 = q) (hw : Cond.constant X.1.cls n v ∈ GW) (kk : BW p l e R s m args below meth c G A cells slots Q X M q lv (.int v :: st)) : BW p l e R s m args below meth c G A cells slots Q X M pc lv (st) := by
  subst hq
  intro H locs ls hP hS hl
  exact lv_ldc hc.1 hc.2.1 hc.2.2.2.2.1 (hc.2.2.2.2.2.1 _ hw) hd (kk H locs ls hP hS hl)
theorem hb_ldcw (hc : CX p s m args meth c G A X) {n : Nat} {v : Int32} (hd : decode X.2.1 pc = .ok (.ldc_w n, 3)) (hq : pc + 3 = q) (hw : Cond.constant X.1.cls n v ∈ GW) (kk : BW p l e R s m args below meth c G A cells slots Q X M q lv (.int v :: st)) : BW p l e R s m args below meth c G A cells slots Q X M pc lv (st) := by
  subst hq
  intro H locs ls hP hS hl
  exact lv_ldcw hc.1 hc.2.1 hc.2.2.2.2.1 (hc.2.2.2.2.2.1 _ hw) hd (kk H locs ls hP hS hl)
theorem hb_ldc2 (hc : CX p s m args meth c G A X) {n : Nat} {v : Int64} (hd : decode X.2.1 pc = .ok (.ldc2_w n, 3)) (hq : pc + 3 = q) (hw : Cond.constantLong X.1.cls n v ∈ GW) (kk : BW p l e R s m args below meth c G A cells slots Q X M q lv (.long v :: st)) : BW p l e R s m args below meth c G A cells slots Q X M pc lv (st) := by
  subst hq
  intro H locs ls hP hS hl
  exact lv_ldc2 hc.1 hc.2.1 hc.2.2.2.2.1 (hc.2.2.2.2.2.1 _ hw) hd (kk H locs ls hP hS hl)
theorem hb_iload_n (hc : CX p s m args meth c G A X) {k : Fin 4} {x : Int32} (hd : decode X.2.1 pc = .ok (.iload_n k, 1)) (hq : pc + 1 = q) (hv : lv[(k : Nat)]? = some (some (.int x))) (kk : BW p l e R s m args below meth c G A cells slots Q X M q lv (.int x :: st)) : BW p l e R s m args below meth c G A cells slots Q X M pc lv (st) := by
  subst hq
  intro H locs ls hP hS hl
  exact lv_iload_n hc.1 hc.2.1 hd rfl (hl.2.2 _ _ hv) (kk H locs ls hP hS hl)
theorem hb_iload (hc : CX p s m args meth c G A X) {k : Nat} {x : Int32} (hd : decode X.2.1 pc = .ok (.iload k, 2)) (hq : pc + 2 = q) (hv : lv[k]? = some (some (.int x))) (kk : BW p l e R s m args below meth c G A cells slots Q X M q lv (.int x :: st)) : BW p l e R s m args below meth c G A cells slots Q X M pc lv (st) := by
  subst hq
  intro H locs ls hP hS hl
  exact lv_iload hc.1 hc.2.1 hd (hl.2.2 _ _ hv) (kk H locs ls hP hS hl)
theorem hb_lload_n (hc : CX p s m args meth c G A X) {k : Fin 4} {x : Int64} (hd : decode X.2.1 pc = .ok (.lload_n k, 1)) (hq : pc + 1 = q) (hv : lv[(k : Nat)]? = some (some (.long x))) (kk : BW p l e R s m args below meth c G A cells slots Q X M q lv (.long x :: st)) : BW p l e R s m args below meth c G A cells slots Q X M pc lv (st) := by
  subst hq
  intro H locs ls hP hS hl
  exact lv_lload_n hc.1 hc.2.1 hd rfl (hl.2.2 _ _ hv) (kk H locs ls hP hS hl)
theorem hb_lload (hc : CX p s m args meth c G A X) {k : Nat} {x : Int64} (hd : decode X.2.1 pc = .ok (.lload k, 2)) (hq : pc + 2 = q) (hv : lv[k]? = some (some (.long x))) (kk : BW p l e R s m args below meth c G A cells slots Q X M q lv (.long x :: st)) : BW p l e R s m args below meth c G A cells slots Q X M pc lv (st) := by
  subst hq
  intro H locs ls hP hS hl
  exact lv_lload hc.1 hc.2.1 hd (hl.2.2 _ _ hv) (kk H locs ls hP hS hl)
theorem hb_aload_n (hc : CX p s m args meth c G A X) {k : Fin 4} {x : Nat} (hd : decode X.2.1 pc = .ok (.aload_n k, 1)) (hq : pc + 1 = q) (hv : lv[(k : Nat)]? = some (some (.ref x))) (kk : BW p l e R s m args below meth c G A cells slots Q X M q lv (.ref x :: st)) : BW p l e R s m args below meth c G A cells slots Q X M pc lv (st) := by
  subst hq
  intro H locs ls hP hS hl
  exact lv_aload_n hc.1 hc.2.1 hd rfl (hl.2.2 _ _ hv) (kk H locs ls hP hS hl)
theorem hb_aload (hc : CX p s m args meth c G A X) {k : Nat} {x : Nat} (hd : decode X.2.1 pc = .ok (.aload k, 2)) (hq : pc + 2 = q) (hv : lv[k]? = some (some (.ref x))) (kk : BW p l e R s m args below meth c G A cells slots Q X M q lv (.ref x :: st)) : BW p l e R s m args below meth c G A cells slots Q X M pc lv (st) := by
  subst hq
  intro H locs ls hP hS hl
  exact lv_aload hc.1 hc.2.1 hd (hl.2.2 _ _ hv) (kk H locs ls hP hS hl)
theorem hb_aload_nN (hc : CX p s m args meth c G A X) {k : Fin 4} (hd : decode X.2.1 pc = .ok (.aload_n k, 1)) (hq : pc + 1 = q) (hv : lv[(k : Nat)]? = some (some .null)) (kk : BW p l e R s m args below meth c G A cells slots Q X M q lv (.null :: st)) : BW p l e R s m args below meth c G A cells slots Q X M pc lv (st) := by
  subst hq
  intro H locs ls hP hS hl
  exact lv_aload_nN hc.1 hc.2.1 hd rfl (hl.2.2 _ _ hv) (kk H locs ls hP hS hl)
theorem hb_istore_n (hc : CX p s m args meth c G A X) {k : Fin 4} {x : Int32} (hd : decode X.2.1 pc = .ok (.istore_n k, 1)) (hq : pc + 1 = q) (hn : (k : Nat) < X.2.2.1) (hv : stI lv (k : Nat) (.int x) = lv') (kk : BW p l e R s m args below meth c G A cells slots Q X M q lv' st) : BW p l e R s m args below meth c G A cells slots Q X M pc lv (.int x :: st) := by
  subst hq
  intro H locs ls hP hS hl
  exact lv_istore_n hc.1 hc.2.1 hd rfl hl.has hn rfl (fun ls' hl' => kk H locs ls' hP hS (LH.ofI (v := .int x) hl' hv))
theorem hb_istore (hc : CX p s m args meth c G A X) {k : Nat} {x : Int32} (hd : decode X.2.1 pc = .ok (.istore k, 2)) (hq : pc + 2 = q) (hn : k < X.2.2.1) (hv : stI lv k (.int x) = lv') (kk : BW p l e R s m args below meth c G A cells slots Q X M q lv' st) : BW p l e R s m args below meth c G A cells slots Q X M pc lv (.int x :: st) := by
  subst hq
  intro H locs ls hP hS hl
  exact lv_istore hc.1 hc.2.1 hd hl.has hn rfl (fun ls' hl' => kk H locs ls' hP hS (LH.ofI (v := .int x) hl' hv))
theorem hb_astore_n (hc : CX p s m args meth c G A X) {k : Fin 4} {x : Nat} (hd : decode X.2.1 pc = .ok (.astore_n k, 1)) (hq : pc + 1 = q) (hn : (k : Nat) < X.2.2.1) (hv : stI lv (k : Nat) (.ref x) = lv') (kk : BW p l e R s m args below meth c G A cells slots Q X M q lv' st) : BW p l e R s m args below meth c G A cells slots Q X M pc lv (.ref x :: st) := by
  subst hq
  intro H locs ls hP hS hl
  exact lv_astore_n hc.1 hc.2.1 hd rfl hl.has hn rfl (fun ls' hl' => kk H locs ls' hP hS (LH.ofI (v := .ref x) hl' hv))
theorem hb_astore (hc : CX p s m args meth c G A X) {k : Nat} {x : Nat} (hd : decode X.2.1 pc = .ok (.astore k, 2)) (hq : pc + 2 = q) (hn : k < X.2.2.1) (hv : stI lv k (.ref x) = lv') (kk : BW p l e R s m args below meth c G A cells slots Q X M q lv' st) : BW p l e R s m args below meth c G A cells slots Q X M pc lv (.ref x :: st) := by
  subst hq
  intro H locs ls hP hS hl
  exact lv_astore hc.1 hc.2.1 hd hl.has hn rfl (fun ls' hl' => kk H locs ls' hP hS (LH.ofI (v := .ref x) hl' hv))
theorem hb_lstore_n (hc : CX p s m args meth c G A X) {k : Fin 4} {x : Int64} (hd : decode X.2.1 pc = .ok (.lstore_n k, 1)) (hq : pc + 1 = q) (hn : (k : Nat) + 1 < X.2.2.1) (hv : stL lv (k : Nat) (.long x) = lv') (kk : BW p l e R s m args below meth c G A cells slots Q X M q lv' st) : BW p l e R s m args below meth c G A cells slots Q X M pc lv (.long x :: st) := by
  subst hq
  intro H locs ls hP hS hl
  exact lv_lstore_n hc.1 hc.2.1 hd rfl hl.has hn rfl (fun ls' hl' => kk H locs ls' hP hS (LH.ofL (v := .long x) hl' hv))
theorem hb_lstore (hc : CX p s m args meth c G A X) {k : Nat} {x : Int64} (hd : decode X.2.1 pc = .ok (.lstore k, 2)) (hq : pc + 2 = q) (hn : k + 1 < X.2.2.1) (hv : stL lv k (.long x) = lv') (kk : BW p l e R s m args below meth c G A cells slots Q X M q lv' st) : BW p l e R s m args below meth c G A cells slots Q X M pc lv (.long x :: st) := by
  subst hq
  intro H locs ls hP hS hl
  exact lv_lstore hc.1 hc.2.1 hd hl.has hn rfl (fun ls' hl' => kk H locs ls' hP hS (LH.ofL (v := .long x) hl' hv))
theorem hb_astore_nN (hc : CX p s m args meth c G A X) {k : Fin 4} (hd : decode X.2.1 pc = .ok (.astore_n k, 1)) (hq : pc + 1 = q) (hn : (k : Nat) < X.2.2.1) (hv : stI lv (k : Nat) .null = lv') (kk : BW p l e R s m args below meth c G A cells slots Q X M q lv' st) : BW p l e R s m args below meth c G A cells slots Q X M pc lv (.null :: st) := by
  subst hq
  intro H locs ls hP hS hl
  exact lv_astore_nN hc.1 hc.2.1 hd rfl hl.has hn rfl (fun ls' hl' => kk H locs ls' hP hS (LH.ofI (v := .null) hl' hv))
theorem hb_iinc (hc : CX p s m args meth c G A X) {k : Nat} {n : Int} {x v : Int32} (hd : decode X.2.1 pc = .ok (.iinc k n, 3)) (hq : pc + 3 = q) (hx : lv[k]? = some (some (.int x))) (hw : x + Int32.ofInt n = v) (hn : k < X.2.2.1) (hv : stI lv k (.int v) = lv') (kk : BW p l e R s m args below meth c G A cells slots Q X M q lv' st) : BW p l e R s m args below meth c G A cells slots Q X M pc lv st := by
  subst hq
  intro H locs ls hP hS hl
  obtain ⟨j, hj⟩ := List.getElem?_of_mem (lvp_mem (ro := G.2.1) (lv := lv) (q := (k, .int x)) |>.mpr ⟨.int x, hx, rfl⟩)
  exact lv_iinc hc.1 hc.2.1 hd hl.has hj hw hn rfl (fun ls' hl' => kk H locs ls' hP hS (LH.ofI (v := .int v) hl' hv))
theorem hb_iadd (hc : CX p s m args meth c G A X) {x y : Int32} (hd : decode X.2.1 pc = .ok (.iadd, 1)) (hq : pc + 1 = q)  (kk : BW p l e R s m args below meth c G A cells slots Q X M q lv (.int (x + y) :: st)) : BW p l e R s m args below meth c G A cells slots Q X M pc lv (.int y :: .int x :: st) := by
  subst hq
  intro H locs ls hP hS hl
  exact lv_iadd hc.1 hc.2.1 hd (kk H locs ls hP hS hl)
theorem hb_isub (hc : CX p s m args meth c G A X) {x y : Int32} (hd : decode X.2.1 pc = .ok (.isub, 1)) (hq : pc + 1 = q)  (kk : BW p l e R s m args below meth c G A cells slots Q X M q lv (.int (x - y) :: st)) : BW p l e R s m args below meth c G A cells slots Q X M pc lv (.int y :: .int x :: st) := by
  subst hq
  intro H locs ls hP hS hl
  exact lv_isub hc.1 hc.2.1 hd (kk H locs ls hP hS hl)
theorem hb_imul (hc : CX p s m args meth c G A X) {x y : Int32} (hd : decode X.2.1 pc = .ok (.imul, 1)) (hq : pc + 1 = q)  (kk : BW p l e R s m args below meth c G A cells slots Q X M q lv (.int (x * y) :: st)) : BW p l e R s m args below meth c G A cells slots Q X M pc lv (.int y :: .int x :: st) := by
  subst hq
  intro H locs ls hP hS hl
  exact lv_imul hc.1 hc.2.1 hd (kk H locs ls hP hS hl)
theorem hb_iand (hc : CX p s m args meth c G A X) {x y : Int32} (hd : decode X.2.1 pc = .ok (.iand, 1)) (hq : pc + 1 = q)  (kk : BW p l e R s m args below meth c G A cells slots Q X M q lv (.int (x &&& y) :: st)) : BW p l e R s m args below meth c G A cells slots Q X M pc lv (.int y :: .int x :: st) := by
  subst hq
  intro H locs ls hP hS hl
  exact lv_iand hc.1 hc.2.1 hd (kk H locs ls hP hS hl)
theorem hb_ior (hc : CX p s m args meth c G A X) {x y : Int32} (hd : decode X.2.1 pc = .ok (.ior, 1)) (hq : pc + 1 = q)  (kk : BW p l e R s m args below meth c G A cells slots Q X M q lv (.int (x ||| y) :: st)) : BW p l e R s m args below meth c G A cells slots Q X M pc lv (.int y :: .int x :: st) := by
  subst hq
  intro H locs ls hP hS hl
  exact lv_ior hc.1 hc.2.1 hd (kk H locs ls hP hS hl)
theorem hb_ixor (hc : CX p s m args meth c G A X) {x y : Int32} (hd : decode X.2.1 pc = .ok (.ixor, 1)) (hq : pc + 1 = q)  (kk : BW p l e R s m args below meth c G A cells slots Q X M q lv (.int (x ^^^ y) :: st)) : BW p l e R s m args below meth c G A cells slots Q X M pc lv (.int y :: .int x :: st) := by
  subst hq
  intro H locs ls hP hS hl
  exact lv_ixor hc.1 hc.2.1 hd (kk H locs ls hP hS hl)
theorem hb_ishl (hc : CX p s m args meth c G A X) {x y : Int32} (hd : decode X.2.1 pc = .ok (.ishl, 1)) (hq : pc + 1 = q)  (kk : BW p l e R s m args below meth c G A cells slots Q X M q lv (.int (x <<< (y &&& 31)) :: st)) : BW p l e R s m args below meth c G A cells slots Q X M pc lv (.int y :: .int x :: st) := by
  subst hq
  intro H locs ls hP hS hl
  exact lv_ishl hc.1 hc.2.1 hd (kk H locs ls hP hS hl)
theorem hb_ishr (hc : CX p s m args meth c G A X) {x y : Int32} (hd : decode X.2.1 pc = .ok (.ishr, 1)) (hq : pc + 1 = q)  (kk : BW p l e R s m args below meth c G A cells slots Q X M q lv (.int (x >>> (y &&& 31)) :: st)) : BW p l e R s m args below meth c G A cells slots Q X M pc lv (.int y :: .int x :: st) := by
  subst hq
  intro H locs ls hP hS hl
  exact lv_ishr hc.1 hc.2.1 hd (kk H locs ls hP hS hl)
theorem hb_ineg (hc : CX p s m args meth c G A X) {x : Int32} (hd : decode X.2.1 pc = .ok (.ineg, 1)) (hq : pc + 1 = q)  (kk : BW p l e R s m args below meth c G A cells slots Q X M q lv (.int (-x) :: st)) : BW p l e R s m args below meth c G A cells slots Q X M pc lv (.int x :: st) := by
  subst hq
  intro H locs ls hP hS hl
  exact lv_ineg hc.1 hc.2.1 hd (kk H locs ls hP hS hl)
theorem hb_idiv (hc : CX p s m args meth c G A X) {x y : Int32} (hd : decode X.2.1 pc = .ok (.idiv, 1)) (hq : pc + 1 = q) (hne : ¬ y = 0) (kk : BW p l e R s m args below meth c G A cells slots Q X M q lv (.int (x / y) :: st)) : BW p l e R s m args below meth c G A cells slots Q X M pc lv (.int y :: .int x :: st) := by
  subst hq
  intro H locs ls hP hS hl
  exact lv_idiv hc.1 hc.2.1 hd hne (kk H locs ls hP hS hl)
theorem hb_irem (hc : CX p s m args meth c G A X) {x y : Int32} (hd : decode X.2.1 pc = .ok (.irem, 1)) (hq : pc + 1 = q) (hne : ¬ y = 0) (kk : BW p l e R s m args below meth c G A cells slots Q X M q lv (.int (x - x / y * y) :: st)) : BW p l e R s m args below meth c G A cells slots Q X M pc lv (.int y :: .int x :: st) := by
  subst hq
  intro H locs ls hP hS hl
  exact lv_irem hc.1 hc.2.1 hd hne (kk H locs ls hP hS hl)
theorem hb_iushr (hc : CX p s m args meth c G A X) {x y : Int32} (hd : decode X.2.1 pc = .ok (.iushr, 1)) (hq : pc + 1 = q)  (kk : BW p l e R s m args below meth c G A cells slots Q X M q lv (.int ((x.toUInt32 >>> (y.toUInt32 &&& Int32.toUInt32 31)).toInt32) :: st)) : BW p l e R s m args below meth c G A cells slots Q X M pc lv (.int y :: .int x :: st) := by
  subst hq
  intro H locs ls hP hS hl
  exact lv_iushr hc.1 hc.2.1 hd rfl (kk H locs ls hP hS hl)
theorem hb_ladd (hc : CX p s m args meth c G A X) {x y : Int64} (hd : decode X.2.1 pc = .ok (.ladd, 1)) (hq : pc + 1 = q)  (kk : BW p l e R s m args below meth c G A cells slots Q X M q lv (.long (x + y) :: st)) : BW p l e R s m args below meth c G A cells slots Q X M pc lv (.long y :: .long x :: st) := by
  subst hq
  intro H locs ls hP hS hl
  exact lv_ladd hc.1 hc.2.1 hd (kk H locs ls hP hS hl)
theorem hb_lsub (hc : CX p s m args meth c G A X) {x y : Int64} (hd : decode X.2.1 pc = .ok (.lsub, 1)) (hq : pc + 1 = q)  (kk : BW p l e R s m args below meth c G A cells slots Q X M q lv (.long (x - y) :: st)) : BW p l e R s m args below meth c G A cells slots Q X M pc lv (.long y :: .long x :: st) := by
  subst hq
  intro H locs ls hP hS hl
  exact lv_lsub hc.1 hc.2.1 hd (kk H locs ls hP hS hl)
theorem hb_land (hc : CX p s m args meth c G A X) {x y : Int64} (hd : decode X.2.1 pc = .ok (.land, 1)) (hq : pc + 1 = q)  (kk : BW p l e R s m args below meth c G A cells slots Q X M q lv (.long (x &&& y) :: st)) : BW p l e R s m args below meth c G A cells slots Q X M pc lv (.long y :: .long x :: st) := by
  subst hq
  intro H locs ls hP hS hl
  exact lv_land hc.1 hc.2.1 hd (kk H locs ls hP hS hl)
theorem hb_lor (hc : CX p s m args meth c G A X) {x y : Int64} (hd : decode X.2.1 pc = .ok (.lor, 1)) (hq : pc + 1 = q)  (kk : BW p l e R s m args below meth c G A cells slots Q X M q lv (.long (x ||| y) :: st)) : BW p l e R s m args below meth c G A cells slots Q X M pc lv (.long y :: .long x :: st) := by
  subst hq
  intro H locs ls hP hS hl
  exact lv_lor hc.1 hc.2.1 hd (kk H locs ls hP hS hl)
theorem hb_lxor (hc : CX p s m args meth c G A X) {x y : Int64} (hd : decode X.2.1 pc = .ok (.lxor, 1)) (hq : pc + 1 = q)  (kk : BW p l e R s m args below meth c G A cells slots Q X M q lv (.long (x ^^^ y) :: st)) : BW p l e R s m args below meth c G A cells slots Q X M pc lv (.long y :: .long x :: st) := by
  subst hq
  intro H locs ls hP hS hl
  exact lv_lxor hc.1 hc.2.1 hd (kk H locs ls hP hS hl)
theorem hb_lshl (hc : CX p s m args meth c G A X) {x : Int64} {y : Int32} (hd : decode X.2.1 pc = .ok (.lshl, 1)) (hq : pc + 1 = q)  (kk : BW p l e R s m args below meth c G A cells slots Q X M q lv (.long (x <<< (y.toInt64 &&& 63)) :: st)) : BW p l e R s m args below meth c G A cells slots Q X M pc lv (.int y :: .long x :: st) := by
  subst hq
  intro H locs ls hP hS hl
  exact lv_lshl hc.1 hc.2.1 hd rfl (kk H locs ls hP hS hl)
theorem hb_lshr (hc : CX p s m args meth c G A X) {x : Int64} {y : Int32} (hd : decode X.2.1 pc = .ok (.lshr, 1)) (hq : pc + 1 = q)  (kk : BW p l e R s m args below meth c G A cells slots Q X M q lv (.long (x >>> (y.toInt64 &&& 63)) :: st)) : BW p l e R s m args below meth c G A cells slots Q X M pc lv (.int y :: .long x :: st) := by
  subst hq
  intro H locs ls hP hS hl
  exact lv_lshr hc.1 hc.2.1 hd rfl (kk H locs ls hP hS hl)
theorem hb_lushr (hc : CX p s m args meth c G A X) {x : Int64} {y : Int32} (hd : decode X.2.1 pc = .ok (.lushr, 1)) (hq : pc + 1 = q)  (kk : BW p l e R s m args below meth c G A cells slots Q X M q lv (.long ((x.toUInt64 >>> (y.toInt64.toUInt64 &&& Int64.toUInt64 63)).toInt64) :: st)) : BW p l e R s m args below meth c G A cells slots Q X M pc lv (.int y :: .long x :: st) := by
  subst hq
  intro H locs ls hP hS hl
  exact lv_lushr hc.1 hc.2.1 hd rfl (kk H locs ls hP hS hl)
theorem hb_i2l (hc : CX p s m args meth c G A X) {x : Int32} (hd : decode X.2.1 pc = .ok (.i2l, 1)) (hq : pc + 1 = q)  (kk : BW p l e R s m args below meth c G A cells slots Q X M q lv (.long x.toInt64 :: st)) : BW p l e R s m args below meth c G A cells slots Q X M pc lv (.int x :: st) := by
  subst hq
  intro H locs ls hP hS hl
  exact lv_i2l hc.1 hc.2.1 hd rfl (kk H locs ls hP hS hl)
theorem hb_l2i (hc : CX p s m args meth c G A X) {x : Int64} (hd : decode X.2.1 pc = .ok (.l2i, 1)) (hq : pc + 1 = q)  (kk : BW p l e R s m args below meth c G A cells slots Q X M q lv (.int x.toInt32 :: st)) : BW p l e R s m args below meth c G A cells slots Q X M pc lv (.long x :: st) := by
  subst hq
  intro H locs ls hP hS hl
  exact lv_l2i hc.1 hc.2.1 hd rfl (kk H locs ls hP hS hl)
theorem hb_lcmp (hc : CX p s m args meth c G A X) {x y : Int64} (hd : decode X.2.1 pc = .ok (.lcmp, 1)) (hq : pc + 1 = q)  (kk : BW p l e R s m args below meth c G A cells slots Q X M q lv (.int (lg_cmp x y) :: st)) : BW p l e R s m args below meth c G A cells slots Q X M pc lv (.long y :: .long x :: st) := by
  subst hq
  intro H locs ls hP hS hl
  exact W.lcmp hc.1 hc.2.1 hd (kk H locs ls hP hS hl)
theorem hb_dup (hc : CX p s m args meth c G A X) {v : Value} (hd : decode X.2.1 pc = .ok (.dup, 1)) (hq : pc + 1 = q) (hv : v.category = 1) (kk : BW p l e R s m args below meth c G A cells slots Q X M q lv (v :: v :: st)) : BW p l e R s m args below meth c G A cells slots Q X M pc lv (v :: st) := by
  subst hq
  intro H locs ls hP hS hl
  exact lv_dup hc.1 hc.2.1 hd ((cvv_cat _ _).trans hv) (kk H locs ls hP hS hl)
theorem hb_pop (hc : CX p s m args meth c G A X) {v : Value} (hd : decode X.2.1 pc = .ok (.pop, 1)) (hq : pc + 1 = q) (hv : v.category = 1) (kk : BW p l e R s m args below meth c G A cells slots Q X M q lv (st)) : BW p l e R s m args below meth c G A cells slots Q X M pc lv (v :: st) := by
  subst hq
  intro H locs ls hP hS hl
  exact lv_pop hc.1 hc.2.1 hd ((cvv_cat _ _).trans hv) (kk H locs ls hP hS hl)
theorem hb_dup2 (hc : CX p s m args meth c G A X) {v u : Value} (hd : decode X.2.1 pc = .ok (.dup2, 1)) (hq : pc + 1 = q) (hv : v.category = 1) (hu : u.category = 1) (kk : BW p l e R s m args below meth c G A cells slots Q X M q lv (v :: u :: v :: u :: st)) : BW p l e R s m args below meth c G A cells slots Q X M pc lv (v :: u :: st) := by
  subst hq
  intro H locs ls hP hS hl
  exact lv_dup2_11 hc.1 hc.2.1 hd ((cvv_cat _ _).trans hv) ((cvv_cat _ _).trans hu) (kk H locs ls hP hS hl)
theorem hb_if_eq (hc : CX p s m args meth c G A X) {x : Int32} {off : Int} {tg : Nat} (hd : decode X.2.1 pc = .ok (.ifCond .eq off, 3)) (hq : pc + 3 = q) (ht : (pc : Int) + off = (tg : Int)) (kt : x = 0 → BW p l e R s m args below meth c G A cells slots Q X M tg lv st) (kf : ¬ x = 0 → BW p l e R s m args below meth c G A cells slots Q X M q lv st) : BW p l e R s m args below meth c G A cells slots Q X M pc lv (.int x :: st) := by
  subst hq
  intro H locs ls hP hS hl
  exact lv_if_eq hc.1 hc.2.1 hd ht (fun z => kt z H locs ls hP hS hl) (fun z => kf z H locs ls hP hS hl)
theorem hb_if_ne (hc : CX p s m args meth c G A X) {x : Int32} {off : Int} {tg : Nat} (hd : decode X.2.1 pc = .ok (.ifCond .ne off, 3)) (hq : pc + 3 = q) (ht : (pc : Int) + off = (tg : Int)) (kt : ¬ x = 0 → BW p l e R s m args below meth c G A cells slots Q X M tg lv st) (kf : x = 0 → BW p l e R s m args below meth c G A cells slots Q X M q lv st) : BW p l e R s m args below meth c G A cells slots Q X M pc lv (.int x :: st) := by
  subst hq
  intro H locs ls hP hS hl
  exact lv_if_ne hc.1 hc.2.1 hd ht (fun z => kt z H locs ls hP hS hl) (fun z => kf z H locs ls hP hS hl)
theorem hb_if_lt (hc : CX p s m args meth c G A X) {x : Int32} {off : Int} {tg : Nat} (hd : decode X.2.1 pc = .ok (.ifCond .lt off, 3)) (hq : pc + 3 = q) (ht : (pc : Int) + off = (tg : Int)) (kt : x < 0 → BW p l e R s m args below meth c G A cells slots Q X M tg lv st) (kf : ¬ x < 0 → BW p l e R s m args below meth c G A cells slots Q X M q lv st) : BW p l e R s m args below meth c G A cells slots Q X M pc lv (.int x :: st) := by
  subst hq
  intro H locs ls hP hS hl
  exact lv_if_lt hc.1 hc.2.1 hd ht (fun z => kt z H locs ls hP hS hl) (fun z => kf z H locs ls hP hS hl)
theorem hb_if_ge (hc : CX p s m args meth c G A X) {x : Int32} {off : Int} {tg : Nat} (hd : decode X.2.1 pc = .ok (.ifCond .ge off, 3)) (hq : pc + 3 = q) (ht : (pc : Int) + off = (tg : Int)) (kt : 0 ≤ x → BW p l e R s m args below meth c G A cells slots Q X M tg lv st) (kf : ¬ 0 ≤ x → BW p l e R s m args below meth c G A cells slots Q X M q lv st) : BW p l e R s m args below meth c G A cells slots Q X M pc lv (.int x :: st) := by
  subst hq
  intro H locs ls hP hS hl
  exact lv_if_ge hc.1 hc.2.1 hd ht (fun z => kt z H locs ls hP hS hl) (fun z => kf z H locs ls hP hS hl)
theorem hb_if_gt (hc : CX p s m args meth c G A X) {x : Int32} {off : Int} {tg : Nat} (hd : decode X.2.1 pc = .ok (.ifCond .gt off, 3)) (hq : pc + 3 = q) (ht : (pc : Int) + off = (tg : Int)) (kt : 0 < x → BW p l e R s m args below meth c G A cells slots Q X M tg lv st) (kf : ¬ 0 < x → BW p l e R s m args below meth c G A cells slots Q X M q lv st) : BW p l e R s m args below meth c G A cells slots Q X M pc lv (.int x :: st) := by
  subst hq
  intro H locs ls hP hS hl
  exact lv_if_gt hc.1 hc.2.1 hd ht (fun z => kt z H locs ls hP hS hl) (fun z => kf z H locs ls hP hS hl)
theorem hb_if_le (hc : CX p s m args meth c G A X) {x : Int32} {off : Int} {tg : Nat} (hd : decode X.2.1 pc = .ok (.ifCond .le off, 3)) (hq : pc + 3 = q) (ht : (pc : Int) + off = (tg : Int)) (kt : x ≤ 0 → BW p l e R s m args below meth c G A cells slots Q X M tg lv st) (kf : ¬ x ≤ 0 → BW p l e R s m args below meth c G A cells slots Q X M q lv st) : BW p l e R s m args below meth c G A cells slots Q X M pc lv (.int x :: st) := by
  subst hq
  intro H locs ls hP hS hl
  exact lv_if_le hc.1 hc.2.1 hd ht (fun z => kt z H locs ls hP hS hl) (fun z => kf z H locs ls hP hS hl)
theorem hb_icmp_eq (hc : CX p s m args meth c G A X) {x y : Int32} {off : Int} {tg : Nat} (hd : decode X.2.1 pc = .ok (.if_icmp .eq off, 3)) (hq : pc + 3 = q) (ht : (pc : Int) + off = (tg : Int)) (kt : x = y → BW p l e R s m args below meth c G A cells slots Q X M tg lv st) (kf : ¬ x = y → BW p l e R s m args below meth c G A cells slots Q X M q lv st) : BW p l e R s m args below meth c G A cells slots Q X M pc lv (.int y :: .int x :: st) := by
  subst hq
  intro H locs ls hP hS hl
  exact lv_icmp_eq hc.1 hc.2.1 hd ht (fun z => kt z H locs ls hP hS hl) (fun z => kf z H locs ls hP hS hl)
theorem hb_icmp_ne (hc : CX p s m args meth c G A X) {x y : Int32} {off : Int} {tg : Nat} (hd : decode X.2.1 pc = .ok (.if_icmp .ne off, 3)) (hq : pc + 3 = q) (ht : (pc : Int) + off = (tg : Int)) (kt : ¬ x = y → BW p l e R s m args below meth c G A cells slots Q X M tg lv st) (kf : x = y → BW p l e R s m args below meth c G A cells slots Q X M q lv st) : BW p l e R s m args below meth c G A cells slots Q X M pc lv (.int y :: .int x :: st) := by
  subst hq
  intro H locs ls hP hS hl
  exact lv_icmp_ne hc.1 hc.2.1 hd ht (fun z => kt z H locs ls hP hS hl) (fun z => kf z H locs ls hP hS hl)
theorem hb_icmp_lt (hc : CX p s m args meth c G A X) {x y : Int32} {off : Int} {tg : Nat} (hd : decode X.2.1 pc = .ok (.if_icmp .lt off, 3)) (hq : pc + 3 = q) (ht : (pc : Int) + off = (tg : Int)) (kt : x < y → BW p l e R s m args below meth c G A cells slots Q X M tg lv st) (kf : ¬ x < y → BW p l e R s m args below meth c G A cells slots Q X M q lv st) : BW p l e R s m args below meth c G A cells slots Q X M pc lv (.int y :: .int x :: st) := by
  subst hq
  intro H locs ls hP hS hl
  exact lv_icmp_lt hc.1 hc.2.1 hd ht (fun z => kt z H locs ls hP hS hl) (fun z => kf z H locs ls hP hS hl)
theorem hb_icmp_ge (hc : CX p s m args meth c G A X) {x y : Int32} {off : Int} {tg : Nat} (hd : decode X.2.1 pc = .ok (.if_icmp .ge off, 3)) (hq : pc + 3 = q) (ht : (pc : Int) + off = (tg : Int)) (kt : y ≤ x → BW p l e R s m args below meth c G A cells slots Q X M tg lv st) (kf : ¬ y ≤ x → BW p l e R s m args below meth c G A cells slots Q X M q lv st) : BW p l e R s m args below meth c G A cells slots Q X M pc lv (.int y :: .int x :: st) := by
  subst hq
  intro H locs ls hP hS hl
  exact lv_icmp_ge hc.1 hc.2.1 hd ht (fun z => kt z H locs ls hP hS hl) (fun z => kf z H locs ls hP hS hl)
theorem hb_icmp_gt (hc : CX p s m args meth c G A X) {x y : Int32} {off : Int} {tg : Nat} (hd : decode X.2.1 pc = .ok (.if_icmp .gt off, 3)) (hq : pc + 3 = q) (ht : (pc : Int) + off = (tg : Int)) (kt : y < x → BW p l e R s m args below meth c G A cells slots Q X M tg lv st) (kf : ¬ y < x → BW p l e R s m args below meth c G A cells slots Q X M q lv st) : BW p l e R s m args below meth c G A cells slots Q X M pc lv (.int y :: .int x :: st) := by
  subst hq
  intro H locs ls hP hS hl
  exact lv_icmp_gt hc.1 hc.2.1 hd ht (fun z => kt z H locs ls hP hS hl) (fun z => kf z H locs ls hP hS hl)
theorem hb_icmp_le (hc : CX p s m args meth c G A X) {x y : Int32} {off : Int} {tg : Nat} (hd : decode X.2.1 pc = .ok (.if_icmp .le off, 3)) (hq : pc + 3 = q) (ht : (pc : Int) + off = (tg : Int)) (kt : x ≤ y → BW p l e R s m args below meth c G A cells slots Q X M tg lv st) (kf : ¬ x ≤ y → BW p l e R s m args below meth c G A cells slots Q X M q lv st) : BW p l e R s m args below meth c G A cells slots Q X M pc lv (.int y :: .int x :: st) := by
  subst hq
  intro H locs ls hP hS hl
  exact lv_icmp_le hc.1 hc.2.1 hd ht (fun z => kt z H locs ls hP hS hl) (fun z => kf z H locs ls hP hS hl)
theorem hb_goto (hc : CX p s m args meth c G A X) {off : Int} {tg : Nat} (hd : decode X.2.1 pc = .ok (.goto off, 3)) (ht : (pc : Int) + off = (tg : Int)) (kk : BW p l e R s m args below meth c G A cells slots Q X M tg lv st) : BW p l e R s m args below meth c G A cells slots Q X M pc lv st := by
  intro H locs ls hP hS hl
  exact lv_goto hc.1 hc.2.1 hd ht (kk H locs ls hP hS hl)
theorem hb_ifnull (hc : CX p s m args meth c G A X) {off : Int} {x : Nat} (hd : decode X.2.1 pc = .ok (.ifnull off, 3)) (hq : pc + 3 = q)  (kk : BW p l e R s m args below meth c G A cells slots Q X M q lv (st)) : BW p l e R s m args below meth c G A cells slots Q X M pc lv (.ref x :: st) := by
  subst hq
  intro H locs ls hP hS hl
  exact lv_ifnull hc.1 hc.2.1 hd (kk H locs ls hP hS hl)
theorem hb_ifnonnullN (hc : CX p s m args meth c G A X) {off : Int} (hd : decode X.2.1 pc = .ok (.ifnonnull off, 3)) (hq : pc + 3 = q)  (kk : BW p l e R s m args below meth c G A cells slots Q X M q lv (st)) : BW p l e R s m args below meth c G A cells slots Q X M pc lv (.null :: st) := by
  subst hq
  intro H locs ls hP hS hl
  exact lv_ifnonnullN hc.1 hc.2.1 hd (kk H locs ls hP hS hl)
theorem hb_ifnonnull (hc : CX p s m args meth c G A X) {x : Nat} {off : Int} {tg : Nat} (hd : decode X.2.1 pc = .ok (.ifnonnull off, 3)) (ht : (pc : Int) + off = (tg : Int)) (kk : BW p l e R s m args below meth c G A cells slots Q X M tg lv st) : BW p l e R s m args below meth c G A cells slots Q X M pc lv (.ref x :: st) := by
  intro H locs ls hP hS hl
  exact lv_ifnonnull hc.1 hc.2.1 hd ht (kk H locs ls hP hS hl)
theorem hb_ifnullN (hc : CX p s m args meth c G A X)  {off : Int} {tg : Nat} (hd : decode X.2.1 pc = .ok (.ifnull off, 3)) (ht : (pc : Int) + off = (tg : Int)) (kk : BW p l e R s m args below meth c G A cells slots Q X M tg lv st) : BW p l e R s m args below meth c G A cells slots Q X M pc lv (.null :: st) := by
  intro H locs ls hP hS hl
  exact lv_ifnullN hc.1 hc.2.1 hd ht (kk H locs ls hP hS hl)
theorem hb_tableIn (hc : CX p s m args meth c G A X) {x : Int32} {dflt lo hi : Int} {offs : Array Int} {len : Nat} {off : Int} {tg : Nat} (hd : decode X.2.1 pc = .ok (.tableswitch dflt lo hi offs, len)) (h1 : ¬ x.toInt < lo) (h2 : ¬ hi < x.toInt) (ho : offs[(x.toInt - lo).toNat]? = some off) (ht : (pc : Int) + off = (tg : Int)) (kk : BW p l e R s m args below meth c G A cells slots Q X M tg lv st) : BW p l e R s m args below meth c G A cells slots Q X M pc lv (.int x :: st) := by
  intro H locs ls hP hS hl
  exact lv_tableIn hc.1 hc.2.1 hd h1 h2 ho ht (kk H locs ls hP hS hl)
theorem hb_tableOut (hc : CX p s m args meth c G A X) {x : Int32} {dflt lo hi : Int} {offs : Array Int} {len : Nat} {tg : Nat} (hd : decode X.2.1 pc = .ok (.tableswitch dflt lo hi offs, len)) (h : x.toInt < lo ∨ hi < x.toInt) (ht : (pc : Int) + dflt = (tg : Int)) (kk : BW p l e R s m args below meth c G A cells slots Q X M tg lv st) : BW p l e R s m args below meth c G A cells slots Q X M pc lv (.int x :: st) := by
  intro H locs ls hP hS hl
  exact lv_tableOut hc.1 hc.2.1 hd h ht (kk H locs ls hP hS hl)
theorem hb_weak (hl' : lvLe lv' lv) (kk : BW p l e R s m args below meth c G A cells slots Q X M pc lv' st) : BW p l e R s m args below meth c G A cells slots Q X M pc lv st := fun H locs ls hP hS hl => kk H locs ls hP hS (hl.le hl')
def CK (ci : Nat) (C : String) (T : u_T) (N : Nat) (ty : Nat → FieldType) : Prop := classes[ci]? = some (C, T, N) ∧ (∀ w ∈ u_ws C T N, w ∈ GW) ∧ (∀ a, a < N → ∀ b, b < N → a ≠ b → (T a).2.1 ≠ (T b).2.1) ∧ (∀ k, k < N → parseFieldDescriptor (T k).2.2.1 = some (ty k))
def FL (own : String) (idx ci j : Nat) (ty : FieldType) (fin : Bool) : Prop := ∃ (C : String) (T : u_T) (N : Nat) (tt : Nat → FieldType), CK ci C T N tt ∧ j < N ∧ Cond.fieldLink own idx (T j).1 (T j).2.1 (T j).2.2.1 ∈ GW ∧ tt j = ty ∧ (T j).2.2.2 = fin
theorem wE_obj {G : Gm} {M : Mm} {a ci : Nat} {ks : List (Nat ⊕ Bool)} (h : shp a = .inr (ci, ks)) : wE G M a = .inr (ci, ks.mapIdx (sv G M a)) := by unfold wE; rw [h]
theorem wE_arr {G : Gm} {M : Mm} {a t n : Nat} {rs : List Nat} (h : shp a = .inl (t, n, rs)) : wE G M a = .inl (G.2.2 a, wA G M a t n rs) := by unfold wE; rw [h]
theorem hb_getI (hc : CX p s m args meth c G A X) {idx a j ci : Nat} {ks : List (Nat ⊕ Bool)} {v : Int32} {ty : FieldType} {fin : Bool} (hf : FL X.1.cls idx ci j ty fin) (hsh : shp a = .inr (ci, ks)) (ha : a < NSH) (hk : ks[j]? = some (.inr false)) (hv : M.1 a j = v) (hd : decode X.2.1 pc = .ok (.getfield idx, 3)) (hq : pc + 3 = q) (kk : BW p l e R s m args below meth c G A cells slots Q X M q lv (.int v :: st)) : BW p l e R s m args below meth c G A cells slots Q X M pc lv (.ref a :: st) := by
  subst hq
  subst hv
  intro H locs ls hP hS hl
  obtain ⟨C, T, N, tt, ⟨h1, h2, h3, h4⟩, h5, h6, -, -⟩ := hf
  exact va_get (C := C) (T := T) (N := N) (ci := ci) (ref := (T j).1) hc.1 hc.2.1 hc.2.2.2.2.2.1 h2 hc.2.2.2.2.1 hc.2.2.2.2.2.2.2.1.K hP a ((wW_get G M ha).trans (by rw [wE_obj hsh])) h1 j h5 (hc.2.2.2.2.2.1 _ h6) (fun _ h9 => h9) (by rw [List.getElem?_mapIdx, hk]; rfl) hd (kk H locs ls hP hS hl)
theorem hb_getL (hc : CX p s m args meth c G A X) {idx a j ci : Nat} {ks : List (Nat ⊕ Bool)} {v : Int64} {ty : FieldType} {fin : Bool} (hf : FL X.1.cls idx ci j ty fin) (hsh : shp a = .inr (ci, ks)) (ha : a < NSH) (hk : ks[j]? = some (.inr true)) (hv : M.2 a j = v) (hd : decode X.2.1 pc = .ok (.getfield idx, 3)) (hq : pc + 3 = q) (kk : BW p l e R s m args below meth c G A cells slots Q X M q lv (.long v :: st)) : BW p l e R s m args below meth c G A cells slots Q X M pc lv (.ref a :: st) := by
  subst hq
  subst hv
  intro H locs ls hP hS hl
  obtain ⟨C, T, N, tt, ⟨h1, h2, h3, h4⟩, h5, h6, -, -⟩ := hf
  exact va_get (C := C) (T := T) (N := N) (ci := ci) (ref := (T j).1) hc.1 hc.2.1 hc.2.2.2.2.2.1 h2 hc.2.2.2.2.1 hc.2.2.2.2.2.2.2.1.K hP a ((wW_get G M ha).trans (by rw [wE_obj hsh])) h1 j h5 (hc.2.2.2.2.2.1 _ h6) (fun _ h9 => h9) (by rw [List.getElem?_mapIdx, hk]; rfl) hd (kk H locs ls hP hS hl)
theorem hb_getR (hc : CX p s m args meth c G A X) {idx a j ci : Nat} {ks : List (Nat ⊕ Bool)} {r : Nat} {ty : FieldType} {fin : Bool} (hf : FL X.1.cls idx ci j ty fin) (hsh : shp a = .inr (ci, ks)) (ha : a < NSH) (hk : ks[j]? = some (.inl r))  (hd : decode X.2.1 pc = .ok (.getfield idx, 3)) (hq : pc + 3 = q) (kk : BW p l e R s m args below meth c G A cells slots Q X M q lv (.ref r :: st)) : BW p l e R s m args below meth c G A cells slots Q X M pc lv (.ref a :: st) := by
  subst hq
  intro H locs ls hP hS hl
  obtain ⟨C, T, N, tt, ⟨h1, h2, h3, h4⟩, h5, h6, -, -⟩ := hf
  exact va_get (C := C) (T := T) (N := N) (ci := ci) (ref := (T j).1) hc.1 hc.2.1 hc.2.2.2.2.2.1 h2 hc.2.2.2.2.1 hc.2.2.2.2.2.2.2.1.K hP a ((wW_get G M ha).trans (by rw [wE_obj hsh])) h1 j h5 (hc.2.2.2.2.2.1 _ h6) (fun _ h9 => h9) (by rw [List.getElem?_mapIdx, hk]; rfl) hd (kk H locs ls hP hS hl)
theorem setI {G : Gm} {M : Mm} {a j : Nat} {ks : List (Nat ⊕ Bool)} {x : Int32} (hk : ks[j]? = some (.inr false)) : (ks.mapIdx (sv G M a)).set j (.int x) = ks.mapIdx (sv G (wI M a j x) a) := by
  apply List.ext_getElem?
  intro k
  have hl := (List.getElem?_eq_some_iff.mp hk).1
  by_cases h : k = j
  · subst h
    rw [List.getElem?_set_self (by simpa using hl), List.getElem?_mapIdx, hk]
    show _ = some (Value.int _)
    simp [wI]
  · rw [List.getElem?_set_ne (Ne.symm h), List.getElem?_mapIdx, List.getElem?_mapIdx]
    cases ks[k]? with
    | none => rfl
    | some z =>
      show some _ = some _
      congr 1
      rcases z with z | z
      · rfl
      · cases z
        · show Value.int _ = Value.int _
          simp [wI, h]
        · rfl
theorem setL {G : Gm} {M : Mm} {a j : Nat} {ks : List (Nat ⊕ Bool)} {x : Int64} (hk : ks[j]? = some (.inr true)) : (ks.mapIdx (sv G M a)).set j (.long x) = ks.mapIdx (sv G (wL M a j x) a) := by
  apply List.ext_getElem?
  intro k
  have hl := (List.getElem?_eq_some_iff.mp hk).1
  by_cases h : k = j
  · subst h
    rw [List.getElem?_set_self (by simpa using hl), List.getElem?_mapIdx, hk]
    show _ = some (Value.long _)
    simp [wL]
  · rw [List.getElem?_set_ne (Ne.symm h), List.getElem?_mapIdx, List.getElem?_mapIdx]
    cases ks[k]? with
    | none => rfl
    | some z =>
      show some _ = some _
      congr 1
      rcases z with z | z
      · rfl
      · cases z
        · rfl
        · show Value.long _ = Value.long _
          simp [wL, h]
theorem wI_off {G : Gm} {M : Mm} {a j i : Nat} {x : Int32} (h : i ≠ a) : wE G (wI M a j x) i = wE G M i := wE_off (wI_ne h) rfl
theorem wL_off {G : Gm} {M : Mm} {a j i : Nat} {x : Int64} (h : i ≠ a) : wE G (wL M a j x) i = wE G M i := wE_off rfl (wL_ne h)
theorem narZ {x : Int32} (h : x = 0 ∨ x = 1) : narrow .boolean (.int x) = .int x := by rcases h with rfl | rfl <;> decide
theorem hb_putI (hc : CX p s m args meth c G A X) {idx a j ci : Nat} {ks : List (Nat ⊕ Bool)} {x : Int32} (hf : FL X.1.cls idx ci j .int false) (hsh : shp a = .inr (ci, ks)) (ha : a < NSH) (hk : ks[j]? = some (.inr false))  (hd : decode X.2.1 pc = .ok (.putfield idx, 3)) (hq : pc + 3 = q) (kk : BW p l e R s m args below meth c G A cells slots Q X (wI M a j x) q lv st) : BW p l e R s m args below meth c G A cells slots Q X M pc lv (.int x :: .ref a :: st) := by
  subst hq
  intro H locs ls hP hS hl
  obtain ⟨C, T, N, tt, ⟨h1, h2, h3, h4⟩, h5, h6, h7, h8⟩ := hf
  have hl0 := (List.getElem?_eq_some_iff.mp hk).1
  refine va_put (C := C) (T := T) (N := N) (ci := ci) (ref := (T j).1) (ty := .int) (v := .int x) (fs := ks.mapIdx (sv G M a)) hc.1 hc.2.1 hc.2.2.2.2.2.1 h2 tt h4 h3 hc.2.2.2.2.1 hc.2.2.2.2.2.2.2.1.K hP (wW_D hc.2.2.2.2.2.2.2.2.1 hc.2.2.2.2.2.2.2.2.2) hS a ((wW_get G M ha).trans (by rw [wE_obj hsh])) h1 j h5 (hc.2.2.2.2.2.1 _ h6) (fun _ h9 => h9) h8 ((h4 j h5).trans (by rw [h7])) rfl rfl (by simpa using hl0) hd (fun H1 locs1 hP1 _ hS1 => kk H1 locs1 ls ?_ hS1 hl)
  rw [wW_set (M' := wI M a j x) ha (by rw [wE_obj hsh, setI hk]) (fun i hi => wI_off hi)] at hP1
  exact hP1
theorem hb_putZ (hc : CX p s m args meth c G A X) {idx a j ci : Nat} {ks : List (Nat ⊕ Bool)} {x : Int32} (hf : FL X.1.cls idx ci j .boolean false) (hsh : shp a = .inr (ci, ks)) (ha : a < NSH) (hk : ks[j]? = some (.inr false)) (hz : x = 0 ∨ x = 1) (hd : decode X.2.1 pc = .ok (.putfield idx, 3)) (hq : pc + 3 = q) (kk : BW p l e R s m args below meth c G A cells slots Q X (wI M a j x) q lv st) : BW p l e R s m args below meth c G A cells slots Q X M pc lv (.int x :: .ref a :: st) := by
  subst hq
  intro H locs ls hP hS hl
  obtain ⟨C, T, N, tt, ⟨h1, h2, h3, h4⟩, h5, h6, h7, h8⟩ := hf
  have hl0 := (List.getElem?_eq_some_iff.mp hk).1
  refine va_put (C := C) (T := T) (N := N) (ci := ci) (ref := (T j).1) (ty := .boolean) (v := .int x) (fs := ks.mapIdx (sv G M a)) hc.1 hc.2.1 hc.2.2.2.2.2.1 h2 tt h4 h3 hc.2.2.2.2.1 hc.2.2.2.2.2.2.2.1.K hP (wW_D hc.2.2.2.2.2.2.2.2.1 hc.2.2.2.2.2.2.2.2.2) hS a ((wW_get G M ha).trans (by rw [wE_obj hsh])) h1 j h5 (hc.2.2.2.2.2.1 _ h6) (fun _ h9 => h9) h8 ((h4 j h5).trans (by rw [h7])) (narZ hz) (by rcases hz with rfl | rfl <;> rfl) (by simpa using hl0) hd (fun H1 locs1 hP1 _ hS1 => kk H1 locs1 ls ?_ hS1 hl)
  rw [wW_set (M' := wI M a j x) ha (by rw [wE_obj hsh, setI hk]) (fun i hi => wI_off hi)] at hP1
  exact hP1
theorem hb_putL (hc : CX p s m args meth c G A X) {idx a j ci : Nat} {ks : List (Nat ⊕ Bool)} {x : Int64} (hf : FL X.1.cls idx ci j .long false) (hsh : shp a = .inr (ci, ks)) (ha : a < NSH) (hk : ks[j]? = some (.inr true))  (hd : decode X.2.1 pc = .ok (.putfield idx, 3)) (hq : pc + 3 = q) (kk : BW p l e R s m args below meth c G A cells slots Q X (wL M a j x) q lv st) : BW p l e R s m args below meth c G A cells slots Q X M pc lv (.long x :: .ref a :: st) := by
  subst hq
  intro H locs ls hP hS hl
  obtain ⟨C, T, N, tt, ⟨h1, h2, h3, h4⟩, h5, h6, h7, h8⟩ := hf
  have hl0 := (List.getElem?_eq_some_iff.mp hk).1
  refine va_put (C := C) (T := T) (N := N) (ci := ci) (ref := (T j).1) (ty := .long) (v := .long x) (fs := ks.mapIdx (sv G M a)) hc.1 hc.2.1 hc.2.2.2.2.2.1 h2 tt h4 h3 hc.2.2.2.2.1 hc.2.2.2.2.2.2.2.1.K hP (wW_D hc.2.2.2.2.2.2.2.2.1 hc.2.2.2.2.2.2.2.2.2) hS a ((wW_get G M ha).trans (by rw [wE_obj hsh])) h1 j h5 (hc.2.2.2.2.2.1 _ h6) (fun _ h9 => h9) h8 ((h4 j h5).trans (by rw [h7])) rfl rfl (by simpa using hl0) hd (fun H1 locs1 hP1 _ hS1 => kk H1 locs1 ls ?_ hS1 hl)
  rw [wW_set (M' := wL M a j x) ha (by rw [wE_obj hsh, setL hk]) (fun i hi => wL_off hi)] at hP1
  exact hP1
theorem hb_iald (hc : CX p s m args meth c G A X) {a n : Nat} {rs : List Nat} {i : Int32} {k : Nat} {v : Int32} (hsh : shp a = .inl (0, n, rs)) (ha : a < NSH) (hin : vp_in i n) (he : i.toNatClampNeg = k) (hv : M.1 a k = v) (hd : decode X.2.1 pc = .ok (.iaload, 1)) (hq : pc + 1 = q) (kk : BW p l e R s m args below meth c G A cells slots Q X M q lv (.int v :: st)) : BW p l e R s m args below meth c G A cells slots Q X M pc lv (.int i :: .ref a :: st) := by
  subst hq
  subst he
  subst hv
  intro H locs ls hP hS hl
  exact va_iald hc.1 hc.2.1 (hc.2.2.2.2.2.2.2.1.KA hsh ha) hP a 0 ((wW_get G M ha).trans (by rw [wE_arr hsh]; rfl)) rfl hin hd (kk H locs ls hP hS hl)
theorem hb_zald (hc : CX p s m args meth c G A X) {a n : Nat} {rs : List Nat} {i : Int32} {k : Nat} {v : Int32} (hsh : shp a = .inl (2, n, rs)) (ha : a < NSH) (hin : vp_in i n) (he : i.toNatClampNeg = k) (hv : M.1 a k = v) (hd : decode X.2.1 pc = .ok (.baload, 1)) (hq : pc + 1 = q) (kk : BW p l e R s m args below meth c G A cells slots Q X M q lv (.int v :: st)) : BW p l e R s m args below meth c G A cells slots Q X M pc lv (.int i :: .ref a :: st) := by
  subst hq
  subst he
  subst hv
  intro H locs ls hP hS hl
  exact va_zald hc.1 hc.2.1 (hc.2.2.2.2.2.2.2.1.KA hsh ha) hP a 0 ((wW_get G M ha).trans (by rw [wE_arr hsh]; rfl)) rfl hin hd (kk H locs ls hP hS hl)
theorem hb_lald (hc : CX p s m args meth c G A X) {a n : Nat} {rs : List Nat} {i : Int32} {k : Nat} {v : Int64} (hsh : shp a = .inl (1, n, rs)) (ha : a < NSH) (hin : vp_in i n) (he : i.toNatClampNeg = k) (hv : M.2 a k = v) (hd : decode X.2.1 pc = .ok (.laload, 1)) (hq : pc + 1 = q) (kk : BW p l e R s m args below meth c G A cells slots Q X M q lv (.long v :: st)) : BW p l e R s m args below meth c G A cells slots Q X M pc lv (.int i :: .ref a :: st) := by
  subst hq
  subst he
  subst hv
  intro H locs ls hP hS hl
  exact va_lald hc.1 hc.2.1 (hc.2.2.2.2.2.2.2.1.KA hsh ha) hP a 0 ((wW_get G M ha).trans (by rw [wE_arr hsh]; rfl)) rfl hin hd (kk H locs ls hP hS hl)
theorem hb_aald (hc : CX p s m args meth c G A X) {a n r : Nat} {rs : List Nat} {i : Int32} (hsh : shp a = .inl (3, n, rs)) (ha : a < NSH) (hin : vp_in i n) (hr : rs[i.toNatClampNeg]? = some r) (hd : decode X.2.1 pc = .ok (.aaload, 1)) (hq : pc + 1 = q) (kk : BW p l e R s m args below meth c G A cells slots Q X M q lv (.ref r :: st)) : BW p l e R s m args below meth c G A cells slots Q X M pc lv (.int i :: .ref a :: st) := by
  subst hq
  intro H locs ls hP hS hl
  refine va_aldq hc.1 hc.2.1 (hc.2.2.2.2.2.2.2.1.KA hsh ha) hP a 0 ((wW_get G M ha).trans (by rw [wE_arr hsh]; rfl)) rfl hin hd ?_
  rw [hr]
  exact kk H locs ls hP hS hl
theorem hb_alen (hc : CX p s m args meth c G A X) {a t n : Nat} {rs : List Nat} {v : Int32} (hsh : shp a = .inl (t, n, rs)) (ha : a < NSH) (hv : Int32.ofNat n = v) (hd : decode X.2.1 pc = .ok (.arraylength, 1)) (hq : pc + 1 = q) (kk : BW p l e R s m args below meth c G A cells slots Q X M q lv (.int v :: st)) : BW p l e R s m args below meth c G A cells slots Q X M pc lv (.ref a :: st) := by
  subst hq
  intro H locs ls hP hS hl
  refine va_alen hc.1 hc.2.1 (hc.2.2.2.2.2.2.2.1.KA hsh ha) hP a 0 ((wW_get G M ha).trans (by rw [wE_arr hsh])) rfl (v := v) ?_ hd (kk H locs ls hP hS hl)
  rw [← hv]
  unfold wA
  split <;> rfl
theorem hb_iast (hc : CX p s m args meth c G A X) {a n : Nat} {rs : List Nat} {i : Int32} {x : Int32} {k : Nat} (hsh : shp a = .inl (0, n, rs)) (ha : a < NSH) (hin : vp_in i n)  (he : i.toNatClampNeg = k) (hd : decode X.2.1 pc = .ok (.iastore, 1)) (hq : pc + 1 = q) (kk : BW p l e R s m args below meth c G A cells slots Q X (wI M a k x) q lv st) : BW p l e R s m args below meth c G A cells slots Q X M pc lv (.int x :: .int i :: .ref a :: st) := by
  subst hq
  subst he
  intro H locs ls hP hS hl
  refine va_iast hc.1 hc.2.1 (hc.2.2.2.2.2.2.2.1.KA hsh ha) hP (wW_D hc.2.2.2.2.2.2.2.2.1 hc.2.2.2.2.2.2.2.2.2) hS a 0 ((wW_get G M ha).trans (by rw [wE_arr hsh]; rfl)) rfl hin hd (fun H1 locs1 hP1 _ hS1 => kk H1 locs1 ls ?_ hS1 hl)
  rw [wW_set (M' := wI M a i.toNatClampNeg x) ha (by rw [wE_arr hsh]; show _ = Sum.inl (_, n, Sum.inl ((wI M a i.toNatClampNeg x).1 a)); rw [wI_eq]) (fun i hi => wI_off hi)] at hP1
  exact hP1
theorem hb_last (hc : CX p s m args meth c G A X) {a n : Nat} {rs : List Nat} {i : Int32} {x : Int64} {k : Nat} (hsh : shp a = .inl (1, n, rs)) (ha : a < NSH) (hin : vp_in i n)  (he : i.toNatClampNeg = k) (hd : decode X.2.1 pc = .ok (.lastore, 1)) (hq : pc + 1 = q) (kk : BW p l e R s m args below meth c G A cells slots Q X (wL M a k x) q lv st) : BW p l e R s m args below meth c G A cells slots Q X M pc lv (.long x :: .int i :: .ref a :: st) := by
  subst hq
  subst he
  intro H locs ls hP hS hl
  refine va_last hc.1 hc.2.1 (hc.2.2.2.2.2.2.2.1.KA hsh ha) hP (wW_D hc.2.2.2.2.2.2.2.2.1 hc.2.2.2.2.2.2.2.2.2) hS a 0 ((wW_get G M ha).trans (by rw [wE_arr hsh]; rfl)) rfl hin hd (fun H1 locs1 hP1 _ hS1 => kk H1 locs1 ls ?_ hS1 hl)
  rw [wW_set (M' := wL M a i.toNatClampNeg x) ha (by rw [wE_arr hsh]; show _ = Sum.inl (_, n, Sum.inr (Sum.inl ((wL M a i.toNatClampNeg x).2 a))); rw [wL_eq]) (fun i hi => wL_off hi)] at hP1
  exact hP1
theorem hb_zast (hc : CX p s m args meth c G A X) {a n : Nat} {rs : List Nat} {i : Int32} {x : Int32} {k : Nat} (hsh : shp a = .inl (2, n, rs)) (ha : a < NSH) (hin : vp_in i n) (hz : x = 0 ∨ x = 1) (he : i.toNatClampNeg = k) (hd : decode X.2.1 pc = .ok (.bastore, 1)) (hq : pc + 1 = q) (kk : BW p l e R s m args below meth c G A cells slots Q X (wI M a k x) q lv st) : BW p l e R s m args below meth c G A cells slots Q X M pc lv (.int x :: .int i :: .ref a :: st) := by
  subst hq
  subst he
  intro H locs ls hP hS hl
  refine va_zast hc.1 hc.2.1 (hc.2.2.2.2.2.2.2.1.KA hsh ha) hP (wW_D hc.2.2.2.2.2.2.2.2.1 hc.2.2.2.2.2.2.2.2.2) hS a 0 ((wW_get G M ha).trans (by rw [wE_arr hsh]; rfl)) rfl hin hd (fun H1 locs1 hP1 _ hS1 => kk H1 locs1 ls ?_ hS1 hl)
  have hz2 : vp_nar .boolean x = x := by rcases hz with rfl | rfl <;> decide
  rw [hz2] at hP1
  rw [wW_set (M' := wI M a i.toNatClampNeg x) ha (by rw [wE_arr hsh]; show _ = Sum.inl (_, n, Sum.inl ((wI M a i.toNatClampNeg x).1 a)); rw [wI_eq]) (fun i hi => wI_off hi)] at hP1
  exact hP1
theorem cpI_off {G : Gm} {M : Mm} {sa sp da dp n i : Nat} (h : i ≠ da) : wE G (cpI M sa sp da dp n) i = wE G M i := wE_off (by funext k; simp [cpI, h]) rfl
theorem cpL_off {G : Gm} {M : Mm} {sa sp da dp n i : Nat} (h : i ≠ da) : wE G (cpL M sa sp da dp n) i = wE G M i := wE_off rfl (by funext k; simp [cpL, h])
theorem cpI_eq {M : Mm} {sa sp da dp n : Nat} : (cpI M sa sp da dp n).1 da = va_cpy (M.1 sa) (M.1 da) sp dp n := by funext k; simp [cpI]
theorem cpL_eq {M : Mm} {sa sp da dp n : Nat} : (cpL M sa sp da dp n).2 da = va_cpy (M.2 sa) (M.2 da) sp dp n := by funext k; simp [cpL]
def AY (own : String) (idx : Nat) : Prop := Cond.methodLink own idx arraycopyName ∈ GW ∧ Cond.native arraycopyName ∈ GW ∧ Cond.static arraycopyName ∈ GW ∧ Cond.initialized "java/lang/System" ∈ GW
theorem hb_copyI (hc : CX p s m args meth c G A X) {idx a0 n0 a1 n1 : Nat} {r0 r1 : List Nat} {sp dp n : Int32} {k1 k2 k3 : Nat} (hy : AY X.1.cls idx) (hs0 : shp a0 = .inl (0, n0, r0)) (ha0 : a0 < NSH) (hs1 : shp a1 = .inl (0, n1, r1)) (ha1 : a1 < NSH) (h1 : ¬ sp < 0) (h2 : ¬ dp < 0) (h3 : ¬ n < 0) (e1 : sp.toNatClampNeg = k1) (e2 : dp.toNatClampNeg = k2) (e3 : n.toNatClampNeg = k3) (h4 : k1 + k3 ≤ n0) (h5 : k2 + k3 ≤ n1) (hfr : 1 ≤ R.frames) (hlo : (st.map fun v => v.category).sum + 40 ≤ R.locals) (hd : decode X.2.1 pc = .ok (.invokestatic idx, 3)) (hq : pc + 3 = q) (kk : BW p l e R s m args below meth c G A cells slots Q X (cpI M a0 k1 a1 k2 k3) q lv st) : BW p l e R s m args below meth c G A cells slots Q X M pc lv (.int n :: .int dp :: .ref a1 :: .int sp :: .ref a0 :: st) := by
  subst hq
  subst e1
  subst e2
  subst e3
  intro H locs ls hP hS hl
  refine va_copyi hc.1 hc.2.1 (hc.2.2.2.1.trans hl.1.symm) hc.2.2.2.2.1 (hc.2.2.2.2.2.1 _ hy.1) (hc.2.2.2.2.2.1 _ hy.2.1) (hc.2.2.2.2.2.1 _ hy.2.2.1) (hc.2.2.2.2.2.1 _ hy.2.2.2) (hc.2.2.2.2.2.2.2.1.KA2 hs0 ha0 hs1 ha1) hP (wW_D hc.2.2.2.2.2.2.2.2.1 hc.2.2.2.2.2.2.2.2.2) hS a0 a1 0 1 ((wW_get G M ha0).trans (by rw [wE_arr hs0]; rfl)) ((wW_get G M ha1).trans (by rw [wE_arr hs1]; rfl)) rfl rfl rfl h1 h2 h3 h4 h5 (fun _ _ => rfl) hfr ?_ hd (fun H1 locs1 hP1 _ hS1 => kk H1 locs1 ls ?_ hS1 hl)
  · refine Nat.le_trans ?_ hlo
    rw [List.map_map]
    have e : ((fun v : Value => v.category) ∘ cvv G.2.1) = fun v => v.category := by funext v; exact cvv_cat _ v
    rw [e]
    exact Nat.add_le_add_left (by decide) _
  · rw [wW_set (M' := cpI M a0 sp.toNatClampNeg a1 dp.toNatClampNeg n.toNatClampNeg) ha1 (by rw [wE_arr hs1]; show _ = Sum.inl (_, n1, Sum.inl ((cpI M a0 sp.toNatClampNeg a1 dp.toNatClampNeg n.toNatClampNeg).1 a1)); rw [cpI_eq]) (fun i hi => cpI_off hi)] at hP1
    exact hP1
theorem hb_copyL (hc : CX p s m args meth c G A X) {idx a0 n0 a1 n1 : Nat} {r0 r1 : List Nat} {sp dp n : Int32} {k1 k2 k3 : Nat} (hy : AY X.1.cls idx) (hs0 : shp a0 = .inl (1, n0, r0)) (ha0 : a0 < NSH) (hs1 : shp a1 = .inl (1, n1, r1)) (ha1 : a1 < NSH) (h1 : ¬ sp < 0) (h2 : ¬ dp < 0) (h3 : ¬ n < 0) (e1 : sp.toNatClampNeg = k1) (e2 : dp.toNatClampNeg = k2) (e3 : n.toNatClampNeg = k3) (h4 : k1 + k3 ≤ n0) (h5 : k2 + k3 ≤ n1) (hfr : 1 ≤ R.frames) (hlo : (st.map fun v => v.category).sum + 40 ≤ R.locals) (hd : decode X.2.1 pc = .ok (.invokestatic idx, 3)) (hq : pc + 3 = q) (kk : BW p l e R s m args below meth c G A cells slots Q X (cpL M a0 k1 a1 k2 k3) q lv st) : BW p l e R s m args below meth c G A cells slots Q X M pc lv (.int n :: .int dp :: .ref a1 :: .int sp :: .ref a0 :: st) := by
  subst hq
  subst e1
  subst e2
  subst e3
  intro H locs ls hP hS hl
  refine va_copyl hc.1 hc.2.1 (hc.2.2.2.1.trans hl.1.symm) hc.2.2.2.2.1 (hc.2.2.2.2.2.1 _ hy.1) (hc.2.2.2.2.2.1 _ hy.2.1) (hc.2.2.2.2.2.1 _ hy.2.2.1) (hc.2.2.2.2.2.1 _ hy.2.2.2) (hc.2.2.2.2.2.2.2.1.KA2 hs0 ha0 hs1 ha1) hP (wW_D hc.2.2.2.2.2.2.2.2.1 hc.2.2.2.2.2.2.2.2.2) hS a0 a1 0 1 ((wW_get G M ha0).trans (by rw [wE_arr hs0]; rfl)) ((wW_get G M ha1).trans (by rw [wE_arr hs1]; rfl)) rfl rfl rfl h1 h2 h3 h4 h5 (fun _ _ => rfl) hfr ?_ hd (fun H1 locs1 hP1 _ hS1 => kk H1 locs1 ls ?_ hS1 hl)
  · refine Nat.le_trans ?_ hlo
    rw [List.map_map]
    have e : ((fun v : Value => v.category) ∘ cvv G.2.1) = fun v => v.category := by funext v; exact cvv_cat _ v
    rw [e]
    exact Nat.add_le_add_left (by decide) _
  · rw [wW_set (M' := cpL M a0 sp.toNatClampNeg a1 dp.toNatClampNeg n.toNatClampNeg) ha1 (by rw [wE_arr hs1]; show _ = Sum.inl (_, n1, Sum.inr (Sum.inl ((cpL M a0 sp.toNatClampNeg a1 dp.toNatClampNeg n.toNatClampNeg).2 a1))); rw [cpL_eq]) (fun i hi => cpL_off hi)] at hP1
    exact hP1
def MA (own : String) (idx : Nat) (nm : MethodName) (cd : ByteArray) (k : Nat) : Prop := Cond.methodLink own idx nm ∈ GW ∧ Cond.static nm ∈ GW ∧ Cond.initialized "java/lang/Math" ∈ GW ∧ Cond.code nm cd k (some .int) ∈ GW
theorem cats (ro : Nat → Nat) (st : List Value) : ((st.map (cvv ro)).map fun v => v.category).sum = (st.map fun v => v.category).sum := by
  rw [List.map_map]
  have e : ((fun v : Value => v.category) ∘ cvv ro) = fun v => v.category := by funext v; exact cvv_cat _ v
  rw [e]
theorem hb_mabs (hc : CX p s m args meth c G A X) {idx : Nat} {x : Int32} (hy : MA X.1.cls idx Lib.Math.abs.name Lib.Math.abs.code 1) (hfr : 1 ≤ R.frames) (hlo : (st.map fun v => v.category).sum + 13 ≤ R.locals) (hcs : cells ≤ R.cells ∧ slots ≤ R.slots) (hd : decode X.2.1 pc = .ok (.invokestatic idx, 3)) (hq : pc + 3 = q) (kk : BW p l e R s m args below meth c G A cells slots Q X M q lv (.int (if 0 ≤ x then x else 0 - x) :: st)) : BW p l e R s m args below meth c G A cells slots Q X M pc lv (.int x :: st) := by
  subst hq
  intro H locs ls hP hS hl
  exact va_mabs hc.1 hc.2.1 (hc.2.2.2.1.trans hl.1.symm) hc.2.2.2.2.1 (hc.2.2.2.2.2.1 _ hy.1) (hc.2.2.2.2.2.1 _ hy.2.1) (hc.2.2.2.2.2.1 _ hy.2.2.1) (hc.2.2.2.2.2.1 _ hy.2.2.2) hfr (by rw [cats]; exact hlo) hcs.1 hcs.2 hd (kk H locs ls hP hS hl)
theorem hb_mmax (hc : CX p s m args meth c G A X) {idx : Nat} {x y : Int32} (hy : MA X.1.cls idx Lib.Math.max.name Lib.Math.max.code 2) (hfr : 1 ≤ R.frames) (hlo : (st.map fun v => v.category).sum + 13 ≤ R.locals) (hcs : cells ≤ R.cells ∧ slots ≤ R.slots) (hd : decode X.2.1 pc = .ok (.invokestatic idx, 3)) (hq : pc + 3 = q) (kk : BW p l e R s m args below meth c G A cells slots Q X M q lv (.int (if x < y then y else x) :: st)) : BW p l e R s m args below meth c G A cells slots Q X M pc lv (.int y :: .int x :: st) := by
  subst hq
  intro H locs ls hP hS hl
  exact va_mmax hc.1 hc.2.1 (hc.2.2.2.1.trans hl.1.symm) hc.2.2.2.2.1 (hc.2.2.2.2.2.1 _ hy.1) (hc.2.2.2.2.2.1 _ hy.2.1) (hc.2.2.2.2.2.1 _ hy.2.2.1) (hc.2.2.2.2.2.1 _ hy.2.2.2) hfr (by rw [cats]; exact hlo) hcs.1 hcs.2 hd (kk H locs ls hP hS hl)
theorem hb_mmin (hc : CX p s m args meth c G A X) {idx : Nat} {x y : Int32} (hy : MA X.1.cls idx Lib.Math.min.name Lib.Math.min.code 2) (hfr : 1 ≤ R.frames) (hlo : (st.map fun v => v.category).sum + 13 ≤ R.locals) (hcs : cells ≤ R.cells ∧ slots ≤ R.slots) (hd : decode X.2.1 pc = .ok (.invokestatic idx, 3)) (hq : pc + 3 = q) (kk : BW p l e R s m args below meth c G A cells slots Q X M q lv (.int (if y < x then y else x) :: st)) : BW p l e R s m args below meth c G A cells slots Q X M pc lv (.int y :: .int x :: st) := by
  subst hq
  intro H locs ls hP hS hl
  exact va_mmin hc.1 hc.2.1 (hc.2.2.2.1.trans hl.1.symm) hc.2.2.2.2.1 (hc.2.2.2.2.2.1 _ hy.1) (hc.2.2.2.2.2.1 _ hy.2.1) (hc.2.2.2.2.2.1 _ hy.2.2.1) (hc.2.2.2.2.2.1 _ hy.2.2.2) hfr (by rw [cats]; exact hlo) hcs.1 hcs.2 hd (kk H locs ls hP hS hl)
theorem lvn {a b : List (Option Value)} {x : Option Value} (h : lvLe a b) : lvLe (none :: a) (x :: b) := h
theorem lvs {a b : List (Option Value)} {v : Value} (h : lvLe a b) : lvLe (some v :: a) (some v :: b) := ⟨rfl, h⟩
theorem lvz {b : List (Option Value)} : lvLe [] b := trivial
theorem lve {a : List (Option Value)} (h : lvLe a []) : lvLe (none :: a) [] := h
end HB
