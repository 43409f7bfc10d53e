/-! THE CLAIM OUT OF ONE WALK OF THE LAW'S BODY. Your part is whole_start (and what it stands on); all else here is the same for every law, but numbers. -/
def R_law : String := "HarbourLightsLaw"
def lw_P (b : Addr) (xs : List Int32) (args : Array Value) (s : State) : Prop := args = #[.ref b] ∧ s.IntsAt b xs ∧ xs.length ≤ 2048 ∧ (Jvm.Cond.and given_1 narrow_1).before args s = true
def lw_Q (_ : Array Value) (s : State) (o : Outcome) (t : State) : Prop := o = .returned (some (.int 1)) ∧ Framed s o t [] 600000 7302250
def lw_Z (below : List Frame) (a : Array Value) (s : State) : State → Prop := fun t => ∃ o, t.status = .running ∧ Ended t below o ∧ lw_Q a s o t
/-- the law's own end, with 1 on the stack, nothing written that was there before, its room as the claim has it -/
theorem lw_ret {p : Program} {l : Launch} {e : Env} {s : State} {m : MethodId} {below : List Frame} {meth : Method} {c : Code} {b : Nat} (hx : p.tables.exec = Jvm.exec) (hb : c.code = code) (hr : meth.sig.returnType = ret) (hlocks : meth.locks = false) {pc : Nat} {H : Heap} {ls : Array Slot} (hdg : decode code pc = .ok (.ireturn, 1)) : W p l e room_1 s m #[Value.ref b] below meth c H [] 600000 7302250 (lw_Z below #[Value.ref b] s) (F0 m pc ls [.int 1]) := by
  intro T hT X
  obtain ⟨fs, hret, hrun, hended, hW, hframe⟩ := X.leave (v := some (.int 1)) (hlocks := hlocks) (fun h => by rw [hr] at h; cases h)
  have hmeth' : T.vm.method? m = some meth := X.method'
  refine ⟨T.setFrames fs, ?_, .returned (some (.int 1)), hrun, hended, rfl, ⟨_, rfl⟩, hW, hframe⟩
  jvm_step X.here [X.here.top, hx, hb, hdg, hmeth', hr, ret, narrow_b1]
  (try refine ⟨rfl, ?_⟩); (try refine ⟨rfl, ?_⟩)
  first | (intro acts; rw [hret _ acts rfl rfl rfl]) | rw [hret _ _ rfl rfl rfl]
  exact Steps.refl _
/-- what holds at the law's entry: the machine, the code, the tables' words (any of lw_tbl by 'hts w (by decide +kernel)'), the script of L ints xs at the cell b, what the Statement gives of the start (any of its parts by flat_of_before) -/
def lw_At (p : Program) (s : State) (m : MethodId) (meth : Method) (c : Code) (b L : Nat) (xs : Nat → Int32) : Prop :=
  p.tables.exec = Jvm.exec ∧ c.code = code ∧ meth.sig.returnType = ret ∧ c.maxLocals = 4 ∧ s.vm.findClass R_law = some m.cls ∧ (∀ w ∈ lw_tbl, w.before #[Value.ref b] s = true) ∧ va_X b L xs s s.heap ∧ b < s.heap.size ∧ meth.locks = false ∧ (Jvm.Cond.and given_1 narrow_1).before #[Value.ref b] s = true
/-! THE LAW'S OWN RULES. -/
section LA
variable {p : Program} {l : Launch} {e : Env} {R : Room} {s : State} {m : MethodId} {args : Array Value} {below : List Frame} {meth : Method} {c : Code} {D : va_G} {G : Gm} {A : Nat → Prop} {cells slots : Nat} {Q : State → Prop} {X : Md} {M : Mm} {wr wx : va_W} {tys : Ty} {pc q : Nat} {lv lv' : List (Option Value)} {st : List Value}
theorem hb_sld (hc : CX p s m args meth c G A X) {b L k : Nat} {xs : Nat → Int32} {ix : Int32} (hX : va_X b L xs s s.heap) (hbl : b < s.heap.size) (hbA : ¬ A b) (hro : G.2.1 4000 = b) (he : ix = nI k) (hk : k < L) (hL : L ≤ 2048) (hd : decode X.2.1 pc = .ok (.iaload, 1)) (hq : pc + 1 = q) (kk : BW p l e R s m args below meth c G A cells slots Q X M q lv (.int (xs k) :: st)) : BW p l e R s m args below meth c G A cells slots Q X M pc lv (.int ix :: .ref 4000 :: st) := by
  subst hq
  subst he
  subst hro
  intro H locs ls hP hS hl
  have h2 : (nI k).toNatClampNeg = k := nI_clamp (by omega)
  exact va_sld hc.1 hc.2.1 hX hbl hbA hS (vp_in_nI hk (by omega)) hd (by rw [h2]; exact kk H locs ls hP hS hl)
theorem hb_slen (hc : CX p s m args meth c G A X) {b L : Nat} {xs : Nat → Int32} (hX : va_X b L xs s s.heap) (hbl : b < s.heap.size) (hbA : ¬ A b) (hro : G.2.1 4000 = b) (hd : decode X.2.1 pc = .ok (.arraylength, 1)) (hq : pc + 1 = q) (kk : BW p l e R s m args below meth c G A cells slots Q X M q lv (.int (nI L) :: st)) : BW p l e R s m args below meth c G A cells slots Q X M pc lv (.ref 4000 :: st) := by
  subst hq
  subst hro
  intro H locs ls hP hS hl
  exact va_slen hc.1 hc.2.1 hX hbl hbA hS hd (kk H locs ls hP hS hl)
theorem cb_astore_n (hc : CY p s m args meth c A X) {k : Fin 4} {x : Nat} (hd : decode X.2.1 pc = .ok (.astore_n k, 1)) (hq : pc + 1 = q) (hn : (k : Nat) < X.2.2.1) (hv : stI lv (k : Nat) (.ref x) = lv') (kk : CB p l e R s m args below meth c D A cells slots Q X wr wx tys q lv' st) : CB p l e R s m args below meth c D A cells slots Q X wr wx tys pc lv (.ref x :: st) := by
  subst hq
  intro H locs ls hP hD hK hS hl
  exact lv_astore_n hc.1 hc.2.1 hd rfl hl.has hn rfl (fun ls' hl' => kk H locs ls' hP hD hK hS (LH.ofI (ro := id) (v := .ref x) hl' hv))
end LA
abbrev LvL (i : Nat) : List (Option Value) := [some (.ref 4000), some (.ref 0), some (.ref 42), some (.int (nI i))]
def LX (nm : String) : Md := (⟨RL, nm, "([I)Z"⟩, code, 4, ret)
theorem and31 (x : Int32) : ∃ k, k < 32 ∧ x &&& 31 = nI k := by
  refine ⟨(x.toBitVec &&& 31#32).toNat, ?_, ?_⟩
  · rw [BitVec.toNat_and]
    exact Nat.lt_of_le_of_lt Nat.and_le_right (by decide)
  · apply Int32.toBitVec_inj.mp
    rw [Int32.toBitVec_and]
    show x.toBitVec &&& 31#32 = BitVec.ofNat 32 _
    apply BitVec.eq_of_toNat_eq
    rw [BitVec.toNat_ofNat, Nat.mod_eq_of_lt (BitVec.isLt _)]
theorem lt4 : ∀ L, L < 4 → ∀ i, i < 4 → nI L - 4 < nI i := by decide +kernel
theorem law_more {L i : Nat} (hL : L ≤ 2048) (hi : i ≤ L) (h : ¬ nI L - 4 < nI i) : i + 4 ≤ L := by
  rcases Nat.lt_or_ge L 4 with q | q
  · exact absurd (lt4 L q i (by omega)) h
  · obtain ⟨k, rfl⟩ : ∃ k, L = k + 4 := ⟨L - 4, by omega⟩
    have e : nI (k + 4) - 4 = nI k := by
      rw [← nI_add k 4]
      show nI k + 4 - 4 = nI k
      exact Int32.add_sub_cancel _ _
    rw [e] at h
    rcases Nat.lt_or_ge k i with q | q
    · exact absurd (nI_lt q (by omega)) h
    · omega
