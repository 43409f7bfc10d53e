/-! STRING CONSTANTS in the abstract machine: literal i is the address 1000 + i, its bytes 2000 + i. -/
section HS
variable {p : Program} {l : Launch} {e : Env} {R : Room} {s : State} {m : MethodId} {args : Array Value} {below : List Frame} {meth : Method} {c : Code} {G : Gm} {A : Nat → Prop} {cells slots : Nat} {Q : State → Prop} {X : Md} {M : Mm} {pc q : Nat} {lv lv' : List (Option Value)} {st st0 : List Value}
theorem CX.ks (hc : CX p s m args meth c G A X) : KS G A s s.heap := hc.2.2.2.2.2.2.2.1.2.2.2.2
theorem hb_ldcS (hc : CX p s m args meth c G A X) (j : Nat) {idx : Nat} {tx : String} (hj : strL[j]? = some (X.1.cls, idx, tx)) (hd : decode X.2.1 pc = .ok (.ldc idx, 2)) (hq : pc + 2 = q) (kk : BW p l e R s m args below meth c G A cells slots Q X M q lv (.ref (1000 + j) :: st)) : BW p l e R s m args below meth c G A cells slots Q X M pc lv st := by
  subst hq
  intro H locs ls hP hS hl
  exact va_ldcS hc.1 hc.2.1 hc.2.2.2.2.1 (hc.ks.2.1 j _ hj) hd (kk H locs ls hP hS hl)
theorem hb_sget (hc : CX p s m args meth c G A X) {i idx : Nat} (hi : i < 6) (hw : Cond.fieldLink X.1.cls idx "java/lang/String" "value" "[B" ∈ GW) (hd : decode X.2.1 pc = .ok (.getfield idx, 3)) (hq : pc + 3 = q) (kk : BW p l e R s m args below meth c G A cells slots Q X M q lv (.ref (2000 + i) :: st)) : BW p l e R s m args below meth c G A cells slots Q X M pc lv (.ref (1000 + i) :: st) := by
  subst hq
  intro H locs ls hP hS hl
  exact vk_getf hc.1 hc.2.1 (hc.ks.1.1 i hi).2.2.1 hS hc.2.2.2.2.1 (hc.2.2.2.2.2.1 _ hw) (fun _ h => h) hd (kk H locs ls hP hS hl)
theorem hb_sgetC (hc : CX p s m args meth c G A X) {i idx : Nat} (hi : i < 6) (hw : Cond.fieldLink X.1.cls idx "java/lang/String" "coder" "B" ∈ GW) (hd : decode X.2.1 pc = .ok (.getfield idx, 3)) (hq : pc + 3 = q) (kk : BW p l e R s m args below meth c G A cells slots Q X M q lv (.int 0 :: st)) : BW p l e R s m args below meth c G A cells slots Q X M pc lv (.ref (1000 + i) :: st) := by
  subst hq
  intro H locs ls hP hS hl
  exact vk_getf hc.1 hc.2.1 (hc.ks.1.1 i hi).2.1 hS hc.2.2.2.2.1 (hc.2.2.2.2.2.1 _ hw) (fun _ h => h) hd (kk H locs ls hP hS hl)
theorem hb_gsC (hc : CX p s m args meth c G A X) {idx : Nat} (hw : Cond.fieldLink X.1.cls idx "java/lang/String" "COMPACT_STRINGS" "Z" ∈ GW) (hd : decode X.2.1 pc = .ok (.getstatic idx, 3)) (hq : pc + 3 = q) (kk : BW p l e R s m args below meth c G A cells slots Q X M q lv (.int 1 :: st)) : BW p l e R s m args below meth c G A cells slots Q X M pc lv st := by
  subst hq
  intro H locs ls hP hS hl
  exact va_gets hc.1 hc.2.1 hc.ks.2.2.1 hS hc.2.2.2.2.1 (hc.2.2.2.2.2.1 _ hw) (fun _ h => h) hd (kk H locs ls hP hS hl)
theorem hb_gsF (hc : CX p s m args meth c G A X) {idx : Nat} (hw : Cond.fieldLink X.1.cls idx "jdk/internal/util/Preconditions" "SIOOBE_FORMATTER" "Ljava/util/function/BiFunction;" ∈ GW) (hd : decode X.2.1 pc = .ok (.getstatic idx, 3)) (hq : pc + 3 = q) (kn : BW p l e R s m args below meth c G A cells slots Q X M q lv (.null :: st)) (kk : BW p l e R s m args below meth c G A cells slots Q X M q lv (.ref 3000 :: st)) : BW p l e R s m args below meth c G A cells slots Q X M pc lv st := by
  subst hq
  intro H locs ls hP hS hl
  rcases hc.ks.2.2.2 with h | h
  · exact va_gets hc.1 hc.2.1 h hS hc.2.2.2.2.1 (hc.2.2.2.2.2.1 _ hw) (fun _ h => h) hd (kn H locs ls hP hS hl)
  · exact va_gets hc.1 hc.2.1 h hS hc.2.2.2.2.1 (hc.2.2.2.2.2.1 _ hw) (fun _ h => h) hd (kk H locs ls hP hS hl)
theorem hb_slenA (hc : CX p s m args meth c G A X) {i : Nat} (hi : i < 6) (hd : decode X.2.1 pc = .ok (.arraylength, 1)) (hq : pc + 1 = q) (kk : BW p l e R s m args below meth c G A cells slots Q X M q lv (.int (nI (strN.getD i 0)) :: st)) : BW p l e R s m args below meth c G A cells slots Q X M pc lv (.ref (2000 + i) :: st) := by
  subst hq
  intro H locs ls hP hS hl
  exact va_tlen hc.1 hc.2.1 (hc.ks.1.1 i hi).2.2.2 hS rfl hd (kk H locs ls hP hS hl)
theorem hb_sald (hc : CX p s m args meth c G A X) {i : Nat} {j : Int32} (hi : i < 6) (hin : vp_in j (strN.getD i 0)) (hd : decode X.2.1 pc = .ok (.baload, 1)) (hq : pc + 1 = q) (kk : BW p l e R s m args below meth c G A cells slots Q X M q lv (.int ((strB.getD i []).getD j.toNatClampNeg 0) :: st)) : BW p l e R s m args below meth c G A cells slots Q X M pc lv (.int j :: .ref (2000 + i) :: st) := by
  subst hq
  intro H locs ls hP hS hl
  exact va_tb hc.1 hc.2.1 (hc.ks.1.1 i hi).2.2.2 hS hin rfl hd (kk H locs ls hP hS hl)
theorem hb_i2c (hc : CX p s m args meth c G A X) {x v : Int32} (hd : decode X.2.1 pc = .ok (.i2c, 1)) (hq : pc + 1 = q) (hv : (x.toUInt32 % 65536).toInt32 = v) (kk : BW p l e R s m args below meth c G A cells slots Q X M q lv (.int v :: st)) : BW p l e R s m args below meth c G A cells slots Q X M pc lv (.int x :: st) := by
  subst hq
  intro H locs ls hP hS hl
  exact lv_i2c hc.1 hc.2.1 hd hv (kk H locs ls hP hS hl)
theorem hb_callVsi (hc : CX p s m args meth c G A X) {idx n i d : Nat} {Y : Md} {vs : List Value} {K : Int32 → Mm → Prop} (hi : i < 6) (hm : MV X.1.cls idx Y n) (hYc : Y.1.cls = "java/lang/String") (hac : AC d Y (.ref (1000 + i) :: vs) M (QI K)) (hn : vs.length = n) (hst : st0 = vs.reverse ++ .ref (1000 + i) :: st) (hw : (st.map fun v => v.category).sum ≤ 8) (hR : d + 1 ≤ R.frames ∧ 40 * d + 40 ≤ R.locals) (hcs : cells ≤ R.cells ∧ slots ≤ R.slots) (hd : decode X.2.1 pc = .ok (.invokevirtual idx, 3)) (hq : pc + 3 = q) (kk : ∀ (x : Int32) (M' : Mm), K x M' → BW p l e R s m args below meth c G A cells slots Q X M' q lv (.int x :: st)) : BW p l e R s m args below meth c G A cells slots Q X M pc lv st0 := by
  subst hq
  intro H locs ls hP hS hl
  obtain ⟨m1, m2, m3, m4, m5, m6, m7⟩ := hm
  have hrun : va_Run p l e R s m args below meth c H locs cells slots 0 0 (F0 m pc ls (st0.map (cvv G.2.1))) (st.map (cvv G.2.1)) (QI K G (Value.ref (G.2.1 (1000 + i)) :: vs.map (cvv G.2.1)).toArray) (FA G) := by
    refine va_runV (Ts := GW) (own := X.1.cls) (C := Y.1.cls) (As := vs.map (cvv G.2.1)) (rest := st.map (cvv G.2.1)) ⟨hc.1, hc.2.1, hc.2.2.2.1, hc.2.2.2.2.1, hc.2.2.2.2.2.1⟩ (hac l G hc.2.2.2.2.2.2.2.2.1) (cwV n hc.2.2.2.2.2.1 (gwgood (fun w hw => ?_)) rfl rfl rfl ⟨rfl, m6⟩ ⟨hR.1, ?_⟩) ⟨PC_blind _ _ _, (by rw [hYc]; exact vk_recv (adK := fun i => G.2.1 (1000 + i)) (i := i) hc.ks.1 hi hS), fun U hU hW => PC_of hc (vs := .ref (1000 + i) :: vs) hP hS U hU hW⟩ rfl (by rw [List.length_map]; exact hn) hl.1 ?_ (lv_room (by rw [cats]; exact hw)) hd hcs
    · rcases List.mem_append.mp hw with h | h
      · simp only [List.mem_cons, List.not_mem_nil, or_false] at h
        rcases h with rfl | rfl | rfl | rfl
        · exact m1
        · exact m2
        · exact m3
        · exact m4
      · exact wd_in m5 w h
    · show 8 + (Y.2.2.1 + 11) + 40 * d ≤ R.locals
      omega
    · show st0.map (cvv G.2.1) = _
      rw [hst, List.map_append, List.map_reverse]
      rfl
  refine va_calli hrun hS (fun z _ hz => by obtain ⟨i, hi, rfl⟩ := hz; exact hc.2.2.2.2.2.2.2.2.2 i hi) (fun z hz => by obtain ⟨i, hi, rfl⟩ := hz; exact hc.2.2.2.2.2.2.2.2.2 i hi) (fun r u t H1 locs1 ht hvm hpost hB hz hk hS1 => ?_)
  exact kk r u hpost H1 locs1 ls (by rw [← ht]; exact hB) hS1 hl
end HS
