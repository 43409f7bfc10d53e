/-! two more rules: null in a numbered local -/
section HN
variable {p : Program} {l : Launch} {e : Env} {R : Room} {s : State} {m : MethodId} {args : Array Value} {below : List Frame} {meth : Method} {c : Code} {G : Gm} {A : Nat → Prop} {cells slots : Nat} {Q : State → Prop} {X : Md} {M : Mm} {pc q : Nat} {lv lv' : List (Option Value)} {st : List Value}
theorem hb_aloadN (hc : CX p s m args meth c G A X) {k : Nat} (hd : decode X.2.1 pc = .ok (.aload k, 2)) (hq : pc + 2 = q) (hv : lv[k]? = some (some .null)) (kk : BW p l e R s m args below meth c G A cells slots Q X M q lv (.null :: st)) : BW p l e R s m args below meth c G A cells slots Q X M pc lv st := by
  subst hq
  intro H locs ls hP hS hl
  exact lv_aloadN hc.1 hc.2.1 hd (hl.2.2 _ _ hv) (kk H locs ls hP hS hl)
theorem hb_astoreN (hc : CX p s m args meth c G A X) {k : Nat} (hd : decode X.2.1 pc = .ok (.astore k, 2)) (hq : pc + 2 = q) (hn : k < X.2.2.1) (hv : stI lv k .null = lv') (kk : BW p l e R s m args below meth c G A cells slots Q X M q lv' st) : BW p l e R s m args below meth c G A cells slots Q X M pc lv (.null :: st) := by
  subst hq
  intro H locs ls hP hS hl
  exact lv_astoreN hc.1 hc.2.1 hd hl.has hn rfl (fun ls' hl' => kk H locs ls' hP hS (LH.ofI (v := .null) hl' hv))
end HN
