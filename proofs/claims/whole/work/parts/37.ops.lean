/-! PUBLIC CALLS over the invariant: text, coast, tapes. -/
theorem ACi.mono {d : Nat} {Z : Md} {vs : List Value} {M : Mm} {K K' : Int32 → Mm → Prop} (hk : ∀ r M', K r M' → K' r M') (h : ACi d Z vs M K) : ACi d Z vs M K' := fun l G hD => MetFree.mono (h l G hD) (fun _ _ p => p) (fun _ _ _ _ _ k => k) (fun a s o t _ q => ⟨⟨by
  obtain ⟨r, v, e, kp, hB⟩ := q.1.1
  exact ⟨r, v, e, hk r v kp, hB⟩, q.1.2⟩, q.2⟩)
theorem Pr.of0 {X Y : Md} {vs : List Value} {M : Mm} (h : Inv M) (hp : Pr0 X Y vs M) : Pr X Y vs M := lift0 h hp (fun _ _ _ _ _ _ hk h => ACi.mono hk h)
/-- the class's part of a deed, up to the row that it writes -/
def FrD (M M1 : Mm) : Prop := (∀ q, q ≠ 13 → q ≠ 14 → q ≠ 15 → q ≠ 22 → q ≠ 23 → q ≠ 24 → q ≠ 25 → q ≠ 34 → M1.1 q = M.1 q) ∧ (∀ q, q ≠ 34 → M1.2 q = M.2 q) ∧ M1.1 34 0 = 0 ∧ M1.2 34 2 = 0
section OPS
variable {M M1 M2 : Mm} {b w sg nr nl : Nat} {num : Nat → Nat} {u : Nat} {ps : Nat → Nat → Nat} {bs : Nat → Nat → Option Nat} {tp : Nat → Nat} {tb : Nat → Option Nat}
theorem coast_end {u2 : Nat} {ps2 : Nat → Nat → Nat} {bs2 : Nat → Nat → Option Nat} (h : CoI M b w sg nr nl num u ps bs tp tb) (hD : FrD M M1) (hF : FrM M1 M2) (g1 : UnC M1 nl u2 ps2 bs2) (g2 : LtC M1 nl (ps2 u2) (bs2 u2)) (g3 : UnM M2 nl u2 ps2 bs2) (g4 : LtM M2 nl (ps2 u2) (bs2 u2)) (g5 : UnW nr nl u2 ps2 bs2) : Inv M2 := by
  obtain ⟨⟨a1, a2, a3⟩, -, -, t, k, -, tt, tx, ww⟩ := h
  obtain ⟨d1, d2, d3, d4⟩ := hD
  obtain ⟨f1, f2, f3, f4, f5⟩ := hF
  have hn : nl ≤ 6 := (g5.2 u2 (Nat.le_refl _)).1
  have cl : ∀ q, q ≠ 13 → q ≠ 14 → q ≠ 15 → q ≠ 22 → q ≠ 23 → q ≠ 24 → q ≠ 25 → q ≠ 34 → q ≠ 42 → q ≠ 43 → M2.1 q = M.1 q := fun q b1 b2 b3 b4 b5 b6 b7 b8 b9 b10 => (f2 q b9 b10).trans (d1 q b1 b2 b3 b4 b5 b6 b7 b8)
  have m1 : ∀ j, j ≠ 7 → j ≠ 11 → M2.1 42 j = M.1 42 j := fun j c1 c2 => (f3 j c1 c2).trans (by rw [d1 42 (by decide) (by decide) (by decide) (by decide) (by decide) (by decide) (by decide) (by decide)])
  have m2 : ∀ j, 108 ≤ j → M2.1 43 j = M.1 43 j := fun j c1 => (f4 j c1).trans (by rw [d1 43 (by decide) (by decide) (by decide) (by decide) (by decide) (by decide) (by decide) (by decide)])
  have cc : ∀ q, q ≠ 13 → q ≠ 14 → q ≠ 15 → q ≠ 22 → q ≠ 23 → q ≠ 24 → q ≠ 25 → q ≠ 34 → q ≠ 42 → q ≠ 43 → M2.1 q = M.1 q := cl
  refine ⟨b, w, sg, nr, nl, num, u2, ps2, bs2, tp, tb, ⟨a1.of (cl 3 (by decide) (by decide) (by decide) (by decide) (by decide) (by decide) (by decide) (by decide) (by decide) (by decide)) (cl 4 (by decide) (by decide) (by decide) (by decide) (by decide) (by decide) (by decide) (by decide) (by decide) (by decide)), a2.of (fun j c1 c2 => m1 j (by omega) (by omega)) (cl 44 (by decide) (by decide) (by decide) (by decide) (by decide) (by decide) (by decide) (by decide) (by decide) (by decide)), a3⟩, ⟨?_, g4⟩, ⟨?_, g3, g5⟩, ?_, ?_, Or.inl ⟨?_, ?_, f5⟩, ?_, ?_, ?_⟩
  · exact g2.of (by rw [f2 13 (by decide) (by decide)]) (f2 14 (by decide) (by decide)) (f2 15 (by decide) (by decide))
  · exact g1.of (by rw [f2 22 (by decide) (by decide)]) (f2 23 (by decide) (by decide)) (f2 24 (by decide) (by decide)) (f2 25 (by decide) (by decide))
  · exact t.of (by rw [cl 5 (by decide) (by decide) (by decide) (by decide) (by decide) (by decide) (by decide) (by decide) (by decide) (by decide)]) (cl 6 (by decide) (by decide) (by decide) (by decide) (by decide) (by decide) (by decide) (by decide) (by decide) (by decide)) (cl 7 (by decide) (by decide) (by decide) (by decide) (by decide) (by decide) (by decide) (by decide) (by decide) (by decide)) hn (fun j c1 _ => m2 j (by omega))
  · exact k.of (fun q c1 c2 => cl q (by omega) (by omega) (by omega) (by omega) (by omega) (by omega) (by omega) (by omega) (by omega) (by omega)) (cl 45 (by decide) (by decide) (by decide) (by decide) (by decide) (by decide) (by decide) (by decide) (by decide) (by decide)) hn (fun j c1 _ => m2 j c1)
  · rw [f2 34 (by decide) (by decide)]; exact d3
  · rw [f1]; exact d4
  · exact tt.of (fun q c1 c2 => cl q (by omega) (by omega) (by omega) (by omega) (by omega) (by omega) (by omega) (by omega) (by omega) (by omega)) (cl 50 (by decide) (by decide) (by decide) (by decide) (by decide) (by decide) (by decide) (by decide) (by decide) (by decide)) (cl 51 (by decide) (by decide) (by decide) (by decide) (by decide) (by decide) (by decide) (by decide) (by decide) (by decide))
  · exact tx.of (by rw [cl 1 (by decide) (by decide) (by decide) (by decide) (by decide) (by decide) (by decide) (by decide) (by decide) (by decide)]) (cl 2 (by decide) (by decide) (by decide) (by decide) (by decide) (by decide) (by decide) (by decide) (by decide) (by decide)) (m1 10 (by decide) (by decide)) (cl 46 (by decide) (by decide) (by decide) (by decide) (by decide) (by decide) (by decide) (by decide) (by decide) (by decide))
  · exact ww.of (fun q c1 c2 => cl q (by omega) (by omega) (by omega) (by omega) (by omega) (by omega) (by omega) (by omega) (by omega) (by omega))
/-- a light's place or rhythm is written, the deed being remembered -/
theorem deedC {l : Nat} {A : Nat} {x : Int32} {pn : Nat → Nat} {bn : Nat → Option Nat} (hA : A = 14 ∨ A = 15) (hL : LtC M nl (ps u) (bs u)) (hP : FrP M M1) (hU : UnC M1 nl (u7 u + 1) (exS u ps pn) (exS u bs bn)) (hl : l < nl) (hd : ∀ i, i < nl → i ≠ l → ps u i = pn i ∧ bs u i = bn i) (hx : (A = 14 → x = nI (pn l) ∧ bs u l = bn l) ∧ (A = 15 → x = oi (bn l) ∧ ps u l = pn l)) : UnC (wI M1 A l x) nl (u7 u + 1) (exS u ps pn) (exS u bs bn) ∧ LtC (wI M1 A l x) nl pn bn ∧ FrD M (wI M1 A l x) := by
  obtain ⟨p1, p2, p3, p4⟩ := hP
  refine ⟨?_, ⟨?_, fun i hi => ?_⟩, ⟨fun q c1 c2 c3 c4 c5 c6 c7 c8 => ?_, p2, ?_, p4⟩⟩
  · rcases hA with rfl | rfl
    · exact hU.of (by simp [rI]) (wI_ne (by decide)) (wI_ne (by decide)) (wI_ne (by decide))
    · exact hU.of (by simp [rI]) (wI_ne (by decide)) (wI_ne (by decide)) (wI_ne (by decide))
  · rcases hA with rfl | rfl <;> simp [rI, p1 13 (by decide) (by decide) (by decide) (by decide) (by decide), hL.1]
  · have e14 := p1 14 (by decide) (by decide) (by decide) (by decide) (by decide)
    have e15 := p1 15 (by decide) (by decide) (by decide) (by decide) (by decide)
    have g := hL.2 i hi
    rcases hA with rfl | rfl
    · have hx := hx.1 rfl
      by_cases e : i = l
      · subst e
        simp [rI, hx.1, e15, g.2, hx.2]
      · have := hd i hi e
        simp [rI, e, e14, e15, g.1, g.2, this.1, this.2]
    · have hx := hx.2 rfl
      by_cases e : i = l
      · subst e
        simp [rI, hx.1, e14, g.1, hx.2]
      · have := hd i hi e
        simp [rI, e, e14, e15, g.1, g.2, this.1, this.2]
  · rcases hA with rfl | rfl
    · rw [wI_ne c2]; exact p1 q c4 c5 c6 c7 c8
    · rw [wI_ne c3]; exact p1 q c4 c5 c6 c7 c8
  · rcases hA with rfl | rfl <;> simp [rI, p3]
theorem newW {pn : Nat → Nat} {bn : Nat → Option Nat} (hW : UnW nr nl u ps bs) (hn : LtW nr nl pn bn) : UnW nr nl (u7 u + 1) (exS u ps pn) (exS u bs bn) := by
  have h7 := u7_le hW.1
  refine ⟨by omega, fun k hk => ?_⟩
  unfold exS
  by_cases e : k ≤ u7 u
  · rw [if_pos e, if_pos e]
    exact hW.2 _ (by omega)
  · rw [if_neg e, if_neg e]
    exact hn
theorem LtM.fr {pl : Nat → Nat} {bo : Nat → Option Nat} (h : LtM M nl pl bo) (hD : FrD M M1) : LtM M1 nl pl bo := h.of (by rw [hD.1 42 (by decide) (by decide) (by decide) (by decide) (by decide) (by decide) (by decide) (by decide)]) (hD.1 43 (by decide) (by decide) (by decide) (by decide) (by decide) (by decide) (by decide) (by decide))
theorem UnM.fr (h : UnM M nl u ps bs) (hD : FrD M M1) : UnM M1 nl u ps bs := h.of (by rw [hD.1 42 (by decide) (by decide) (by decide) (by decide) (by decide) (by decide) (by decide) (by decide)]) (hD.1 43 (by decide) (by decide) (by decide) (by decide) (by decide) (by decide) (by decide) (by decide))
theorem BkM.fr (h : BkM M b w sg nr num) (hD : FrD M M1) : BkM M1 b w sg nr num := h.of (fun j _ _ => by rw [hD.1 42 (by decide) (by decide) (by decide) (by decide) (by decide) (by decide) (by decide) (by decide)]) (hD.1 44 (by decide) (by decide) (by decide) (by decide) (by decide) (by decide) (by decide) (by decide))
theorem rowB {N : Mm} {pl pn : Nat → Nat} {bo bn : Nat → Option Nat} {l : Nat} {x : Int32} (hn : nl ≤ 6) (hl : l < nl) (hx : x = oi (bn l)) (hp : ∀ i, i < nl → pl i = pn i) (hb : ∀ i, i < nl → i ≠ l → bo i = bn i) (h : RowAt N 0 nl pl bo) : RowAt (wI N 43 (6 + l) x) 0 nl pn bn := by
  intro i hi
  obtain ⟨h1, h2⟩ := h i hi
  simp only [Nat.zero_add] at *
  have e1 : ¬ i = 6 + l := by omega
  simp only [rI]
  rw [if_neg (by omega)]
  refine ⟨by rw [h1, hp i hi], ?_⟩
  by_cases e : i = l
  · subst e
    rw [if_pos ⟨trivial, rfl⟩, hx]
  · rw [if_neg (by omega), h2, hb i hi e]
theorem rowP {N : Mm} {pl pn : Nat → Nat} {bo bn : Nat → Option Nat} {l : Nat} {x : Int32} (hn : nl ≤ 6) (hl : l < nl) (hx : x = nI (pn l)) (hb : ∀ i, i < nl → bo i = bn i) (hp : ∀ i, i < nl → i ≠ l → pl i = pn i) (h : RowAt N 0 nl pl bo) : RowAt (wI N 43 l x) 0 nl pn bn := by
  intro i hi
  obtain ⟨h1, h2⟩ := h i hi
  simp only [Nat.zero_add] at *
  have e1 : ¬ 6 + i = l := by omega
  simp only [rI]
  refine ⟨?_, by rw [if_neg (by omega), h2, hb i hi]⟩
  by_cases e : i = l
  · subst e
    rw [if_pos ⟨trivial, rfl⟩, hx]
  · rw [if_neg (by omega), h1, hp i hi e]
theorem p_lit {v1 v2 : Int32} (h : Inv M) : Pr X8_lit X9_lit [.int v1, .int v2] M := by
  have hInv := h
  obtain ⟨b, w, sg, nr, nl, num, u, ps, bs, tp, tb, hc⟩ := h
  have hc0 := hc
  obtain ⟨⟨a1, a2, a3⟩, ⟨l1, l2⟩, ⟨u1, u2, u3⟩, -⟩ := hc
  have hW := u3.2 u (Nat.le_refl _)
  have hn := hW.1
  have w7 := a3.2.2.2.2.2.2.1
  have e6 : ∀ n : Nat, (6 : Int32) + nI n = nI (6 + n) := fun n => nI_add 6 n
  intro d
  refine w_X8_lit (c_hasLight l1 hn (fun l hl e => ⟨fun z => absurd z (by decide), fun _ => c_hasRhythm a1 a3 (fun r hr er => ⟨fun _ => ?_, fun z => absurd z (by decide)⟩) (fun hno => ⟨fun z => absurd rfl z, fun _ => ?_⟩)⟩) (fun hno => ⟨fun _ => ?_, fun z => absurd rfl z⟩))
  · subst e
    subst er
    have vl : vp_in (nI l) 6 := vp_in_nI (by omega) (by decide)
    rw [nI_clamp (by omega), (l1.2 l hl).2]
    refine ⟨vl, fun c => ?_, fun c => ?_⟩
    · refine c_prep (pn := ps u) (bn := fun i => if i = l then some r else bs u i) u1 l1 u3.1 hn hl (fun i _ hi => ⟨rfl, by rw [if_neg hi]⟩) (fun M1 hU hP => ⟨vl, ?_⟩)
      obtain ⟨q1, q2, q3⟩ := deedC (A := 15) (x := nI r) (Or.inr rfl) l1 hP hU hl (fun i _ hi => ⟨rfl, by rw [if_neg hi]⟩) ⟨fun z => absurd z (by decide), fun _ => ⟨by simp [oi], rfl⟩⟩
      have lm := l2.fr q3
      refine w_X9_lit (c_isLight lm hn (fun _ _ _ => ⟨fun z => absurd z (by decide), fun _ => c_isRhythm (a2.fr q3) a3 (fun _ _ _ => ⟨fun _ => ?_, fun z => absurd z (by decide)⟩) (fun hno => absurd rfl (hno r hr))⟩) (fun hno => absurd rfl (hno l hl)))
      rw [e6, nI_clamp (by omega), (lm.2 l hl).2]
      refine ⟨vp_in_nI (by omega) (by decide), fun _ => c_become (pn := ps u) (bn := fun i => if i = l then some r else bs u i) (u2.fr q3) lm u3.1 hn (by omega) (fun N1 hr0 => rowB hn hl (by simp [oi]) (fun _ _ => rfl) (fun i _ hi => by rw [if_neg hi]) hr0) (fun M2 g1 g2 g3 => ⟨rfl, ?_⟩), fun z => absurd z c⟩
      have hnw : LtW nr nl (ps u) (fun i => if i = l then some r else bs u i) := ⟨hn, fun i hi => ⟨(hW.2 i hi).1, fun r' hr' => by
        dsimp only at hr'
        by_cases e : i = l
        · rw [if_pos e] at hr'; cases hr'; exact hr
        · rw [if_neg e] at hr'; exact (hW.2 i hi).2 r' hr'⟩⟩
      exact coast_end hc0 q3 g3 q1 (by rw [exS_n, exS_n]; exact q2) g1 (by rw [exS_n, exS_n]; exact g2) (newW u3 hnw)
    · refine w_X9_lit (c_isLight l2 hn (fun _ _ _ => ⟨fun z => absurd z (by decide), fun _ => c_isRhythm a2 a3 (fun _ _ _ => ⟨fun _ => ?_, fun z => absurd z (by decide)⟩) (fun hno => absurd rfl (hno r hr))⟩) (fun hno => absurd rfl (hno l hl)))
      rw [e6, nI_clamp (by omega), (l2.2 l hl).2]
      exact ⟨vp_in_nI (by omega) (by decide), fun z => absurd c z, fun _ => ⟨rfl, hInv⟩⟩
  · subst e
    exact w_X9_lit (c_isLight l2 hn (fun _ _ _ => ⟨fun z => absurd z (by decide), fun _ => c_isRhythm a2 a3 (fun r hr er => absurd er (hno r hr)) (fun _ => ⟨fun z => absurd rfl z, fun _ => ⟨rfl, hInv⟩⟩)⟩) (fun hno => absurd rfl (hno l hl)))
  · exact w_X9_lit (c_isLight l2 hn (fun r hr e => absurd e (hno r hr)) (fun _ => ⟨fun _ => ⟨rfl, hInv⟩, fun z => absurd rfl z⟩))
theorem p_dark {v1 : Int32} (h : Inv M) : Pr X8_dark X9_dark [.int v1] M := by
  have hInv := h
  obtain ⟨b, w, sg, nr, nl, num, u, ps, bs, tp, tb, hc⟩ := h
  have hc0 := hc
  obtain ⟨⟨a1, a2, a3⟩, ⟨l1, l2⟩, ⟨u1, u2, u3⟩, -⟩ := hc
  have hW := u3.2 u (Nat.le_refl _)
  have hn := hW.1
  have e6 : ∀ n : Nat, (6 : Int32) + nI n = nI (6 + n) := fun n => nI_add 6 n
  intro d
  refine w_X8_dark (c_hasLight l1 hn (fun l hl e => ⟨fun _ => ?_, fun z => absurd z (by decide)⟩) (fun hno => ⟨fun z => absurd rfl z, fun _ => ?_⟩))
  · subst e
    have vl : vp_in (nI l) 6 := vp_in_nI (by omega) (by decide)
    rw [nI_clamp (by omega), (l1.2 l hl).2]
    refine ⟨vl, fun c => ?_, fun c => ?_⟩
    · refine c_prep (pn := ps u) (bn := fun i => if i = l then none else bs u i) u1 l1 u3.1 hn hl (fun i _ hi => ⟨rfl, by rw [if_neg hi]⟩) (fun M1 hU hP => ⟨vl, ?_⟩)
      obtain ⟨q1, q2, q3⟩ := deedC (A := 15) (x := -1) (Or.inr rfl) l1 hP hU hl (fun i _ hi => ⟨rfl, by rw [if_neg hi]⟩) ⟨fun z => absurd z (by decide), fun _ => ⟨by simp [oi], rfl⟩⟩
      have lm := l2.fr q3
      refine w_X9_dark (c_isLight lm hn (fun _ _ _ => ⟨fun _ => ?_, fun z => absurd z (by decide)⟩) (fun hno => absurd rfl (hno l hl)))
      rw [e6, nI_clamp (by omega), (lm.2 l hl).2]
      refine ⟨vp_in_nI (by omega) (by decide), fun _ => c_become (pn := ps u) (bn := fun i => if i = l then none else bs u i) (u2.fr q3) lm u3.1 hn (by omega) (fun N1 hr0 => rowB hn hl (by simp [oi]) (fun _ _ => rfl) (fun i _ hi => by rw [if_neg hi]) hr0) (fun M2 g1 g2 g3 => ⟨rfl, ?_⟩), fun z => absurd z c⟩
      have hnw : LtW nr nl (ps u) (fun i => if i = l then none else bs u i) := ⟨hn, fun i hi => ⟨(hW.2 i hi).1, fun r' hr' => by
        dsimp only at hr'
        by_cases e : i = l
        · rw [if_pos e] at hr'; cases hr'
        · rw [if_neg e] at hr'; exact (hW.2 i hi).2 r' hr'⟩⟩
      exact coast_end hc0 q3 g3 q1 (by rw [exS_n, exS_n]; exact q2) g1 (by rw [exS_n, exS_n]; exact g2) (newW u3 hnw)
    · refine w_X9_dark (c_isLight l2 hn (fun _ _ _ => ⟨fun _ => ?_, fun z => absurd z (by decide)⟩) (fun hno => absurd rfl (hno l hl)))
      rw [e6, nI_clamp (by omega), (l2.2 l hl).2]
      exact ⟨vp_in_nI (by omega) (by decide), fun z => absurd c z, fun _ => ⟨rfl, hInv⟩⟩
  · exact w_X9_dark (c_isLight l2 hn (fun r hr e => absurd e (hno r hr)) (fun _ => ⟨fun z => absurd rfl z, fun _ => ⟨rfl, hInv⟩⟩))
theorem c_isPlace {d : Nat} {K : Int32 → Mm → Prop} {x : Int32} (h1 : ∀ v, v ≤ 99 → x = nI v → K 1 M) (h0 : (x.toInt < 0 ∨ 99 < x.toInt) → K 0 M) : ACi (d + 1) X8_isPlace [.int x] M K := by
  have e99 : (99 : Int32).toInt = 99 := by decide
  refine w_X8_isPlace ⟨fun c => h0 (Or.inl (by rw [fa_lt, tI0] at c; exact c)), fun c => ⟨fun c2 => h0 (Or.inr (by rw [fa_lt, e99] at c2; exact c2)), fun c2 => ?_⟩⟩
  rw [fa_lt, tI0] at c
  rw [fa_lt, e99] at c2
  obtain ⟨v, hv, e⟩ := i_of (x := x) (n := 100) (by omega) (by omega)
  exact h1 v (by omega) e
theorem c_in99 {d : Nat} {K : Int32 → Mm → Prop} {x : Int32} (h1 : ∀ v, v ≤ 99 → x = nI v → K 1 M) (h0 : (x.toInt < 0 ∨ 99 < x.toInt) → K 0 M) : ACi (d + 1) X9_in [.long x.toInt64, .long 0, .long 99] M K :=
  c_in (l := 0) (u := 99) (by decide) (by decide) (fun a b => by
    obtain ⟨v, hv, e⟩ := i_of (x := x) (n := 100) (by omega) (by omega)
    exact h1 v (by omega) e) h0
theorem out99 {v : Nat} {x : Int32} (hv : v ≤ 99) (e : x = nI v) (h : x.toInt < 0 ∨ 99 < x.toInt) : False := by
  rw [e, tN (by omega)] at h
  omega
theorem p_move {v1 v2 : Int32} (h : Inv M) : Pr X8_move X9_move [.int v1, .int v2] M := by
  have hInv := h
  obtain ⟨b, w, sg, nr, nl, num, u, ps, bs, tp, tb, hc⟩ := h
  have hc0 := hc
  obtain ⟨⟨a1, a2, a3⟩, ⟨l1, l2⟩, ⟨u1, u2, u3⟩, -⟩ := hc
  have hW := u3.2 u (Nat.le_refl _)
  have hn := hW.1
  intro d
  refine w_X8_move (c_hasLight l1 hn (fun l hl e => ⟨fun _ => c_isPlace (fun v hv ev => ⟨fun _ => ?_, fun z => absurd z (by decide)⟩) (fun hb => ⟨fun z => absurd rfl z, fun _ => ?_⟩), fun z => absurd z (by decide)⟩) (fun hno => ⟨fun z => absurd rfl z, fun _ => ?_⟩))
  · subst e
    subst ev
    have vl : vp_in (nI l) 6 := vp_in_nI (by omega) (by decide)
    rw [nI_clamp (by omega), (l1.2 l hl).1]
    refine ⟨vl, fun c => ?_, fun c => ?_⟩
    · refine c_prep (pn := fun i => if i = l then v else ps u i) (bn := bs u) u1 l1 u3.1 hn hl (fun i _ hi => ⟨by rw [if_neg hi], rfl⟩) (fun M1 hU hP => ⟨vl, ?_⟩)
      obtain ⟨q1, q2, q3⟩ := deedC (A := 14) (x := nI v) (Or.inl rfl) l1 hP hU hl (fun i _ hi => ⟨by rw [if_neg hi], rfl⟩) ⟨fun _ => ⟨by simp, rfl⟩, fun z => absurd z (by decide)⟩
      have lm := l2.fr q3
      refine w_X9_move (c_isLight lm hn (fun _ _ _ => ⟨fun _ => c_in99 (fun _ _ _ => ⟨fun _ => ?_, fun z => absurd z (by decide)⟩) (fun hb => absurd hb (fun z => out99 hv rfl z)), fun z => absurd z (by decide)⟩) (fun hno => absurd rfl (hno l hl)))
      rw [z0, nI_clamp (by omega), (lm.2 l hl).1]
      refine ⟨vp_in_nI (by omega) (by decide), fun _ => c_become (pn := fun i => if i = l then v else ps u i) (bn := bs u) (u2.fr q3) lm u3.1 hn (by omega) (fun N1 hr0 => rowP hn hl (by simp) (fun _ _ => rfl) (fun i _ hi => by rw [if_neg hi]) hr0) (fun M2 g1 g2 g3 => ⟨rfl, ?_⟩), fun z => absurd z c⟩
      have hnw : LtW nr nl (fun i => if i = l then v else ps u i) (bs u) := ⟨hn, fun i hi => ⟨by
        show (if i = l then v else ps u i) ≤ 99
        by_cases e : i = l
        · rw [if_pos e]; exact hv
        · rw [if_neg e]; exact (hW.2 i hi).1, (hW.2 i hi).2⟩⟩
      exact coast_end hc0 q3 g3 q1 (by rw [exS_n, exS_n]; exact q2) g1 (by rw [exS_n, exS_n]; exact g2) (newW u3 hnw)
    · refine w_X9_move (c_isLight l2 hn (fun _ _ _ => ⟨fun _ => c_in99 (fun _ _ _ => ⟨fun _ => ?_, fun z => absurd z (by decide)⟩) (fun hb => absurd hb (fun z => out99 hv rfl z)), fun z => absurd z (by decide)⟩) (fun hno => absurd rfl (hno l hl)))
      rw [z0, nI_clamp (by omega), (l2.2 l hl).1]
      exact ⟨vp_in_nI (by omega) (by decide), fun z => absurd c z, fun _ => ⟨rfl, hInv⟩⟩
  · subst e
    exact w_X9_move (c_isLight l2 hn (fun _ _ _ => ⟨fun _ => c_in99 (fun v hv ev => absurd hb (fun z => out99 hv ev z)) (fun _ => ⟨fun z => absurd rfl z, fun _ => ⟨rfl, hInv⟩⟩), fun z => absurd z (by decide)⟩) (fun hno => absurd rfl (hno l hl)))
  · exact w_X9_move (c_isLight l2 hn (fun r hr e => absurd e (hno r hr)) (fun _ => ⟨fun z => absurd rfl z, fun _ => ⟨rfl, hInv⟩⟩))
end OPS
