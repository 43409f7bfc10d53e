/-! PUBLIC CALLS: undo, keep, back, write, erase; tapes and look-ups over the invariant. -/
section OP2
variable {M M1 M2 : Mm} {b w sg nr nl : Nat} {num : Nat → Nat} {u : Nat} {ps : Nat → Nat → Nat} {bs : Nat → Nat → Option Nat} {tp : Nat → Nat} {tb : Nat → Option Nat}
theorem p_undo (h : Inv M) : Pr X8_undo X9_undo [] M := by
  have hInv := h
  obtain ⟨b, w, sg, nr, nl, num, u, ps, bs, tp, tb, hc⟩ := h
  have hc0 := hc
  obtain ⟨⟨a1, a2, a3⟩, ⟨l1, l2⟩, ⟨u1, u2, u3⟩, -⟩ := hc
  have hW := u3.2 u (Nat.le_refl _)
  have hn := hW.1
  have hu := u3.1
  intro d
  refine w_X8_undo ?_
  rw [u1.1]
  refine ⟨fun c => ?_, fun c => ?_⟩
  · obtain ⟨v, rfl⟩ : ∃ v, u = v + 1 := ⟨u - 1, by
      rcases Nat.eq_zero_or_pos u with q | q
      · subst q; exact absurd rfl c
      · omega⟩
    obtain ⟨l, hl, m1, m2, m3, m4⟩ := u1.2 v (by omega)
    have vv : vp_in (nI v) 8 := vp_in_nI (by omega) (by decide)
    have vl : vp_in (nI l) 6 := vp_in_nI (by omega) (by decide)
    refine w_X1_takeBack ?_
    rw [u1.1, nI_pred, nI_clamp (n := v) (by omega), m1, m2, m3, nI_clamp (n := l) (by omega)]
    refine ⟨fun z => absurd z (nI_nle (by omega) (by omega)), fun _ => ⟨vv, vv, vl, vv, vv, vl, w_X7_end ?_⟩⟩
    have hD : FrD M (wL (wI (wI (wI (wI M 22 0 (nI v)) 14 l (nI (ps v l))) 15 l (oi (bs v l))) 34 0 0) 34 2 0) := by
      refine ⟨fun q c1 c2 c3 c4 c5 c6 c7 c8 => ?_, fun q c1 => wL_ne c1, by simp [rI, rL1], by simp [rL]⟩
      rw [rL1, wI_ne c8, wI_ne c3, wI_ne c2, wI_ne c4]
    have e22 : (wL (wI (wI (wI (wI M 22 0 (nI v)) 14 l (nI (ps v l))) 15 l (oi (bs v l))) 34 0 0) 34 2 0).1 22 0 = nI v := by simp [rI, rL1]
    have gU : UnC (wL (wI (wI (wI (wI M 22 0 (nI v)) 14 l (nI (ps v l))) 15 l (oi (bs v l))) 34 0 0) 34 2 0) nl v ps bs := by
      refine ⟨e22, fun k hk => ?_⟩
      obtain ⟨l', q0, q1, q2, q3, q4⟩ := u1.2 k (by omega)
      exact ⟨l', q0, by simpa [rI, rL1] using q1, by simpa [rI, rL1] using q2, by simpa [rI, rL1] using q3, q4⟩
    have gL : LtC (wL (wI (wI (wI (wI M 22 0 (nI v)) 14 l (nI (ps v l))) 15 l (oi (bs v l))) 34 0 0) 34 2 0) nl (ps v) (bs v) := by
      refine ⟨by simpa [rI, rL1] using l1.1, fun i hi => ?_⟩
      by_cases e : i = l
      · subst e; simp [rI, rL1]
      · obtain ⟨q1, q2⟩ := m4 i hi e
        have := l1.2 i hi
        simp [rI, rL1, e, this.1, this.2, q1, q2]
    rw [e22]
    generalize wL (wI (wI (wI (wI M 22 0 (nI v)) 14 l (nI (ps v l))) 15 l (oi (bs v l))) 34 0 0) 34 2 0 = M1 at hD gU gL ⊢
    have um := u2.fr hD
    have lm := l2.fr hD
    have e12 : (12 : Int32) + 12 * nI v = nI (12 + 12 * v) := by rw [m12]; exact nI_add 12 _
    refine w_X9_undo ?_
    rw [um.1, nI_pred, e12]
    refine ⟨fun _ => c_copyRow (a := 12 + 12 * v) (c := 0) (by omega) (by decide) (by omega) (fun M2 e1 e2 e3 e4 => ⟨?_, ?_⟩), fun z => absurd z c⟩
    · rw [e2 42 (by decide)]; simp [rI]
    · have hr : RowAt M2 0 nl (ps v) (bs v) := by
        refine ((um.2 v (by omega)).of (M1 := wI M1 42 7 (nI v)) hn (fun j _ _ => by simp [rI])).mv hn (fun j hj => ?_)
        have := e4 j hj
        exact this
      refine coast_end (u2 := v) (ps2 := ps) (bs2 := bs) hc0 hD ⟨e1, fun q c1 c2 => ?_, fun j c1 c2 => ?_, fun j c1 => ?_, by simp [rI]⟩ gU gL ⟨?_, fun k hk => ?_⟩ ⟨?_, fun i hi => ?_⟩ ⟨by omega, fun k hk => u3.2 k (by omega)⟩
      · rw [wI_ne c1, e2 q c2, wI_ne c1]
      · simp [rI, c1, c2, e2 42 (by decide)]
      · simp [rI]
        have := e3 j (by omega)
        simpa [rI] using this
      · simp [rI, e2 42 (by decide)]
      · refine (um.2 k (by omega)).of hn (fun j q1 q2 => ?_)
        have := e3 j (by omega)
        simpa [rI] using this
      · simpa [rI, e2 42 (by decide)] using lm.1
      · have := hr i hi
        simpa [rI] using this
  · refine w_X9_undo ?_
    rw [u2.1]
    exact ⟨fun z => absurd c z, fun _ => ⟨rfl, hInv⟩⟩
theorem c_keptAt {d : Nat} {K : Option Nat → Mm → Prop} {x : Int32} (h1 : ∀ k, k < 2 → x = nI k → K (some (16 + 3 * k)) M) (h0 : ¬ (x = 0 ∨ x = 1) → K none M) : ACr (d + 1) X8_keptAt [.ref 0, .int x] M K :=
  w_X8_keptAt ⟨fun c => ⟨fun c2 => h0 (fun z => z.elim c c2), fun c2 => h1 1 (by decide) c2⟩, fun c => h1 0 (by decide) c⟩
theorem k01 {x : Int32} (h : x = 0 ∨ x = 1) : ∃ k, k < 2 ∧ x = nI k := by
  rcases h with rfl | rfl
  · exact ⟨0, by decide, rfl⟩
  · exact ⟨1, by decide, rfl⟩
theorem nk01 {x : Int32} {k : Nat} (hk : k < 2) (e : x = nI k) : x = 0 ∨ x = 1 := by
  match k, hk with
  | 0, _ => exact Or.inl e
  | 1, _ => exact Or.inr e
theorem bitsum (f : Nat → Bool) {n : Nat} (h : n ≤ 6) : bsN f n < 256 ∧ bsN f n < 2147483648 := by
  have := bsN_small (f := f) (n := n) (by omega)
  omega
theorem p_keep {v1 : Int32} (h : Inv M) : Pr X8_keep X9_keep [.int v1] M := by
  have hInv := h
  obtain ⟨b, w, sg, nr, nl, num, u, ps, bs, tp, tb, hc⟩ := h
  obtain ⟨⟨a1, a2, a3⟩, ⟨l1, l2⟩, ⟨u1, u2, u3⟩, t, kk, wa, tt, tx, ww⟩ := hc
  have hW := u3.2 u (Nat.le_refl _)
  have hn := hW.1
  have w7 := a3.2.2.2.2.2.2.1
  intro d
  refine w_X8_keep (c_keptAt (fun k hk e => ⟨fun z => (by cases z), fun a ea => ?_⟩) (fun hb => ⟨fun _ => ?_, fun a z => (by cases z)⟩))
  · cases ea
    have hli : isLi (16 + 3 * k) := by unfold isLi; omega
    refine ⟨hli, w_X2_become hli (by unfold isLi; omega) ?_⟩
    have ed : ∀ q, q ≠ 16 + 3 * k → q ≠ 16 + 3 * k + 1 → q ≠ 16 + 3 * k + 2 → (wI (cpI (cpI (wI M (16 + 3 * k) 0 (M.1 13 0)) (13 + 1) 0 (16 + 3 * k + 1) 0 6) (13 + 2) 0 (16 + 3 * k + 2) 0 6) (16 + 3 * k) 3 1).1 q = M.1 q := fun q c1 c2 c3 => by rw [wI_ne c1, cpI_ne c3, cpI_ne c2, wI_ne c1]
    have f0 : (wI (cpI (cpI (wI M (16 + 3 * k) 0 (M.1 13 0)) (13 + 1) 0 (16 + 3 * k + 1) 0 6) (13 + 2) 0 (16 + 3 * k + 2) 0 6) (16 + 3 * k) 3 1).1 (16 + 3 * k) 0 = nI nl := by
      simp [rI, rC, l1.1]
    have f3 : (wI (cpI (cpI (wI M (16 + 3 * k) 0 (M.1 13 0)) (13 + 1) 0 (16 + 3 * k + 1) 0 6) (13 + 2) 0 (16 + 3 * k + 2) 0 6) (16 + 3 * k) 3 1).1 (16 + 3 * k) 3 = 1 := by
      simp [rI]
    have f1 : ∀ i, i < nl → (wI (cpI (cpI (wI M (16 + 3 * k) 0 (M.1 13 0)) (13 + 1) 0 (16 + 3 * k + 1) 0 6) (13 + 2) 0 (16 + 3 * k + 2) 0 6) (16 + 3 * k) 3 1).1 (16 + 3 * k + 1) i = nI (ps u i) ∧ (wI (cpI (cpI (wI M (16 + 3 * k) 0 (M.1 13 0)) (13 + 1) 0 (16 + 3 * k + 1) 0 6) (13 + 2) 0 (16 + 3 * k + 2) 0 6) (16 + 3 * k) 3 1).1 (16 + 3 * k + 2) i = oi (bs u i) := by
      intro i hi
      have hi6 : i < 6 := by omega
      have n1 : ¬ 14 = 16 + 3 * k := by omega
      have n2 : ¬ 15 = 16 + 3 * k := by omega
      have n3 : ¬ 15 = 16 + 3 * k + 1 := by omega
      have := l1.2 i hi
      simp [rI, rC, hi6, n1, n2, n3, this.1, this.2]
    have fl : (wI (cpI (cpI (wI M (16 + 3 * k) 0 (M.1 13 0)) (13 + 1) 0 (16 + 3 * k + 1) 0 6) (13 + 2) 0 (16 + 3 * k + 2) 0 6) (16 + 3 * k) 3 1).2 = M.2 := rfl
    generalize wI (cpI (cpI (wI M (16 + 3 * k) 0 (M.1 13 0)) (13 + 1) 0 (16 + 3 * k + 1) 0 6) (13 + 2) 0 (16 + 3 * k + 2) 0 6) (16 + 3 * k) 3 1 = N at *
    have e1 : ∀ q, q < 16 ∨ 22 ≤ q → N.1 q = M.1 q := fun q c => ed q (by omega) (by omega) (by omega)
    have lc : LtC N nl (ps u) (bs u) := l1.of (by rw [e1 13 (by decide)]) (e1 14 (by decide)) (e1 15 (by decide))
    refine c_litC lc hW w7 (w_bc32 _ (bitsum _ hn).1 _ _ _ ?_)
    have e108 : (108 : Int32) + 12 * v1 = nI (108 + 12 * k) := by rw [e, m12]; exact nI_add 108 _
    refine w_X9_keep (c_in01 (fun _ => ⟨fun _ => ?_, fun z => absurd z (by decide)⟩) (fun z => absurd (nk01 hk e) z))
    rw [e108]
    refine c_copyRow (a := 0) (c := 108 + 12 * k) (by decide) (by omega) (by omega) (fun M2 g1 g2 g3 g4 => ⟨by rw [e]; exact vp_in_nI hk (by decide), ?_⟩)
    rw [e, nI_clamp (by omega)]
    have e2 : ∀ q, q ≠ 43 → q ≠ 45 → (q < 16 ∨ 22 ≤ q) → (wI M2 45 k 1).1 q = M.1 q := fun q c1 c2 c3 => by rw [wI_ne c2, g2 q c1, e1 q c3]
    have e43 : ∀ j, j < 108 + 12 * k ∨ 108 + 12 * k + 12 ≤ j → (wI M2 45 k 1).1 43 j = M.1 43 j := fun j c => by
      rw [wI_ne (by decide), g3 j c, e1 43 (by decide)]
    have lm : LtM (wI M2 45 k 1) nl (ps u) (bs u) := ⟨by rw [e2 42 (by decide) (by decide) (by decide)]; exact l2.1, fun i hi => by rw [e43 _ (by omega), e43 _ (by omega)]; exact l2.2 i hi⟩
    refine c_litM lm hW w7 (c_ones (bitsum _ hn).2 ⟨rfl, ?_⟩)
    refine ⟨b, w, sg, nr, nl, num, u, ps, bs, tp, tb, ⟨a1.of (e2 3 (by decide) (by decide) (by decide)) (e2 4 (by decide) (by decide) (by decide)), a2.of (fun j _ _ => by rw [e2 42 (by decide) (by decide) (by decide)]) (e2 44 (by decide) (by decide) (by decide)), a3⟩, ⟨l1.of (by rw [e2 13 (by decide) (by decide) (by decide)]) (e2 14 (by decide) (by decide) (by decide)) (e2 15 (by decide) (by decide) (by decide)), lm⟩, ⟨u1.of (by rw [e2 22 (by decide) (by decide) (by decide)]) (e2 23 (by decide) (by decide) (by decide)) (e2 24 (by decide) (by decide) (by decide)) (e2 25 (by decide) (by decide) (by decide)), ⟨by rw [e2 42 (by decide) (by decide) (by decide)]; exact u2.1, fun j hj => (u2.2 j hj).of hn (fun i _ _ => e43 i (by have := u3.1; omega))⟩, u3⟩, t.of (by rw [e2 5 (by decide) (by decide) (by decide)]) (e2 6 (by decide) (by decide) (by decide)) (e2 7 (by decide) (by decide) (by decide)) hn (fun j c1 c2 => e43 j (by omega)), fun k' hk' => ?_, wa.of (e2 34 (by decide) (by decide) (by decide)) (by rw [show (wI M2 45 k 1).2 = M.2 from g1.trans fl]) (by rw [e2 42 (by decide) (by decide) (by decide)]) (by rw [e2 42 (by decide) (by decide) (by decide)]) (e2 47 (by decide) (by decide) (by decide)) (e2 48 (by decide) (by decide) (by decide)) (e2 49 (by decide) (by decide) (by decide)), tt.of (fun q c1 c2 => e2 q (by omega) (by omega) (by omega)) (e2 50 (by decide) (by decide) (by decide)) (e2 51 (by decide) (by decide) (by decide)), tx.of (by rw [e2 1 (by decide) (by decide) (by decide)]) (e2 2 (by decide) (by decide) (by decide)) (by rw [e2 42 (by decide) (by decide) (by decide)]) (e2 46 (by decide) (by decide) (by decide)), ww.of (fun q c1 c2 => e2 q (by omega) (by omega) (by omega))⟩
    have e3 : ∀ q, q ≠ 43 → q ≠ 45 → (wI M2 45 k 1).1 q = N.1 q := fun q c1 c2 => by rw [wI_ne c2, g2 q c1]
    by_cases ek : k' = k
    · subst ek
      refine Or.inr ⟨?_, by simp [rI], ps u, bs u, ?_, fun i hi => ?_, ?_, hW⟩
      · rw [e3 _ (by omega) (by omega)]; exact f3
      · rw [e3 _ (by omega) (by omega)]; exact f0
      · rw [e3 _ (by omega) (by omega), e3 _ (by omega) (by omega)]; exact f1 i hi
      · refine (show RowAt M 0 nl (ps u) (bs u) from fun i hi => by simpa using l2.2 i hi).mv hn (fun j hj => ?_)
        rw [wI_ne (by decide), g4 j hj, e1 43 (by decide)]
    · have q := kk k' hk'
      rw [e3 (16 + 3 * k') (by omega) (by omega), e3 (16 + 3 * k' + 1) (by omega) (by omega), e3 (16 + 3 * k' + 2) (by omega) (by omega), ed _ (by omega) (by omega) (by omega), ed _ (by omega) (by omega) (by omega), ed _ (by omega) (by omega) (by omega)]
      have e45 : (wI M2 45 k 1).1 45 k' = M.1 45 k' := by simp [rI, ek, g2 45 (by decide), e1 45 (by decide)]
      rw [e45]
      rcases q with q | ⟨q1, q2, pk, bk, q3, q4, q5, q6⟩
      · exact Or.inl q
      · exact Or.inr ⟨q1, q2, pk, bk, q3, q4, q5.of hn (fun j _ _ => e43 j (by omega)), q6⟩
  · exact w_X9_keep (c_in01 (fun z => absurd z hb) (fun _ => ⟨fun z => absurd rfl z, fun _ => ⟨rfl, hInv⟩⟩))
theorem p_back {v1 : Int32} (h : Inv M) : Pr X8_back X9_back [.int v1] M := by
  have hInv := h
  obtain ⟨b, w, sg, nr, nl, num, u, ps, bs, tp, tb, hc⟩ := h
  have hc0 := hc
  obtain ⟨⟨a1, a2, a3⟩, ⟨l1, l2⟩, ⟨u1, u2, u3⟩, t, kk, wa, tt, tx, ww⟩ := hc
  have hn := (u3.2 u (Nat.le_refl _)).1
  have w7 := a3.2.2.2.2.2.2.1
  intro d
  refine w_X8_back (c_keptAt (fun k hk e => ⟨fun z => (by cases z), fun a ea => ?_⟩) (fun hb => ⟨fun _ => ?_, fun a z => (by cases z)⟩))
  · cases ea
    have hli : isLi (16 + 3 * k) := by unfold isLi; omega
    have et : v1.toNatClampNeg = k := by rw [e]; exact nI_clamp (by omega)
    have vk : vp_in v1 2 := by rw [e]; exact vp_in_nI hk (by decide)
    refine ⟨hli, fun c => ?_, fun c => ?_⟩
    · rcases kk k hk with ⟨q, -⟩ | ⟨q1, q2, pk, bk, q3, q4, q5, q6⟩
      · exact absurd q c
      refine w_X2_become (by unfold isLi; omega) hli (w_X7_end ?_)
      have hD : FrD M (wL (wI (wI (cpI (cpI (wI M 13 0 (M.1 (16 + 3 * k) 0)) (16 + 3 * k + 1) 0 (13 + 1) 0 6) (16 + 3 * k + 2) 0 (13 + 2) 0 6) 22 0 0) 34 0 0) 34 2 0) := by
        refine ⟨fun q c1 c2 c3 c4 c5 c6 c7 c8 => ?_, fun q c1 => wL_ne c1, by simp [rI, rL1], by simp [rL]⟩
        rw [rL1, wI_ne c8, wI_ne c4, cpI_ne c3, cpI_ne c2, wI_ne c1]
      have gL : LtC (wL (wI (wI (cpI (cpI (wI M 13 0 (M.1 (16 + 3 * k) 0)) (16 + 3 * k + 1) 0 (13 + 1) 0 6) (16 + 3 * k + 2) 0 (13 + 2) 0 6) 22 0 0) 34 0 0) 34 2 0) nl pk bk := by
        refine ⟨by simp [rI, rL1, rC, q3], fun i hi => ?_⟩
        have hi6 : i < 6 := by omega
        have n1 : ¬ 16 + 3 * k + 1 = 13 := by omega
        have n2 : ¬ 16 + 3 * k + 2 = 13 := by omega
        have n3 : ¬ 16 + 3 * k + 2 = 14 := by omega
        have := q4 i hi
        simp [rI, rL1, rC, hi6, n1, n2, n3, this.1, this.2]
      have gU : UnC (wL (wI (wI (cpI (cpI (wI M 13 0 (M.1 (16 + 3 * k) 0)) (16 + 3 * k + 1) 0 (13 + 1) 0 6) (16 + 3 * k + 2) 0 (13 + 2) 0 6) 22 0 0) 34 0 0) 34 2 0) nl 0 (fun _ => pk) (fun _ => bk) := ⟨by simp [rI, rL1]; rfl, fun k hk => absurd hk (by omega)⟩
      generalize wL (wI (wI (cpI (cpI (wI M 13 0 (M.1 (16 + 3 * k) 0)) (16 + 3 * k + 1) 0 (13 + 1) 0 6) (16 + 3 * k + 2) 0 (13 + 2) 0 6) 22 0 0) 34 0 0) 34 2 0 = M1 at hD gL gU ⊢
      refine c_litC gL q6 w7 (w_bc32 _ (bitsum _ hn).1 _ _ _ ?_)
      have e108 : (108 : Int32) + 12 * v1 = nI (108 + 12 * k) := by rw [e, m12]; exact nI_add 108 _
      have d45 : M1.1 45 = M.1 45 := hD.1 45 (by decide) (by decide) (by decide) (by decide) (by decide) (by decide) (by decide) (by decide)
      have d43 : M1.1 43 = M.1 43 := hD.1 43 (by decide) (by decide) (by decide) (by decide) (by decide) (by decide) (by decide) (by decide)
      refine w_X9_back (c_in01 (fun _ => ⟨fun _ => ⟨vk, ?_⟩, fun z => absurd z (by decide)⟩) (fun z => absurd (nk01 hk e) z))
      rw [et, d45, q2, e108]
      refine ⟨fun _ => c_copyRow (a := 108 + 12 * k) (c := 0) (by omega) (by decide) (by omega) (fun M2 g1 g2 g3 g4 => ?_), fun z => absurd z (by decide)⟩
      have hr : RowAt M2 0 nl pk bk := q5.mv hn (fun j hj => by rw [g4 j hj, d43])
      have lm : LtM (wI (wI M2 42 7 0) 42 11 0) nl pk bk := ⟨by
        have : M2.1 42 5 = nI nl := by rw [g2 42 (by decide)]; exact (l2.fr hD).1
        simpa [rI] using this, fun i hi => by
        have := hr i hi
        simpa [rI] using this⟩
      refine c_litM lm q6 w7 (c_ones (bitsum _ hn).2 ⟨rfl, ?_⟩)
      refine coast_end (u2 := 0) (ps2 := fun _ => pk) (bs2 := fun _ => bk) hc0 hD ⟨g1, fun q c1 c2 => ?_, fun j c1 c2 => ?_, fun j c1 => ?_, by simp [rI]⟩ gU gL ⟨by simp [rI]; rfl, fun k hk => absurd hk (by omega)⟩ lm ⟨by omega, fun _ _ => q6⟩
      · rw [wI_ne c1, wI_ne c1, g2 q c2]
      · simp [rI, c1, c2, g2 42 (by decide)]
      · simp [rI]; exact g3 j (by omega)
    · rcases kk k hk with ⟨q1, q2⟩ | ⟨q1, -⟩
      · refine w_X9_back (c_in01 (fun _ => ⟨fun _ => ⟨vk, ?_⟩, fun z => absurd z (by decide)⟩) (fun z => absurd (nk01 hk e) z))
        rw [et, q2]
        exact ⟨fun z => absurd rfl z, fun _ => ⟨rfl, hInv⟩⟩
      · rw [q1] at c; exact absurd c (by decide)
  · exact w_X9_back (c_in01 (fun z => absurd z hb) (fun _ => ⟨fun z => absurd rfl z, fun _ => ⟨rfl, hInv⟩⟩))
/-- only the text's cells have changed -/
theorem text_end (h : Inv M) (e1 : ∀ q, q ≠ 1 → q ≠ 2 → q ≠ 42 → q ≠ 46 → M1.1 q = M.1 q) (e2 : M1.2 = M.2) (e3 : ∀ j, j ≠ 10 → M1.1 42 j = M.1 42 j) (ht : TextI M1) : Inv M1 := by
  obtain ⟨b, w, sg, nr, nl, num, u, ps, bs, tp, tb, hc⟩ := h
  obtain ⟨⟨a1, a2, a3⟩, ⟨l1, l2⟩, ⟨u1, u2, u3⟩, t, kk, wa, tt, -, ww⟩ := hc
  have hn := (u3.2 u (Nat.le_refl _)).1
  have f : ∀ q, 3 ≤ q → q ≠ 42 → q ≠ 46 → M1.1 q = M.1 q := fun q c1 c2 c3 => e1 q (by omega) (by omega) c2 c3
  refine ⟨b, w, sg, nr, nl, num, u, ps, bs, tp, tb, ⟨a1.of (f 3 (by decide) (by decide) (by decide)) (f 4 (by decide) (by decide) (by decide)), a2.of (fun j _ _ => e3 j (by omega)) (f 44 (by decide) (by decide) (by decide)), a3⟩, ⟨l1.of (by rw [f 13 (by decide) (by decide) (by decide)]) (f 14 (by decide) (by decide) (by decide)) (f 15 (by decide) (by decide) (by decide)), l2.of (e3 5 (by decide)) (f 43 (by decide) (by decide) (by decide))⟩, ⟨u1.of (by rw [f 22 (by decide) (by decide) (by decide)]) (f 23 (by decide) (by decide) (by decide)) (f 24 (by decide) (by decide) (by decide)) (f 25 (by decide) (by decide) (by decide)), u2.of (e3 7 (by decide)) (f 43 (by decide) (by decide) (by decide)), u3⟩, t.of (by rw [f 5 (by decide) (by decide) (by decide)]) (f 6 (by decide) (by decide) (by decide)) (f 7 (by decide) (by decide) (by decide)) hn (fun j _ _ => by rw [f 43 (by decide) (by decide) (by decide)]), kk.of (fun q c1 c2 => f q (by omega) (by omega) (by omega)) (f 45 (by decide) (by decide) (by decide)) hn (fun j _ _ => by rw [f 43 (by decide) (by decide) (by decide)]), wa.of (f 34 (by decide) (by decide) (by decide)) (by rw [e2]) (e3 11 (by decide)) (e3 12 (by decide)) (f 47 (by decide) (by decide) (by decide)) (f 48 (by decide) (by decide) (by decide)) (f 49 (by decide) (by decide) (by decide)), tt.of (fun q c1 c2 => f q (by omega) (by omega) (by omega)) (f 50 (by decide) (by decide) (by decide)) (f 51 (by decide) (by decide) (by decide)), ht, ww.of (fun q c1 c2 => f q (by omega) (by omega) (by omega))⟩
theorem Inv.text (h : Inv M) : TextI M := by
  obtain ⟨b, w, sg, nr, nl, num, u, ps, bs, tp, tb, hc⟩ := h
  exact hc.2.2.2.2.2.2.2.1
theorem p_erase (h : Inv M) : Pr X8_erase X9_erase [] M := by
  obtain ⟨n, tx, t1, t2, t3, t4⟩ := h.text
  intro d
  refine w_X8_erase (w_X9_erase ⟨?_, text_end h (fun q c1 c2 c3 c4 => ?_) rfl (fun j c => ?_) ⟨0, tx, by omega, ?_, ?_, fun i hi => absurd hi (by omega)⟩⟩)
  · rw [t2]; simp [rI, t3]
  · rw [wI_ne c3, wI_ne c1]
  · simp [rI, c]
  · simp [rI]; rfl
  · simp [rI]; rfl
theorem p_write {v1 : Int32} (h : Inv M) : Pr X8_write X9_write [.int v1] M := by
  have h0 := h
  obtain ⟨n, tx, t1, t2, t3, t4⟩ := h.text
  have e255 : (255 : Int32).toInt = 255 := by decide
  intro d
  have out : (v1.toInt < 0 ∨ 255 < v1.toInt) → ∀ d, ACi (d + 9) X9_write [.ref 42, .int v1] M (fun r' M2 => -3 = r' ∧ Inv M2) := fun hz d => w_X9_write (c_in (l := 0) (u := 255) (by decide) (by decide) (fun a b => by omega) (fun _ => ⟨fun z => absurd rfl z, fun _ => ⟨rfl, h0⟩⟩))
  refine w_X8_write ⟨fun c => out (Or.inl (by rw [fa_lt, tI0] at c; exact c)) _, fun c => ⟨fun c2 => ?_, fun c2 => out (Or.inr (by rw [fa_le, e255] at c2; omega)) _⟩⟩
  rw [fa_lt, tI0] at c
  rw [fa_le, e255] at c2
  obtain ⟨x, hx, rfl⟩ := i_of (x := v1) (n := 256) (by omega) (by omega)
  have mod : ∀ (N : Mm) (K : Int32 → Mm → Prop) (d : Nat), N.1 42 10 = nI n → ((n ≠ 200 → K (nI (n + 1)) (wI (wI N 46 n (nI x)) 42 10 (nI (n + 1)))) ∧ (n = 200 → K (-5) N)) → ACi (d + 9) X9_write [.ref 42, .int (nI x)] N K := by
    intro N K d hN hk
    refine w_X9_write (c_in (l := 0) (u := 255) (by decide) (by decide) (fun _ _ => ⟨fun _ => ?_, fun z => absurd z (by decide)⟩) (fun z => absurd z (by rw [tN (by omega)]; omega)))
    have e200 : nI n = 200 ↔ n = 200 := nI_eq (b := 200) (by omega) (by decide)
    rw [hN, nI_1, nI_clamp (by omega), e200]
    exact ⟨fun z => ⟨vp_in_nI (by omega) (by decide), hk.1 z⟩, fun z => hk.2 z⟩
  rw [t2]
  refine ⟨fun c3 => ?_, fun c3 => ?_⟩
  · have hlt : n < 200 := (nI_ltI (b := 200) (by omega) (by decide)).mp c3
    refine w_X6_append ?_
    rw [t2, nI_1, nI_clamp (by omega)]
    refine ⟨fun z => absurd z (nI_ge (b := 200) hlt (by decide)), fun _ => ⟨vp_in_nI hlt (by decide), mod _ _ _ (by simp [rI, t3]) ⟨fun _ => ⟨by simp [rI], text_end h0 (fun q a1 a2 a3 a4 => ?_) rfl (fun j a => ?_) ⟨n + 1, fun i => if i = n then x else tx i, by omega, by simp [rI], by simp [rI], fun i hi => ?_⟩⟩, fun z => absurd z (by omega)⟩⟩⟩
    · rw [wI_ne a3, wI_ne a4, wI_ne a1, wI_ne a2]
    · simp [rI, a]
    · by_cases e : i = n
      · subst e; simp [rI]; exact hx
      · have := t4 i (by omega)
        simp [rI, e, this]
  · have h200 : n = 200 := by
      rcases Nat.lt_or_ge n 200 with q | q
      · exact absurd (nI_lt (b := 200) q (by decide)) c3
      · omega
    exact mod _ _ _ t3 ⟨fun z => absurd h200 z, fun _ => ⟨rfl, h0⟩⟩
/-- tapes over the invariant -/
theorem tape_end (h : Inv M) (ht : TapesI M1) (hf : TpFr M M1) : Inv M1 := by
  obtain ⟨b, w, sg, nr, nl, num, u, ps, bs, tp, tb, hc⟩ := h
  obtain ⟨⟨a1, a2, a3⟩, ⟨l1, l2⟩, ⟨u1, u2, u3⟩, t, kk, wa, -, tx, ww⟩ := hc
  have hn := (u3.2 u (Nat.le_refl _)).1
  have f : ∀ q, (q < 36 ∨ 42 ≤ q) → q ≠ 50 → q ≠ 51 → M1.1 q = M.1 q := hf.2
  refine ⟨b, w, sg, nr, nl, num, u, ps, bs, tp, tb, ⟨a1.of (f 3 (by decide) (by decide) (by decide)) (f 4 (by decide) (by decide) (by decide)), a2.of (fun j _ _ => by rw [f 42 (by decide) (by decide) (by decide)]) (f 44 (by decide) (by decide) (by decide)), a3⟩, ⟨l1.of (by rw [f 13 (by decide) (by decide) (by decide)]) (f 14 (by decide) (by decide) (by decide)) (f 15 (by decide) (by decide) (by decide)), l2.of (by rw [f 42 (by decide) (by decide) (by decide)]) (f 43 (by decide) (by decide) (by decide))⟩, ⟨u1.of (by rw [f 22 (by decide) (by decide) (by decide)]) (f 23 (by decide) (by decide) (by decide)) (f 24 (by decide) (by decide) (by decide)) (f 25 (by decide) (by decide) (by decide)), u2.of (by rw [f 42 (by decide) (by decide) (by decide)]) (f 43 (by decide) (by decide) (by decide)), u3⟩, t.of (by rw [f 5 (by decide) (by decide) (by decide)]) (f 6 (by decide) (by decide) (by decide)) (f 7 (by decide) (by decide) (by decide)) hn (fun j _ _ => by rw [f 43 (by decide) (by decide) (by decide)]), kk.of (fun q c1 c2 => f q (by omega) (by omega) (by omega)) (f 45 (by decide) (by decide) (by decide)) hn (fun j _ _ => by rw [f 43 (by decide) (by decide) (by decide)]), wa.of (f 34 (by decide) (by decide) (by decide)) (by rw [hf.1]) (by rw [f 42 (by decide) (by decide) (by decide)]) (by rw [f 42 (by decide) (by decide) (by decide)]) (f 47 (by decide) (by decide) (by decide)) (f 48 (by decide) (by decide) (by decide)) (f 49 (by decide) (by decide) (by decide)), ht, tx.of (by rw [f 1 (by decide) (by decide) (by decide)]) (f 2 (by decide) (by decide) (by decide)) (by rw [f 42 (by decide) (by decide) (by decide)]) (f 46 (by decide) (by decide) (by decide)), ww.of (fun q c1 c2 => f q (by omega) (by omega) (by omega))⟩
theorem Pr.ofT {X Y : Md} {vs : List Value} (h : Inv M) (hp : PrT X Y vs M) : Pr X Y vs M := fun d => ACi.mono (fun _ _ h1 => ACi.mono (fun _ _ h2 => ⟨h2.1, tape_end h h2.2.1 h2.2.2⟩) h1) (hp d)
theorem Inv.tapes (h : Inv M) : TapesI M := by
  obtain ⟨b, w, sg, nr, nl, num, u, ps, bs, tp, tb, hc⟩ := h
  exact hc.2.2.2.2.2.2.1
theorem q_tape {v1 : Int32} (h : Inv M) : Pr X8_tape X9_tape [.int v1] M := Pr.ofT h (tp_tape h.tapes)
theorem q_put {v1 v2 v3 : Int32} (h : Inv M) : Pr X8_put X9_put [.int v1, .int v2, .int v3] M := Pr.ofT h (tp_put h.tapes)
theorem q_draw {v1 v2 : Int32} (h : Inv M) : Pr X8_draw X9_draw [.int v1, .int v2] M := Pr.ofT h (tp_draw h.tapes)
theorem q_turn {v1 v2 : Int32} (h : Inv M) : Pr X8_turn X9_turn [.int v1, .int v2] M := Pr.ofT h (tp_turn h.tapes)
theorem q_find {v1 v2 v3 : Int32} (h : Inv M) : Pr X8_find X9_find [.int v1, .int v2, .int v3] M := Pr.ofT h (tp_find h.tapes)
theorem q_strike {v1 v2 : Int32} (h : Inv M) : Pr X8_strike X9_strike [.int v1, .int v2] M := Pr.ofT h (tp_strike h.tapes)
theorem q_drop {v1 : Int32} (h : Inv M) : Pr X8_drop X9_drop [.int v1] M := Pr.ofT h (tp_drop h.tapes)
theorem q_load {v1 v2 v3 : Int32} (h : Inv M) : Pr X8_load X9_load [.int v1, .int v2, .int v3] M := by
  have h0 := h
  obtain ⟨b, w, sg, nr, nl, num, u, ps, bs, tp, tb, hc⟩ := h
  exact Pr.ofT h0 (tp_load h0.tapes hc.1.1 hc.1.2.1 hc.1.2.2)
theorem q_rhythm {v1 v2 : Int32} (h : Inv M) : Pr X8_rhythm X9_rhythm [.int v1, .int v2] M := by
  have h0 := h
  obtain ⟨b, w, sg, nr, nl, num, u, ps, bs, tp, tb, hc⟩ := h
  exact Pr.of0 h0 (p_rhythm hc.1.1 hc.1.2.1 hc.1.2.2)
theorem q_light {v1 v2 : Int32} (h : Inv M) : Pr X8_light X9_light [.int v1, .int v2] M := by
  have h0 := h
  obtain ⟨b, w, sg, nr, nl, num, u, ps, bs, tp, tb, hc⟩ := h
  exact Pr.of0 h0 (p_light hc.1.1 hc.1.2.1 hc.1.2.2 hc.2.1.1 hc.2.1.2 (hc.2.2.1.2.2.2 u (Nat.le_refl _)))
theorem q_like {v1 v2 v3 : Int32} (h : Inv M) : Pr X8_like X9_like [.int v1, .int v2, .int v3] M := by
  have h0 := h
  obtain ⟨b, w, sg, nr, nl, num, u, ps, bs, tp, tb, hc⟩ := h
  exact Pr.of0 h0 (p_like hc.1.1 hc.1.2.1 hc.1.2.2)
theorem q_apart {v1 v2 : Int32} (h : Inv M) : Pr X8_apart X9_apart [.int v1, .int v2] M := by
  have h0 := h
  obtain ⟨b, w, sg, nr, nl, num, u, ps, bs, tp, tb, hc⟩ := h
  exact Pr.of0 h0 (p_apart hc.1.1 hc.1.2.1 hc.1.2.2)
end OP2
