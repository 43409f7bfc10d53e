/-! FAULT, OFFICE -/
section OF
variable {d : Nat} {M : Mm} {n : Nat} {tx : Nat → Nat} {s : BS}
theorem c_bookBecome {K : Mm → Prop} {a b : Nat} (hab : (a = 8 ∧ b = 3) ∨ (a = 3 ∧ b = 8)) (hK : ∀ M1, M1.2 = M.2 → (∀ q, q < a ∨ a + 4 < q → M1.1 q = M.1 q) → (∀ j, j < 4 → M1.1 a j = M.1 b j) → (∀ i, i < 8 → M1.1 (a + 1) i = M.1 (b + 1) i) → M1.1 (a + 2) 0 = M.1 (b + 2) 0 → (∀ i, i < 6 → M1.1 (a + 3) i = M.1 (b + 3) i ∧ M1.1 (a + 4) i = M.1 (b + 4) i) → K M1) : ACv (d + 2) X0_become [.ref a, .ref b] M K := by
  rcases hab with ⟨rfl, rfl⟩ | ⟨rfl, rfl⟩
  · refine w_X0_become (Or.inr rfl) (Or.inl rfl) (w_X2_become (Or.inr (Or.inl rfl)) (Or.inl rfl) (hK _ rfl (fun q c => ?_) (fun j hj => ?_) (fun i hi => ?_) ?_ (fun i hi => ⟨?_, ?_⟩)))
    · rw [cpI_ne (by omega), cpI_ne (by omega), wI_ne (by omega), cpI_ne (by omega), wI_ne (by omega), wI_ne (by omega), wI_ne (by omega), wI_ne (by omega)]
    · match j, hj with
      | 0, _ => simp [rI, rC]
      | 1, _ => simp [rI, rC]
      | 2, _ => simp [rI, rC]
      | 3, _ => simp [rI, rC]
    · simp [rI, rC, hi]
    · simp [rI, rC]
    · simp [rI, rC, hi]
    · simp [rI, rC, hi]
  · refine w_X0_become (Or.inl rfl) (Or.inr rfl) (w_X2_become (Or.inl rfl) (Or.inr (Or.inl rfl)) (hK _ rfl (fun q c => ?_) (fun j hj => ?_) (fun i hi => ?_) ?_ (fun i hi => ⟨?_, ?_⟩)))
    · rw [cpI_ne (by omega), cpI_ne (by omega), wI_ne (by omega), cpI_ne (by omega), wI_ne (by omega), wI_ne (by omega), wI_ne (by omega), wI_ne (by omega)]
    · match j, hj with
      | 0, _ => simp [rI, rC]
      | 1, _ => simp [rI, rC]
      | 2, _ => simp [rI, rC]
      | 3, _ => simp [rI, rC]
    · simp [rI, rC, hi]
    · simp [rI, rC]
    · simp [rI, rC, hi]
    · simp [rI, rC, hi]
theorem c_forget {K : Mm → Prop} (hK : ∀ M1, (∀ q, q ≠ 34 → M1.2 q = M.2 q) → M1.2 34 2 = 0 → (∀ q, q ≠ 16 → q ≠ 19 → q ≠ 22 → q ≠ 34 → q ≠ 36 → q ≠ 38 → q ≠ 40 → M1.1 q = M.1 q) → M1.1 34 0 = 0 → M1.1 22 0 = 0 → M1.1 16 3 = 0 → M1.1 19 3 = 0 → (∀ t, t < 3 → M1.1 (36 + 2 * t) 0 = 0 ∧ M1.1 (36 + 2 * t) 1 = 0) → K M1) : ACv (d + 2) X8_forgetWhatWasDone [.ref 0] M K := by
  refine w_X8_forgetWhatWasDone (w_X7_end ?_)
  have tp : ∀ t, t < 3 → isTp (36 + 2 * t) := by
    intro t ht
    match t, ht with
    | 0, _ => exact Or.inl rfl
    | 1, _ => exact Or.inr (Or.inl rfl)
    | 2, _ => exact Or.inr (Or.inr rfl)
  generalize hN0 : wI (wI (wI (wL (wI M 34 0 0) 34 2 0) 22 0 0) 16 3 0) 19 3 0 = N0
  have a2 : ∀ q, q ≠ 34 → N0.2 q = M.2 q := fun q h => by rw [← hN0, rI2, rI2, rI2, wL_ne h]; rfl
  have a3 : N0.2 34 2 = 0 := by rw [← hN0, rI2, rI2, rI2]; simp [rL]
  have a1 : ∀ q, q ≠ 16 → q ≠ 19 → q ≠ 22 → q ≠ 34 → N0.1 q = M.1 q := fun q b1 b2 b3 b4 => by rw [← hN0, wI_ne b2, wI_ne b1, wI_ne b3, rL1, wI_ne b4]
  have b34 : N0.1 34 0 = 0 := by rw [← hN0]; simp [rI, rL1]
  have b22 : N0.1 22 0 = 0 := by rw [← hN0]; simp [rI]
  have b16 : N0.1 16 3 = 0 := by rw [← hN0]; simp [rI]
  have b19 : N0.1 19 3 = 0 := by rw [← hN0]; simp [rI]
  have key : ∀ (j t : Nat) (N : Mm), t + j = 3 → N.2 = N0.2 → (∀ q, q ≠ 36 → q ≠ 38 → q ≠ 40 → N.1 q = N0.1 q) → (∀ t', t' < t → N.1 (36 + 2 * t') 0 = 0 ∧ N.1 (36 + 2 * t') 1 = 0) → lp_X8_forgetWhatWasDone_33 (d + 1) N (nI t) K := by
    intro j
    induction j with
    | zero =>
      intro t N ht g1 g2 g3
      have : t = 3 := by omega
      subst this
      refine z_X8_forgetWhatWasDone_33 ⟨fun _ => hK N (fun q h => by rw [g1]; exact a2 q h) (by rw [g1]; exact a3) (fun q c1 c2 c3 c4 c5 c6 c7 => (g2 q c5 c6 c7).trans (a1 q c1 c2 c3 c4)) ?_ ?_ ?_ ?_ g3, fun c => absurd (by decide) c⟩
      · rw [g2 34 (by decide) (by decide) (by decide)]; exact b34
      · rw [g2 22 (by decide) (by decide) (by decide)]; exact b22
      · rw [g2 16 (by decide) (by decide) (by decide)]; exact b16
      · rw [g2 19 (by decide) (by decide) (by decide)]; exact b19
    | succ j ih =>
      intro t N ht g1 g2 g3
      refine z_X8_forgetWhatWasDone_33 ⟨fun c => absurd c (nI_ge (b := 3) (by omega) (by omega)), fun _ => c_tapeAt (fun t' ht' e => ⟨fun z => absurd z (by simp), fun a ha => ?_⟩) (fun z => ?_)⟩
      · have : t = t' := (nI_eq (by omega) (by omega)).mp e
        subst this
        cases ha
        refine ⟨tp t ht', w_X5_vanish (tp t ht') ?_⟩
        rw [nI_1]
        refine ih (t + 1) _ (by omega) g1 (fun q c1 c2 c3 => ?_) (fun t' h' => ?_)
        · rw [wI_ne (by omega), wI_ne (by omega)]; exact g2 q c1 c2 c3
        · by_cases c : t' = t
          · subst c; simp [rI]
          · rw [wI_ne (by omega), wI_ne (by omega)]; exact g3 t' (by omega)
      · rw [tN (by omega)] at z; omega
  exact key 3 0 N0 (by omega) rfl (fun _ _ _ _ => rfl) (fun t' h' => absurd h' (by omega))
end OF
def sig0 (b w sg nr nl : Nat) (num tp : Nat → Nat) (tb : Nat → Option Nat) : BS := ((b, w, sg, nr, nl), num, tp, tb)
/-- the class hears what was told -/
theorem c_hear {d : Nat} {M : Mm} {K : Mm → Prop} {b w sg nr nl : Nat} {num tp : Nat → Nat} {tb : Nat → Option Nat} (hC : BkC M b w sg nr num) (hB : BkW b w sg nr num) (ht : ToldI M nr nl tp tb) (hK : ∀ M1, M1.2 = M.2 → (∀ q, q < 8 ∨ 12 < q → M1.1 q = M.1 q) → HdC M1 (sig0 b w sg nr nl num tp tb) → K M1) : ACv (d + 2) X0_become [.ref 8, .ref 3] M K := by
  obtain ⟨c0, c1, c2, c3, c4⟩ := hC
  obtain ⟨t1, t2, t3, t4, t5⟩ := ht
  have w7 := hB.2.2.2.2.2.2.1
  have hn := t5.1
  refine c_bookBecome (Or.inl ⟨rfl, rfl⟩) (fun M1 g1 g2 g3 g4 g5 g6 => hK M1 g1 (fun q c => g2 q (by omega)) ⟨?_, ?_, ?_, ?_, fun i hi => ?_, ?_, fun i hi => ?_⟩)
  · exact (g3 0 (by decide)).trans c0
  · exact (g3 1 (by decide)).trans c1
  · exact (g3 2 (by decide)).trans c2
  · exact (g3 3 (by decide)).trans c3
  · have hi2 : i < nr := hi
    exact (g4 i (by omega)).trans (c4 i hi2)
  · exact g5.trans t1
  · have hi2 : i < nl := hi
    exact ⟨(g6 i (by omega)).1.trans (t2 i hi2).1, (g6 i (by omega)).2.trans (t2 i hi2).2⟩
theorem q_fault {M : Mm} (h : Inv M) : Pr X8_fault X9_fault [] M := by
  have h0 := h
  obtain ⟨b, w, sg, nr, nl, num, u, ps, bs, tp, tb, hc⟩ := h
  obtain ⟨⟨a1, a2, a3⟩, ⟨l1, l2⟩, ⟨u1, u2, u3⟩, t, kk, wa, tt, tx, ww⟩ := hc
  obtain ⟨n, tx, x1, x2, x3, x4⟩ := tx
  have hbw : BSW (sig0 b w sg nr nl num tp tb) := ⟨a3, t.2.2.2.2⟩
  intro d
  refine w_X8_fault (c_hear a1 a3 t (fun M1 g1 g2 g3 => ?_))
  have hT : TxC M1 n tx := ⟨x1, by rw [g2 1 (by decide)]; exact x2, fun i hi => by rw [g2 2 (by decide)]; exact ⟨(x4 i hi).1, (x4 i hi).2.2⟩⟩
  -- the model, behind the class
  have modl : ∀ M2 (A : Int32), FrH M1 M2 → (∀ p, prF n tx 23 1 (sig0 b w sg nr nl num tp tb) 0 = .inl p → A = nI p) → (∀ q, prF n tx 23 1 (sig0 b w sg nr nl num tp tb) 0 = .inr q → A = -1) → ACi (d + 20) X9_fault [.ref 42] M2 (fun r' M3 => A = r' ∧ Inv M3) := by
    intro M2 A f hl hr
    have e1 : ∀ q, q ≠ 1 → (q < 8 ∨ 12 < q) → M2.1 q = M.1 q := fun q c1 c2 => (f.2.1 q c1 c2).trans (g2 q c2)
    have hT2 : TxM M2 n tx := ⟨x1, by rw [e1 42 (by decide) (by decide)]; exact x3, fun i hi => by rw [e1 46 (by decide) (by decide)]; exact ⟨(x4 i hi).2.1, (x4 i hi).2.2⟩⟩
    have fin : ∀ M3, FrR false M2 M3 → Inv M3 := fun M3 g => h0.scr (fun q b1 b2 b3 b4 b5 b6 => by
      by_cases c : q = 43 ∨ q = 44
      · rcases c with c | c
        · rw [c, (g.2.2.2.2 rfl).1]; exact e1 43 (by decide) (by decide)
        · rw [c, (g.2.2.2.2 rfl).2.1]; exact e1 44 (by decide) (by decide)
      · exact (g.2.1 q b4 (by omega) (by omega) b5).trans (e1 q b1 b2)) (by rw [g.1, f.1, g1]) (by rw [g.2.1 1 (by decide) (by decide) (by decide) (by decide), f.2.2 0 (by decide) (by decide) (by decide), g2 1 (by decide)]) (fun j hj => by rw [(g.2.2.2.2 rfl).2.2 j hj, e1 42 (by decide) (by decide)])
    refine w_X9_fault (c_reads (s := sig0 b w sg nr nl num tp tb) (dz := false) hT2 (ww.of (fun q c1 c2 => e1 q (by omega) (by omega))) (by rw [e1 42 (by decide) (by decide)]; exact a2.1) (by rw [e1 42 (by decide) (by decide)]; exact a2.2.2.2.1) (by rw [e1 42 (by decide) (by decide)]; exact l2.1) (fun z => absurd z (by decide)) hbw (fun M3 p y1 y2 y3 => ⟨fun _ => ?_, fun z => absurd rfl z⟩) (fun M3 q y1 y2 _ _ => ⟨fun z => absurd z (by decide), fun _ => ⟨hr q y2, fin M3 y1⟩⟩))
    rw [y3]
    exact ⟨hl p y2, fin M3 y1⟩
  refine c_readInto hT g3 hbw (fun M2 p f hp _ => modl M2 _ f (fun p' hp' => by rw [hp] at hp'; cases hp'; rfl) (fun q hq => by rw [hp] at hq; cases hq)) (fun M2 q f hq _ _ _ => modl M2 _ f (fun p hp => by rw [hq] at hp; cases hp) (fun _ _ => rfl))
theorem q_office {M : Mm} (h : Inv M) : Pr X8_office X9_office [] M := by
  have h0 := h
  obtain ⟨b, w, sg, nr, nl, num, u, ps, bs, tp, tb, hc⟩ := h
  obtain ⟨⟨a1, a2, a3⟩, ⟨l1, l2⟩, ⟨u1, u2, u3⟩, t, kk, wa, tt, tx, ww⟩ := hc
  obtain ⟨n, tx, x1, x2, x3, x4⟩ := tx
  have hbw : BSW (sig0 b w sg nr nl num tp tb) := ⟨a3, t.2.2.2.2⟩
  have hn6 := t.2.2.2.2.1
  intro d
  refine w_X8_office (c_hear a1 a3 t (fun M1 g1 g2 g3 => ?_))
  have hT : TxC M1 n tx := ⟨x1, by rw [g2 1 (by decide)]; exact x2, fun i hi => by rw [g2 2 (by decide)]; exact ⟨(x4 i hi).1, (x4 i hi).2.2⟩⟩
  refine c_readInto hT g3 hbw (fun M2 p f hp hpn => ⟨fun z => absurd z (m1n (by omega)), fun _ => ?_⟩) (fun M2 q f hq qw qh q11 => ⟨fun _ => ?_, fun z => absurd rfl z⟩)
  · -- a fault
    have e1 : ∀ q, q ≠ 1 → (q < 8 ∨ 12 < q) → M2.1 q = M.1 q := fun q c1 c2 => (f.2.1 q c1 c2).trans (g2 q c2)
    have hT2 : TxM M2 n tx := ⟨x1, by rw [e1 42 (by decide) (by decide)]; exact x3, fun i hi => by rw [e1 46 (by decide) (by decide)]; exact ⟨(x4 i hi).2.1, (x4 i hi).2.2⟩⟩
    refine w_X9_office (c_reads (s := sig0 b w sg nr nl num tp tb) (dz := false) hT2 (ww.of (fun q c1 c2 => e1 q (by omega) (by omega))) (by rw [e1 42 (by decide) (by decide)]; exact a2.1) (by rw [e1 42 (by decide) (by decide)]; exact a2.2.2.2.1) (by rw [e1 42 (by decide) (by decide)]; exact l2.1) (fun z => absurd z (by decide)) hbw (fun M3 p' y1 y2 y3 => ⟨fun z => absurd rfl z, fun _ => ⟨rfl, ?_⟩⟩) (fun M3 q y1 y2 _ _ => by rw [hp] at y2; cases y2))
    exact h0.scr (fun q b1 b2 b3 b4 b5 b6 => by
      by_cases c : q = 43 ∨ q = 44
      · rcases c with c | c
        · rw [c, (y1.2.2.2.2 rfl).1]; exact e1 43 (by decide) (by decide)
        · rw [c, (y1.2.2.2.2 rfl).2.1]; exact e1 44 (by decide) (by decide)
      · exact (y1.2.1 q b4 (by omega) (by omega) b5).trans (e1 q b1 b2)) (by rw [y1.1, f.1, g1]) (by rw [y1.2.1 1 (by decide) (by decide) (by decide) (by decide), f.2.2 0 (by decide) (by decide) (by decide), g2 1 (by decide)]) (fun j hj => by rw [(y1.2.2.2.2 rfl).2.2 j hj, e1 42 (by decide) (by decide)])
  · -- the office's new book
    obtain ⟨s, cl⟩ := q
    have e1 : ∀ q, q ≠ 1 → (q < 8 ∨ 12 < q) → M2.1 q = M.1 q := fun q c1 c2 => (f.2.1 q c1 c2).trans (g2 q c2)
    obtain ⟨z1, z2, z3, z4, z5, z6, z7⟩ := qh
    obtain ⟨bw, lw⟩ := qw
    have zr8 : zr s ≤ 8 := bw.2.2.2.2.2.2.1
    have zl6 : zl s ≤ 6 := lw.1
    refine c_bookBecome (Or.inr ⟨rfl, rfl⟩) (fun M3 k1 k2 k3 k4 k5 k6 => w_X2_become (Or.inr (Or.inr (Or.inl rfl))) (Or.inl rfl) (c_forget (fun M5 v1 v2 v3 v4 v5 v6 v7 v8 => ?_)))
    generalize hM4 : cpI (cpI (wI M3 13 0 (M3.1 5 0)) (5 + 1) 0 (13 + 1) 0 6) (5 + 2) 0 (13 + 2) 0 6 = M4 at *
    have o4 : ∀ q, q ≠ 13 → q ≠ 14 → q ≠ 15 → M4.1 q = M3.1 q := fun q c1 c2 c3 => by rw [← hM4, cpI_ne c3, cpI_ne c2, wI_ne c1]
    have n13 : M4.1 13 0 = nI (zl s) := by rw [← hM4]; simp [rI, rC]; exact k5.trans z6
    have n14 : ∀ i, i < zl s → M4.1 14 i = nI (zp s i) ∧ M4.1 15 i = oi (zo s i) := fun i hi => by
      have i6 : i < 6 := by omega
      have := z7 i hi
      rw [← hM4]
      refine ⟨?_, ?_⟩
      · simp [rI, rC, i6]; exact (k6 i i6).1.trans this.1
      · simp [rI, rC, i6]; exact (k6 i i6).2.trans this.2
    -- all that the class's memory says now
    have o5 : ∀ q, q ≠ 16 → q ≠ 19 → q ≠ 22 → q ≠ 34 → q ≠ 36 → q ≠ 38 → q ≠ 40 → q ≠ 13 → q ≠ 14 → q ≠ 15 → (q < 3 ∨ 7 < q) → M5.1 q = M2.1 q := fun q c1 c2 c3 c4 c5 c6 c7 c8 c9 c10 c11 => (v3 q c1 c2 c3 c4 c5 c6 c7).trans ((o4 q c8 c9 c10).trans (k2 q (by omega)))
    have m5 : ∀ q, 42 ≤ q → M5.1 q = M.1 q := fun q c => (o5 q (by omega) (by omega) (by omega) (by omega) (by omega) (by omega) (by omega) (by omega) (by omega) (by omega) (by omega)).trans (e1 q (by omega) (by omega))
    have b5 : ∀ q, 3 ≤ q → q ≤ 7 → M5.1 q = M3.1 q := fun q c1 c2 => (v3 q (by omega) (by omega) (by omega) (by omega) (by omega) (by omega) (by omega)).trans (o4 q (by omega) (by omega) (by omega))
    have c11 : M5.1 1 1 = nI cl := (by rw [o5 1 (by decide) (by decide) (by decide) (by decide) (by decide) (by decide) (by decide) (by decide) (by decide) (by decide) (by decide)]; exact q11)
    rw [c11]
    generalize hM6 : wI M5 1 0 0 = M6
    have o6 : ∀ q, q ≠ 1 → M6.1 q = M5.1 q := fun q c => by rw [← hM6, wI_ne c]
    have m6 : ∀ q, 42 ≤ q → M6.1 q = M.1 q := fun q c => (o6 q (by omega)).trans (m5 q c)
    have hT6 : TxM M6 n tx := ⟨x1, by rw [m6 42 (by decide)]; exact x3, fun i hi => by rw [m6 46 (by decide)]; exact ⟨(x4 i hi).2.1, (x4 i hi).2.2⟩⟩
    have ww6 : WordsI M6 := ww.of (fun q c1 c2 => m6 q (by omega))
    refine w_X9_office (c_reads (s := sig0 b w sg nr nl num tp tb) (dz := false) hT6 ww6 (by rw [m6 42 (by decide)]; exact a2.1) (by rw [m6 42 (by decide)]; exact a2.2.2.2.1) (by rw [m6 42 (by decide)]; exact l2.1) (fun z => absurd z (by decide)) hbw (fun M7 p y1 y2 y3 => by rw [hq] at y2; cases y2) (fun M7 q' y1 y2 _ _ => ⟨fun _ => ?_, fun z => absurd z (by decide)⟩))
    -- the told row comes ahead
    have r7 : M7.1 43 = M.1 43 := (y1.2.2.2.2 rfl).1.trans (m6 43 (by decide))
    refine c_copyRow (a := 132) (c := 0) (by decide) (by decide) (by decide) (fun M8 i1 i2 i3 i4 => ?_)
    have f8 : ∀ q, q ≠ 42 → q ≠ 43 → q ≠ 44 → q ≠ 52 → M8.1 q = M6.1 q := fun q c1 c2 c3 c4 => (i2 q c2).trans (y1.2.1 q c1 c2 c3 c4)
    have j8 : ∀ j, j < 18 → M8.1 42 j = M.1 42 j := fun j hj => by rw [i2 42 (by decide), (y1.2.2.2.2 rfl).2.2 j hj, m6 42 (by decide)]
    have d8 : MdD M8 (sig0 b w sg nr nl num tp tb) := by
      refine ⟨(j8 1 (by decide)).trans a2.1, (j8 2 (by decide)).trans a2.2.1, (j8 3 (by decide)).trans a2.2.2.1, (j8 4 (by decide)).trans a2.2.2.2.1, fun i hi => ?_, (j8 5 (by decide)).trans l2.1, fun i hi => ?_, fun i c1 c2 => ?_⟩
      · rw [i2 44 (by decide), (y1.2.2.2.2 rfl).2.1, m6 44 (by decide)]; exact a2.2.2.2.2 i hi
      · have hi2 : i < nl := hi
        have q1 := i4 i (by omega)
        have q2 := i4 (6 + i) (by omega)
        rw [Nat.zero_add] at q1 q2
        rw [q1, q2, r7, ← Nat.add_assoc]
        exact t.2.2.1 i hi2
      · have c1' : nl ≤ i := c1
        have q2 := i4 (6 + i) (by omega)
        rw [Nat.zero_add] at q2
        rw [q2, r7, ← Nat.add_assoc]
        exact t.2.2.2.1 i c1' c2
    have hT8 : TxM M8 n tx := ⟨x1, (j8 10 (by decide)).trans x3, fun i hi => by rw [f8 46 (by decide) (by decide) (by decide) (by decide), m6 46 (by decide)]; exact ⟨(x4 i hi).2.1, (x4 i hi).2.2⟩⟩
    refine c_reads (s := sig0 b w sg nr nl num tp tb) (dz := true) hT8 (ww6.of (fun q c1 c2 => f8 q (by omega) (by omega) (by omega) (by omega))) d8.1 d8.2.2.2.1 d8.2.2.2.2.2.1 (fun _ => d8) hbw (fun M9 p w1 w2 w3 => by rw [hq] at w2; cases w2) (fun M9 q9 w1 w2 w3 w4 => ?_)
    rw [hq] at w2
    cases w2
    obtain ⟨p1, p2, p3, p4, p5, p6, p7, p8⟩ := w3 rfl
    refine c_copyRow (a := 0) (c := 132) (by decide) (by decide) (by decide) (fun M10 s1 s2 s3 s4 => ?_)
    generalize hM11 : wI (wI (wI (wI (wI M10 42 10 0) 42 7 0) 45 0 0) 45 1 0) 42 11 0 = M11
    have o11 : ∀ q, q ≠ 42 → q ≠ 45 → M11.1 q = M10.1 q := fun q c1 c2 => by rw [← hM11, wI_ne c1, wI_ne c2, wI_ne c2, wI_ne c1, wI_ne c1]
    have j11 : ∀ j, j ≠ 7 → j ≠ 10 → j ≠ 11 → M11.1 42 j = M10.1 42 j := fun j c1 c2 c3 => by rw [← hM11]; simp [rI, c1, c2, c3]
    have k7 : M11.1 42 7 = 0 := by rw [← hM11]; simp [rI]
    have k10 : M11.1 42 10 = 0 := by rw [← hM11]; simp [rI]
    have k11 : M11.1 42 11 = 0 := by rw [← hM11]; simp [rI]
    have k45 : ∀ k, k < 2 → M11.1 45 k = 0 := fun k hk => by
      rw [← hM11]
      match k, hk with
      | 0, _ => simp [rI]
      | 1, _ => simp [rI]
    have l11 : M11.2 = M6.2 := by rw [← hM11]; show M10.2 = _; rw [s1, w1.1, i1, y1.1]
    -- the class's cells, as they are at the end
    have cc : ∀ q, q < 42 → M11.1 q = M6.1 q := fun q c => by
      rw [o11 q (by omega) (by omega), s2 q (by omega), w1.2.1 q (by omega) (by omega) (by omega) (by omega)]
      exact f8 q (by omega) (by omega) (by omega) (by omega)
    have c42 : ∀ j, 1 ≤ j → j ≤ 5 → M11.1 42 j = M9.1 42 j := fun j c1 c2 => by rw [j11 j (by omega) (by omega) (by omega), s2 42 (by decide)]
    have fin : ∀ M12 : Mm, M12.2 = M11.2 → (∀ q, q ≠ 50 → M12.1 q = M11.1 q) → (∀ t', t' < 3 → M12.1 50 t' = -1) → Inv M12 := by
      intro M12 h2 h1 h50
      have cM : ∀ q, q < 42 → M12.1 q = M6.1 q := fun q c => (h1 q (by omega)).trans (cc q c)
      have c5 : ∀ q, q < 42 → q ≠ 1 → M12.1 q = M5.1 q := fun q c1 c2 => (cM q c1).trans (o6 q c2)
      have c3 : ∀ q, 3 ≤ q → q ≤ 7 → M12.1 q = M3.1 q := fun q c1 c2 => (c5 q (by omega) (by omega)).trans (b5 q c1 c2)
      have c13 : ∀ q, 13 ≤ q → q ≤ 15 → M12.1 q = M4.1 q := fun q c1 c2 => (c5 q (by omega) (by omega)).trans (v3 q (by omega) (by omega) (by omega) (by omega) (by omega) (by omega) (by omega))
      have r0 : ∀ j, j < 12 → M12.1 43 j = M9.1 43 j := fun j hj => by rw [h1 43 (by decide), o11 43 (by decide) (by decide), s3 j (by omega)]
      have r132 : ∀ j, j < 12 → M12.1 43 (132 + j) = M9.1 43 j := fun j hj => by
        have := s4 j hj
        rw [Nat.zero_add] at this
        rw [h1 43 (by decide), o11 43 (by decide) (by decide), this]
      have m42 : ∀ j, 1 ≤ j → j ≤ 5 → M12.1 42 j = M9.1 42 j := fun j a c => by rw [h1 42 (by decide)]; exact c42 j a c
      refine ⟨zb s, zw s, zg s, zr s, zl s, zn s, 0, fun _ => zp s, fun _ => zo s, zp s, zo s, ⟨⟨?_, ?_, ?_, ?_, fun i hi => ?_⟩, ⟨(m42 1 (by decide) (by decide)).trans p1, (m42 2 (by decide) (by decide)).trans p2, (m42 3 (by decide) (by decide)).trans p3, (m42 4 (by decide) (by decide)).trans p4, fun i hi => ?_⟩, bw⟩, ⟨⟨?_, fun i hi => ?_⟩, ⟨(m42 5 (by decide) (by decide)).trans p6, fun i hi => ?_⟩⟩, ⟨⟨?_, fun k hk => absurd hk (Nat.not_lt_zero _)⟩, ⟨?_, fun k hk => absurd hk (Nat.not_lt_zero _)⟩, ⟨by decide, fun k _ => lw⟩⟩, ⟨?_, fun i hi => ?_, fun i hi => ?_, fun i c1 c2 => ?_, lw⟩, fun k hk => Or.inl ⟨?_, ?_⟩, Or.inl ⟨?_, ?_, ?_⟩, fun t' ht' => ⟨false, [], ⟨?_, ?_, by decide, fun i hi => absurd hi (Nat.not_lt_zero _)⟩, ⟨?_, by decide, fun i hi => absurd hi (Nat.not_lt_zero _)⟩, fun _ => rfl, fun x hx => absurd hx (by simp)⟩, ⟨0, tx, by decide, ?_, ?_, fun i hi => absurd hi (Nat.not_lt_zero _)⟩, ?_⟩
      · rw [c3 3 (by decide) (by decide), k3 0 (by decide)]; exact z1
      · rw [c3 3 (by decide) (by decide), k3 1 (by decide)]; exact z2
      · rw [c3 3 (by decide) (by decide), k3 2 (by decide)]; exact z3
      · rw [c3 3 (by decide) (by decide), k3 3 (by decide)]; exact z4
      · rw [c3 4 (by decide) (by decide), k4 i (by omega)]; exact z5 i hi
      · rw [h1 44 (by decide), o11 44 (by decide) (by decide), s2 44 (by decide)]; exact p5 i hi
      · rw [c13 13 (by decide) (by decide)]; exact n13
      · rw [c13 14 (by decide) (by decide), c13 15 (by decide) (by decide)]; exact n14 i hi
      · rw [r0 i (by omega), r0 (6 + i) (by omega)]; exact p7 i hi
      · rw [c5 22 (by decide) (by decide)]; exact v5
      · rw [h1 42 (by decide)]; exact k7
      · rw [c3 5 (by decide) (by decide), k5]; exact z6
      · rw [c3 6 (by decide) (by decide), c3 7 (by decide) (by decide), (k6 i (by omega)).1, (k6 i (by omega)).2]; exact z7 i hi
      · rw [r132 i (by omega), Nat.add_assoc, r132 (6 + i) (by omega)]; exact p7 i hi
      · rw [Nat.add_assoc, r132 (6 + i) (by omega)]; exact p8 i c1 c2
      · match k, hk with
        | 0, _ => rw [c5 _ (by decide) (by decide)]; exact v6
        | 1, _ => rw [c5 _ (by decide) (by decide)]; exact v7
      · rw [h1 45 (by decide)]; exact k45 k hk
      · rw [c5 34 (by decide) (by decide)]; exact v4
      · rw [h2, l11, ← hM6]; exact v2
      · rw [h1 42 (by decide)]; exact k11
      · rw [c5 _ (by omega) (by omega)]; exact (v8 t' ht').1
      · rw [c5 _ (by omega) (by omega)]; exact (v8 t' ht').2
      · rw [h50 t' ht']; rfl
      · rw [cM 1 (by decide), ← hM6]; simp [rI]; rfl
      · rw [h1 42 (by decide)]; exact k10
      · exact ww6.of (fun q c1 c2 => by
          rw [h1 q (by omega), o11 q (by omega) (by omega), s2 q (by omega), w1.2.1 q (by omega) (by omega) (by omega) (by omega)]
          exact f8 q (by omega) (by omega) (by omega) (by omega))
    have key : ∀ (j t' : Nat) (N : Mm), t' + j = 3 → N.2 = M11.2 → (∀ q, q ≠ 50 → N.1 q = M11.1 q) → (∀ i, i < t' → N.1 50 i = -1) → lp_X9_office_64 (d + 19) N (nI t') (fun r' M2 => nI cl = r' ∧ Inv M2) := by
      intro j
      induction j with
      | zero =>
        intro t' N ht h2 h1 h50
        have : t' = 3 := by omega
        subst this
        refine z_X9_office_64 ⟨fun _ => ⟨?_, fin N h2 h1 h50⟩, fun c => absurd (by decide) c⟩
        rw [h1 42 (by decide), j11 23 (by decide) (by decide) (by decide), s2 42 (by decide)]
        exact w4.symm
      | succ j ih =>
        intro t' N ht h2 h1 h50
        refine z_X9_office_64 ⟨fun c => absurd c (nI_ge (b := 3) (by omega) (by omega)), fun _ => ⟨vp_in_nI (by omega) (by decide), ?_⟩⟩
        rw [nI_clamp (by omega), nI_1]
        refine ih (t' + 1) _ (by omega) h2 (fun q hq => by rw [wI_ne hq]; exact h1 q hq) (fun i hi => ?_)
        by_cases c : i = t'
        · subst c; simp [rI]
        · simp [rI, c]; exact h50 i (by omega)
    exact key 3 0 M11 (by omega) rfl (fun _ _ => rfl) (fun i hi => absurd hi (by omega))
