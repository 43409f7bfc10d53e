/-! READING, the model's: a clause, the whole text. -/
def trW (N : Mm) (b r l : Nat) : Mm := wI (wI (wI N 42 20 (nI b)) 42 21 (nI r)) 42 22 (nI l)
theorem trW_f {dz : Bool} {N : Mm} {b r l : Nat} : FrR dz N (trW N b r l) := ((FrR.w1 (by decide)).tr (FrR.w1 (by decide))).tr (FrR.w1 (by decide))
theorem trW_o {N : Mm} {b r l q : Nat} (h : q ≠ 42) : (trW N b r l).1 q = N.1 q := by unfold trW; rw [wI_ne h, wI_ne h, wI_ne h]
theorem trW_j {N : Mm} {b r l j : Nat} (h0 : j ≠ 20) (h1 : j ≠ 21) (h2 : j ≠ 22) : (trW N b r l).1 42 j = N.1 42 j := by unfold trW; simp [rI, h0, h1, h2]
theorem trW_t {N : Mm} {b r l : Nat} : (trW N b r l).1 42 20 = nI b ∧ (trW N b r l).1 42 21 = nI r ∧ (trW N b r l).1 42 22 = nI l := by unfold trW; simp [rI]
theorem MdD.trW {N : Mm} {b r l : Nat} {s : BS} (h : MdD N s) : MdD (trW N b r l) s := by
  obtain ⟨h1, h2, h3, h4, h5, h6, h7, h8⟩ := h
  exact ⟨by rw [trW_j (by decide) (by decide) (by decide)]; exact h1, by rw [trW_j (by decide) (by decide) (by decide)]; exact h2, by rw [trW_j (by decide) (by decide) (by decide)]; exact h3, by rw [trW_j (by decide) (by decide) (by decide)]; exact h4, fun i hi => by rw [trW_o (by decide)]; exact h5 i hi, by rw [trW_j (by decide) (by decide) (by decide)]; exact h6, fun i hi => by rw [trW_o (by decide)]; exact h7 i hi, fun i a c => by rw [trW_o (by decide)]; exact h8 i a c⟩
def nrW (w : Nat) (s : BS) : Nat := if w = 0 then 0 else if w = 3 then zr s + 1 else zr s
def nlW (w : Nat) (s : BS) : Nat := if w = 0 then 0 else if w = 4 then zl s + 1 else zl s
section RX
variable {d : Nat} {M : Mm} {n : Nat} {tx : Nat → Nat} {s : BS} {dz : Bool}
theorem c_tail {K : Int32 → Mm → Prop} {w b' : Nat} {N : Mm} (hw : w ≤ 5) (hT : TrM N s dz) (h0 : dz = false → K 1 (trW N b' (nrW w s) (nlW w s))) (h1 : dz = true → ACv d X9_does [.ref 42, .int (nI w)] (trW N b' (nrW w s) (nlW w s)) (fun M1 => K 1 M1)) : lp_X9_readsClause_72 d N (nI w) (nI b') K := by
  obtain ⟨t1, t2, t3, t4⟩ := hT
  have e3 : nI w = 3 ↔ w = 3 := nI_eq (b := 3) (by omega) (by decide)
  have e4 : nI w = 4 ↔ w = 4 := nI_eq (b := 4) (by omega) (by decide)
  have r24 : (wI N 42 20 (nI b')).1 42 24 = if dz then 1 else 0 := by simp [rI, t4]
  have r22 : (wI N 42 20 (nI b')).1 42 22 = nI (zl s) := by simp [rI, t3]
  -- behind the second of the three
  have at102 : ∀ r', nrW w s = r' → lp_X9_readsClause_102 d (wI N 42 20 (nI b')) (nI w) (nI r') K := by
    intro r' hr
    have fin : ∀ l', nlW w s = l' → ((wI N 42 20 (nI b')).1 42 24 = 0 → (K 1 (wI (wI (wI N 42 20 (nI b')) 42 21 (nI r')) 42 22 (nI l')))) ∧ (¬ (wI N 42 20 (nI b')).1 42 24 = 0 → (ACv d X9_does [.ref 42, .int (nI w)] (wI (wI (wI N 42 20 (nI b')) 42 21 (nI r')) 42 22 (nI l')) (fun M1 => K 1 M1))) := by
      intro l' hl
      rw [r24]
      unfold trW at h0 h1
      rw [hr, hl] at h0 h1
      cases dz with
      | false => exact ⟨fun _ => h0 rfl, fun z => absurd rfl z⟩
      | true => exact ⟨fun z => absurd z (by decide), fun _ => h1 rfl⟩
    refine z_X9_readsClause_102 ?_
    rw [r22, nz (by omega), e4, nI_1]
    refine ⟨fun c0 => ⟨fun c4 => fin _ (by unfold nlW; rw [if_neg c0, if_neg c4]), fun c4 => fin _ (by unfold nlW; rw [if_neg c0, if_pos c4])⟩, fun c0 => ?_⟩
    have := fin 0 (by unfold nlW; rw [if_pos c0])
    exact this
  refine z_X9_readsClause_72 ?_
  rw [t2, nz (by omega), e3, nI_1]
  refine ⟨fun c0 => ⟨fun c3 => at102 _ (by unfold nrW; rw [if_neg c0, if_neg c3]), fun c3 => at102 _ (by unfold nrW; rw [if_neg c0, if_pos c3])⟩, fun c0 => ?_⟩
  have := at102 0 (by unfold nrW; rw [if_pos c0])
  exact this
theorem c_readsClause {K : Int32 → Mm → Prop} {f e : Nat} (hT : TxM M n tx) (hWd : WordsI M) (hTr : TrM M s dz) (hD : dz = true → MdD M s) (hw : BSW s) (hf : f ≤ e) (he : e ≤ n) (h18 : M.1 42 18 = nI f) (h19 : M.1 42 19 = nI e) (k0 : ∀ M1 p, FrR dz M M1 → clF n tx s f e = .inl p → M1.1 42 18 = nI p → K 0 M1) (k1 : ∀ M1 q, FrR dz M M1 → clF n tx s f e = .inr q → TrM M1 q.1 dz → (dz = true → MdD M1 q.1) → M1.1 42 18 = nI (tf n tx q.2) → M1.1 42 19 = nI (te n tx q.2) → M1.1 42 23 = M.1 42 23 → K 1 M1) : ACi (d + 8) X9_readsClause [.ref 42] M K := by
  have n200 := hT.1
  obtain ⟨⟨w1, w2, w3, w4, w5, w6, w7, w8⟩, m1, m2⟩ := hw
  have t1 := (te_le (tx := tx) he).1
  have isw : ∀ (k : Nat) (K' : Int32 → Mm → Prop), k < 6 → (isW tx k f e → K' 1 M) → (¬ isW tx k f e → K' 0 M) → ACi (d + 6) X9_isWord [.ref 42, .ref (53 + k)] M K' := fun k K' hk p1 p0 => c_isWordM hk hT hWd h18 h19 hf he p1 p0
  -- the word is known: on to the rest
  have lp24 : ∀ w, w ≤ 5 → (w = 4 → ¬ zl s = 6) → (∀ M1, FrN M M1 → M1.1 42 18 = nI (tf n tx e) → M1.1 42 19 = nI (te n tx e) → ACi (d + 7) X9_readsRest [.ref 42, .int (nI w)] M1 (fun r2 M2 => (¬ r2 = 0 → ((¬ nI w = 0 → (lp_X9_readsClause_72 (d + 7) M2 (nI w) (M2.1 42 20) K)) ∧ (nI w = 0 → (lp_X9_readsClause_72 (d + 7) M2 (nI w) (M2.1 52 0) K)))) ∧ (r2 = 0 → (K 0 M2)))) → lp_X9_readsClause_24 (d + 7) M (nI w) K := by
    intro w hw5 hw4 hr
    have e4 : nI w = 4 ↔ w = 4 := nI_eq (b := 4) (by omega) (by decide)
    refine z_X9_readsClause_24 ?_
    rw [e4, hTr.2.2.1, show (6 : Int32) = nI 6 from rfl, nI_eq (by omega) (by decide)]
    exact ⟨fun _ => c_nextToken hT he h19 (fun M1 g1 g2 g3 => hr M1 g1 g2 g3), fun c => ⟨fun _ => c_nextToken hT he h19 (fun M1 g1 g2 g3 => hr M1 g1 g2 g3), fun c6 => absurd c6 (hw4 c)⟩⟩
  -- what is known behind a number or a rhythm was read
  have base : ∀ M1 N, FrN M M1 → FrK M1 N → FrR dz M N ∧ TrM N s dz ∧ (dz = true → MdD N s) ∧ N.1 42 23 = M.1 42 23 := fun M1 N g1 g2 => ⟨g1.r.tr g2.r, (hTr.k g1.k).k g2, fun z => ((hD z).k g1.k).k g2, (g2.2.2 23 (by decide) (by decide)).trans (g1.2.2 23 (by decide) (by decide))⟩
  refine w_X9_readsClause (w_X9_wordHere (isw 0 _ (by decide) (fun c0 => ⟨fun z => absurd z (by decide), fun _ => ?_⟩) (fun c0 => ⟨fun _ => isw 1 _ (by decide) (fun c1 => ⟨fun z => absurd z (by decide), fun _ => ?_⟩) (fun c1 => ⟨fun _ => isw 2 _ (by decide) (fun c2 => ⟨fun z => absurd z (by decide), fun _ => ?_⟩) (fun c2 => ⟨fun _ => isw 3 _ (by decide) (fun c3 => ⟨fun z => absurd z (by decide), fun _ => ?_⟩) (fun c3 => ⟨fun _ => isw 4 _ (by decide) (fun c4 => ⟨fun z => absurd z (by decide), fun _ => ?_⟩) (fun c4 => ⟨fun _ => isw 5 _ (by decide) (fun c5 => ⟨fun z => absurd z (by decide), fun _ => ?_⟩) (fun c5 => ⟨fun _ => ?_, fun z => absurd rfl z⟩), fun z => absurd rfl z⟩), fun z => absurd rfl z⟩), fun z => absurd rfl z⟩), fun z => absurd rfl z⟩), fun z => absurd rfl z⟩)))
  · -- beats
    have hc := clF0 (n := n) (s := s) c0
    refine ⟨fun z => absurd z (by decide), fun _ => ⟨fun _ => lp24 0 (by decide) (fun z => absurd z (by decide)) (fun M1 g1 g2 g3 => ?_), fun z => absurd z (by decide)⟩⟩
    refine w_X9_readsRest ⟨fun _ => c_number (kk := 0) (lo := 3) (h1 := 9) (hT.fr g1) he g2 g3 (by decide) (by decide) (by decide) (fun N v y1 hv y2 _ y3 y4 => ⟨Or.inr rfl, fun _ => ⟨fun z => absurd rfl z, fun _ => ?_⟩, fun z => absurd z (by decide)⟩) (fun hv => ⟨Or.inl rfl, fun z => absurd rfl z, fun _ => k0 M1 _ g1.r (by rw [hc, onN_n hv]) g2⟩), fun z => absurd z (by decide), fun z => absurd z (by decide), fun z => absurd z (by decide), fun z => absurd z (by decide), fun z => absurd z (by decide)⟩
    have l := numR_s hv
    obtain ⟨b1, b2, b3, b4⟩ := base M1 N g1 y1
    have cl : clF n tx s f e = .inr (uAnew v s, te n tx e) := by rw [hc, onN_s hv]
    rw [y2]
    refine c_tail (s := s) (dz := dz) (w := 0) (by decide) b2 (fun z => k1 _ (uAnew v s, te n tx e) (b1.tr trW_f) cl ⟨trW_t.1, trW_t.2.1, trW_t.2.2, by rw [trW_j (by decide) (by decide) (by decide)]; exact b2.2.2.2⟩ (fun y => absurd (z.symm.trans y) (by decide)) (by rw [trW_j (by decide) (by decide) (by decide)]; exact y3) (by rw [trW_j (by decide) (by decide) (by decide)]; exact y4) (by rw [trW_j (by decide) (by decide) (by decide)]; exact b4)) (fun z => ?_)
    subst z
    refine w_X9_does ⟨fun _ => ?_, fun z => absurd z (by decide), fun z => absurd z (by decide), fun z => absurd z (by decide), fun z => absurd z (by decide), fun z => absurd z (by decide)⟩
    rw [trW_o (q := 52) (by decide), y2]
    refine c_anew (fun M5 x1 x2 x3 x4 x5 x6 x7 x8 => k1 M5 (uAnew v s, te n tx e) ((b1.tr trW_f).tr x1) cl ⟨by rw [x7 20 (by decide)]; exact trW_t.1, by rw [x7 21 (by decide)]; exact trW_t.2.1, by rw [x7 22 (by decide)]; exact trW_t.2.2, by rw [x7 24 (by decide), trW_j (by decide) (by decide) (by decide)]; exact b2.2.2.2⟩ (fun _ => ⟨x2, x3, x4, x5, fun i hi => absurd hi (Nat.not_lt_zero _), x6, fun i hi => absurd hi (Nat.not_lt_zero _), fun i _ hi => x8 i hi⟩) (by rw [x7 18 (by decide), trW_j (by decide) (by decide) (by decide)]; exact y3) (by rw [x7 19 (by decide), trW_j (by decide) (by decide) (by decide)]; exact y4) (by rw [x7 23 (by decide), trW_j (by decide) (by decide) (by decide)]; exact b4))
  · -- window
    have hc := clF1 (n := n) (s := s) c0 c1
    refine ⟨fun z => absurd z (by decide), fun _ => ⟨fun _ => lp24 1 (by decide) (fun z => absurd z (by decide)) (fun M1 g1 g2 g3 => ?_), fun z => absurd z (by decide)⟩⟩
    have h20 : M1.1 42 20 = nI (zb s) := (hTr.k g1.k).1
    refine w_X9_readsRest ⟨fun z => absurd z (by decide), fun _ => ?_, fun z => absurd z (by decide), fun z => absurd z (by decide), fun z => absurd z (by decide), fun z => absurd z (by decide)⟩
    rw [h20]
    refine c_number (kk := 0) (lo := 2) (h1 := zb s + 1) (hT.fr g1) he g2 g3 (by decide) (by decide) (by rw [tN (by omega)]; omega) (fun N v y1 hv y2 _ y3 y4 => ⟨Or.inr rfl, fun _ => ⟨fun _ => ?_, fun z => absurd z (by decide)⟩, fun z => absurd z (by decide)⟩) (fun hv => ⟨Or.inl rfl, fun z => absurd rfl z, fun _ => k0 M1 _ g1.r (by rw [hc, onN_n hv]) g2⟩)
    obtain ⟨b1, b2, b3, b4⟩ := base M1 N g1 y1
    have cl : clF n tx s f e = .inr (uWin v s, te n tx e) := by rw [hc, onN_s hv]
    rw [b2.1]
    refine c_tail (s := s) (dz := dz) (w := 1) (by decide) b2 (fun z => k1 _ (uWin v s, te n tx e) (b1.tr trW_f) cl ⟨trW_t.1, trW_t.2.1, trW_t.2.2, by rw [trW_j (by decide) (by decide) (by decide)]; exact b2.2.2.2⟩ (fun y => absurd (z.symm.trans y) (by decide)) (by rw [trW_j (by decide) (by decide) (by decide)]; exact y3) (by rw [trW_j (by decide) (by decide) (by decide)]; exact y4) (by rw [trW_j (by decide) (by decide) (by decide)]; exact b4)) (fun z => ?_)
    subst z
    refine w_X9_does ⟨fun z => absurd z (by decide), fun _ => ?_, fun z => absurd z (by decide), fun z => absurd z (by decide), fun z => absurd z (by decide), fun z => absurd z (by decide)⟩
    rw [trW_o (q := 52) (by decide), y2]
    obtain ⟨q1, q2, q3, q4, q5, q6, q7, q8⟩ := (b3 rfl).trW (b := zb s) (r := nrW 1 s) (l := nlW 1 s)
    have tt := trW_t (N := N) (b := zb s) (r := nrW 1 s) (l := nlW 1 s)
    have tj := fun (j : Nat) (h0 : j ≠ 20) (h1 : j ≠ 21) (h2 : j ≠ 22) => trW_j (N := N) (b := zb s) (r := nrW 1 s) (l := nlW 1 s) h0 h1 h2
    have to := fun (q : Nat) (h0 : q ≠ 42) => trW_o (N := N) (b := zb s) (r := nrW 1 s) (l := nlW 1 s) h0
    have fP : FrR true N (trW N (zb s) (nrW 1 s) (nlW 1 s)) := trW_f
    generalize trW N (zb s) (nrW 1 s) (nlW 1 s) = P at *
    exact k1 (wI P 42 2 (nI v)) (uWin v s, te n tx e) ((b1.tr fP).tr (FrR.w3 (by decide))) cl ⟨by simp [rI]; exact tt.1, by simp [rI]; exact tt.2.1, by simp [rI]; exact tt.2.2, by simp [rI]; exact (tj 24 (by decide) (by decide) (by decide)).trans b2.2.2.2⟩ (fun _ => ⟨by simp [rI]; exact q1, by simp [rI]; rfl, by simp [rI]; exact q3, by simp [rI]; exact q4, fun i hi => by simp [rI]; exact q5 i hi, by simp [rI]; exact q6, fun i hi => by simp [rI]; exact q7 i hi, fun i a c => by simp [rI]; exact q8 i a c⟩) (by simp [rI]; exact (tj 18 (by decide) (by decide) (by decide)).trans y3) (by simp [rI]; exact (tj 19 (by decide) (by decide) (by decide)).trans y4) (by simp [rI]; exact (tj 23 (by decide) (by decide) (by decide)).trans b4)
  · -- sight
    have hc := clF2 (n := n) (s := s) c0 c1 c2
    refine ⟨fun z => absurd z (by decide), fun _ => ⟨fun _ => lp24 2 (by decide) (fun z => absurd z (by decide)) (fun M1 g1 g2 g3 => ?_), fun z => absurd z (by decide)⟩⟩
    refine w_X9_readsRest ⟨fun z => absurd z (by decide), fun z => absurd z (by decide), fun _ => ?_, fun z => absurd z (by decide), fun z => absurd z (by decide), fun z => absurd z (by decide)⟩
    refine c_number (kk := 0) (lo := 1) (h1 := 100) (hT.fr g1) he g2 g3 (by decide) (by decide) (by decide) (fun N v y1 hv y2 _ y3 y4 => ⟨Or.inr rfl, fun _ => ⟨fun _ => ?_, fun z => absurd z (by decide)⟩, fun z => absurd z (by decide)⟩) (fun hv => ⟨Or.inl rfl, fun z => absurd rfl z, fun _ => k0 M1 _ g1.r (by rw [hc, onN_n hv]) g2⟩)
    obtain ⟨b1, b2, b3, b4⟩ := base M1 N g1 y1
    have cl : clF n tx s f e = .inr (uSig v s, te n tx e) := by rw [hc, onN_s hv]
    rw [b2.1]
    refine c_tail (s := s) (dz := dz) (w := 2) (by decide) b2 (fun z => k1 _ (uSig v s, te n tx e) (b1.tr trW_f) cl ⟨trW_t.1, trW_t.2.1, trW_t.2.2, by rw [trW_j (by decide) (by decide) (by decide)]; exact b2.2.2.2⟩ (fun y => absurd (z.symm.trans y) (by decide)) (by rw [trW_j (by decide) (by decide) (by decide)]; exact y3) (by rw [trW_j (by decide) (by decide) (by decide)]; exact y4) (by rw [trW_j (by decide) (by decide) (by decide)]; exact b4)) (fun z => ?_)
    subst z
    refine w_X9_does ⟨fun z => absurd z (by decide), fun z => absurd z (by decide), fun _ => ?_, fun z => absurd z (by decide), fun z => absurd z (by decide), fun z => absurd z (by decide)⟩
    rw [trW_o (q := 52) (by decide), y2]
    obtain ⟨q1, q2, q3, q4, q5, q6, q7, q8⟩ := (b3 rfl).trW (b := zb s) (r := nrW 2 s) (l := nlW 2 s)
    have tt := trW_t (N := N) (b := zb s) (r := nrW 2 s) (l := nlW 2 s)
    have tj := fun (j : Nat) (h0 : j ≠ 20) (h1 : j ≠ 21) (h2 : j ≠ 22) => trW_j (N := N) (b := zb s) (r := nrW 2 s) (l := nlW 2 s) h0 h1 h2
    have to := fun (q : Nat) (h0 : q ≠ 42) => trW_o (N := N) (b := zb s) (r := nrW 2 s) (l := nlW 2 s) h0
    have fP : FrR true N (trW N (zb s) (nrW 2 s) (nlW 2 s)) := trW_f
    generalize trW N (zb s) (nrW 2 s) (nlW 2 s) = P at *
    exact k1 (wI P 42 3 (nI v)) (uSig v s, te n tx e) ((b1.tr fP).tr (FrR.w3 (by decide))) cl ⟨by simp [rI]; exact tt.1, by simp [rI]; exact tt.2.1, by simp [rI]; exact tt.2.2, by simp [rI]; exact (tj 24 (by decide) (by decide) (by decide)).trans b2.2.2.2⟩ (fun _ => ⟨by simp [rI]; exact q1, by simp [rI]; exact q2, by simp [rI]; rfl, by simp [rI]; exact q4, fun i hi => by simp [rI]; exact q5 i hi, by simp [rI]; exact q6, fun i hi => by simp [rI]; exact q7 i hi, fun i a c => by simp [rI]; exact q8 i a c⟩) (by simp [rI]; exact (tj 18 (by decide) (by decide) (by decide)).trans y3) (by simp [rI]; exact (tj 19 (by decide) (by decide) (by decide)).trans y4) (by simp [rI]; exact (tj 23 (by decide) (by decide) (by decide)).trans b4)
  · -- rhythm
    have hc := clF3 (n := n) (s := s) c0 c1 c2 c3
    rw [hTr.2.1, show (8 : Int32) = nI 8 from rfl, nI_eq (by omega) (by decide)]
    refine ⟨fun z => absurd z (by decide), fun _ => ⟨fun z => absurd rfl z, fun _ => ⟨fun c8 => k0 M f FrR.rf (by rw [hc, if_pos c8]) h18, fun c8 => lp24 3 (by decide) (fun z => absurd z (by decide)) (fun M1 g1 g2 g3 => ?_)⟩⟩⟩
    refine w_X9_readsRest ⟨fun z => absurd z (by decide), fun z => absurd z (by decide), fun z => absurd z (by decide), fun _ => ?_, fun z => absurd z (by decide), fun z => absurd z (by decide)⟩
    refine c_readsBeats (b := zb s) (hT.fr g1) he w1 w2 (hTr.k g1.k).1 g2 g3 (fun N v y1 hv y2 y3 y4 => ⟨Or.inr rfl, fun _ => ⟨fun _ => ?_, fun z => absurd z (by decide)⟩, fun z => absurd z (by decide)⟩) (fun hv => ⟨Or.inl rfl, fun z => absurd rfl z, fun _ => k0 M1 _ g1.r (by rw [hc, if_neg c8, onN_n hv]) g2⟩)
    obtain ⟨b1, b2, b3, b4⟩ := base M1 N g1 y1
    have cl : clF n tx s f e = .inr (uRhy v s, te n tx e) := by rw [hc, if_neg c8, onN_s hv]
    rw [b2.1]
    refine c_tail (s := s) (dz := dz) (w := 3) (by decide) b2 (fun z => k1 _ (uRhy v s, te n tx e) (b1.tr trW_f) cl ⟨trW_t.1, trW_t.2.1, trW_t.2.2, by rw [trW_j (by decide) (by decide) (by decide)]; exact b2.2.2.2⟩ (fun y => absurd (z.symm.trans y) (by decide)) (by rw [trW_j (by decide) (by decide) (by decide)]; exact y3) (by rw [trW_j (by decide) (by decide) (by decide)]; exact y4) (by rw [trW_j (by decide) (by decide) (by decide)]; exact b4)) (fun z => ?_)
    subst z
    refine w_X9_does ⟨fun z => absurd z (by decide), fun z => absurd z (by decide), fun z => absurd z (by decide), fun _ => ?_, fun z => absurd z (by decide), fun z => absurd z (by decide)⟩
    rw [trW_o (q := 52) (by decide), y2]
    obtain ⟨q1, q2, q3, q4, q5, q6, q7, q8⟩ := (b3 rfl).trW (b := zb s) (r := nrW 3 s) (l := nlW 3 s)
    have tt := trW_t (N := N) (b := zb s) (r := nrW 3 s) (l := nlW 3 s)
    have tj := fun (j : Nat) (h0 : j ≠ 20) (h1 : j ≠ 21) (h2 : j ≠ 22) => trW_j (N := N) (b := zb s) (r := nrW 3 s) (l := nlW 3 s) h0 h1 h2
    have to := fun (q : Nat) (h0 : q ≠ 42) => trW_o (N := N) (b := zb s) (r := nrW 3 s) (l := nlW 3 s) h0
    have fP : FrR true N (trW N (zb s) (nrW 3 s) (nlW 3 s)) := trW_f
    generalize trW N (zb s) (nrW 3 s) (nlW 3 s) = P at *
    rw [q4, nI_clamp (by omega), nI_1]
    refine ⟨vp_in_nI (by omega) (by decide), k1 (wI (wI P 44 (zr s) (nI v)) 42 4 (nI (zr s + 1))) (uRhy v s, te n tx e) ((b1.tr fP).tr (FrR.w5.tr (FrR.w3 (by decide)))) cl ⟨by simp [rI]; exact tt.1, by simp [rI]; exact tt.2.1, by simp [rI]; exact tt.2.2, by simp [rI]; exact (tj 24 (by decide) (by decide) (by decide)).trans b2.2.2.2⟩ (fun _ => ⟨by simp [rI]; exact q1, by simp [rI]; exact q2, by simp [rI]; exact q3, by simp [rI]; rfl, fun i hi => ?_, by simp [rI]; exact q6, fun i hi => by simp [rI]; exact q7 i hi, fun i a c => by simp [rI]; exact q8 i a c⟩) (by simp [rI]; exact (tj 18 (by decide) (by decide) (by decide)).trans y3) (by simp [rI]; exact (tj 19 (by decide) (by decide) (by decide)).trans y4) (by simp [rI]; exact (tj 23 (by decide) (by decide) (by decide)).trans b4)⟩
    have hi2 : i < zr s + 1 := hi
    show (wI (wI P 44 (zr s) (nI v)) 42 4 (nI (zr s + 1))).1 44 i = nI (if i = zr s then v else zn s i)
    by_cases y : i = zr s
    · rw [if_pos y, y]; simp [rI]
    · rw [if_neg y]; simp [rI, y]; exact q5 i (by omega)
  · -- light
    have hc := clF4 (n := n) (s := s) c0 c1 c2 c3 c4
    refine ⟨fun z => absurd z (by decide), fun _ => ⟨fun _ => ?_, fun z => absurd z (by decide)⟩⟩
    by_cases c6 : zl s = 6
    · refine z_X9_readsClause_24 ⟨fun z => absurd rfl z, fun _ => ⟨fun z => absurd (by rw [hTr.2.2.1, c6]; rfl) z, fun _ => k0 M f FrR.rf (by rw [hc, if_pos c6]) h18⟩⟩
    refine lp24 4 (by decide) (fun _ => c6) (fun M1 g1 g2 g3 => ?_)
    refine w_X9_readsRest ⟨fun z => absurd z (by decide), fun z => absurd z (by decide), fun z => absurd z (by decide), fun z => absurd z (by decide), fun _ => ?_, fun z => absurd z (by decide)⟩
    refine c_number (kk := 0) (lo := 0) (h1 := 100) (hT.fr g1) he g2 g3 (by decide) (by decide) (by decide) (fun N v y1 hv y2 _ y3 y4 => ⟨Or.inr rfl, fun _ => ⟨fun _ => ?_, fun z => absurd z (by decide)⟩, fun z => absurd z (by decide)⟩) (fun hv => ⟨Or.inl rfl, fun z => absurd rfl z, fun _ => k0 M1 _ g1.r (by rw [hc, if_neg c6, onN_n hv]) g2⟩)
    obtain ⟨b1, b2, b3, b4⟩ := base M1 N g1 y1
    have cl : clF n tx s f e = .inr (uLgt v s, te n tx e) := by rw [hc, if_neg c6, onN_s hv]
    rw [b2.1]
    refine c_tail (s := s) (dz := dz) (w := 4) (by decide) b2 (fun z => k1 _ (uLgt v s, te n tx e) (b1.tr trW_f) cl ⟨trW_t.1, trW_t.2.1, trW_t.2.2, by rw [trW_j (by decide) (by decide) (by decide)]; exact b2.2.2.2⟩ (fun y => absurd (z.symm.trans y) (by decide)) (by rw [trW_j (by decide) (by decide) (by decide)]; exact y3) (by rw [trW_j (by decide) (by decide) (by decide)]; exact y4) (by rw [trW_j (by decide) (by decide) (by decide)]; exact b4)) (fun z => ?_)
    subst z
    refine w_X9_does ⟨fun z => absurd z (by decide), fun z => absurd z (by decide), fun z => absurd z (by decide), fun z => absurd z (by decide), fun _ => ?_, fun z => absurd z (by decide)⟩
    rw [trW_o (q := 52) (by decide), y2]
    obtain ⟨q1, q2, q3, q4, q5, q6, q7, q8⟩ := (b3 rfl).trW (b := zb s) (r := nrW 4 s) (l := nlW 4 s)
    have tt := trW_t (N := N) (b := zb s) (r := nrW 4 s) (l := nlW 4 s)
    have tj := fun (j : Nat) (h0 : j ≠ 20) (h1 : j ≠ 21) (h2 : j ≠ 22) => trW_j (N := N) (b := zb s) (r := nrW 4 s) (l := nlW 4 s) h0 h1 h2
    have to := fun (q : Nat) (h0 : q ≠ 42) => trW_o (N := N) (b := zb s) (r := nrW 4 s) (l := nlW 4 s) h0
    have fP : FrR true N (trW N (zb s) (nrW 4 s) (nlW 4 s)) := trW_f
    generalize trW N (zb s) (nrW 4 s) (nlW 4 s) = P at *
    rw [q6, z0, nI_clamp (by omega), nI_1]
    refine ⟨vp_in_nI (by omega) (by decide), k1 (wI (wI P 43 (zl s) (nI v)) 42 5 (nI (zl s + 1))) (uLgt v s, te n tx e) ((b1.tr fP).tr ((FrR.w4 (by omega)).tr (FrR.w3 (by decide)))) cl ⟨by simp [rI]; exact tt.1, by simp [rI]; exact tt.2.1, by simp [rI]; exact tt.2.2, by simp [rI]; exact (tj 24 (by decide) (by decide) (by decide)).trans b2.2.2.2⟩ (fun _ => ⟨by simp [rI]; exact q1, by simp [rI]; exact q2, by simp [rI]; exact q3, by simp [rI]; exact q4, fun i hi => by simp [rI]; exact q5 i hi, by simp [rI]; rfl, fun i hi => ?_, fun i a c => ?_⟩) (by simp [rI]; exact (tj 18 (by decide) (by decide) (by decide)).trans y3) (by simp [rI]; exact (tj 19 (by decide) (by decide) (by decide)).trans y4) (by simp [rI]; exact (tj 23 (by decide) (by decide) (by decide)).trans b4)⟩
    · have hi2 : i < zl s + 1 := hi
      show (wI (wI P 43 (zl s) (nI v)) 42 5 (nI (zl s + 1))).1 43 i = nI (if i = zl s then v else zp s i) ∧ (wI (wI P 43 (zl s) (nI v)) 42 5 (nI (zl s + 1))).1 43 (6 + i) = oi (if i = zl s then none else zo s i)
      have x6 : ¬ 6 + i = zl s := by omega
      by_cases y : i = zl s
      · rw [if_pos y, if_pos y]
        refine ⟨by simp [rI, y], ?_⟩
        simp only [rI]
        rw [if_neg (by simp), if_neg (fun z => x6 z.2), y]
        exact q8 (zl s) (Nat.le_refl _) (by omega)
      · rw [if_neg y, if_neg y]
        refine ⟨by simp [rI, y]; exact (q7 i (by omega)).1, ?_⟩
        simp only [rI]
        rw [if_neg (by simp), if_neg (fun z => x6 z.2)]
        exact (q7 i (by omega)).2
    · have a2 : zl s + 1 ≤ i := a
      have x6 : ¬ 6 + i = zl s := by omega
      simp only [rI]
      rw [if_neg (by simp), if_neg (fun z => x6 z.2)]
      exact q8 i (by omega) c
  · -- lit
    have hc := clF5 (n := n) (s := s) c0 c1 c2 c3 c4 c5
    have em : ∀ k, k ≤ 8 → (nI k - 1).toInt = (k : Int) - 1 := fun k hk => by
      rw [show (1 : Int32) = nI 1 from rfl, pk_sub_toInt (by omega) (by decide)]; rfl
    refine ⟨fun z => absurd z (by decide), fun _ => ⟨fun _ => lp24 5 (by decide) (fun z => absurd z (by decide)) (fun M1 g1 g2 g3 => ?_), fun z => absurd z (by decide)⟩⟩
    refine w_X9_readsRest ⟨fun z => absurd z (by decide), fun z => absurd z (by decide), fun z => absurd z (by decide), fun z => absurd z (by decide), fun z => absurd z (by decide), fun _ => ?_⟩
    rw [(hTr.k g1.k).2.2.1]
    refine c_number (kk := 0) (lo := 0) (h1 := zl s) (hT.fr g1) he g2 g3 (by decide) (by decide) (em _ (by omega)) (fun N0 l x1 hl x2 _ x3 x4 => ⟨fun z => absurd z (by decide), fun _ => ?_⟩) (fun hl => ⟨fun _ => ⟨fun z => absurd rfl z, fun _ => k0 M1 _ g1.r (by rw [hc, onN_n hl]) g2⟩, fun z => absurd rfl z⟩)
    have ll := numR_s hl
    rw [((hTr.k g1.k).k x1).2.1]
    refine c_number (kk := 1) (lo := 0) (h1 := zr s) ((hT.fr g1).frr (dz := dz) x1.r) t1 x3 x4 (by decide) (by decide) (em _ (by omega)) (fun N r y1 hr y2 y5 y3 y4 => ⟨fun z => absurd z (by decide), fun _ => ⟨fun _ => ⟨fun _ => ?_, fun z => absurd z (by decide)⟩, fun z => absurd z (by decide)⟩⟩) (fun hr => ⟨fun _ => ⟨fun z => absurd rfl z, fun _ => k0 N0 _ (g1.r.tr x1.r) (by rw [hc, onN_s hl, onN_n hr]) x3⟩, fun z => absurd rfl z⟩)
    have lr := numR_s hr
    obtain ⟨b1, b2, b3, b4⟩ := base M1 N g1 (x1.tr y1)
    have y52 : N.1 52 0 = nI l := (y5 0 (by decide)).trans x2
    have cl : clF n tx s f e = .inr (uLit l r s, te n tx (te n tx e)) := by rw [hc, onN_s hl, onN_s hr]
    rw [b2.1]
    refine c_tail (s := s) (dz := dz) (w := 5) (by decide) b2 (fun z => k1 _ (uLit l r s, te n tx (te n tx e)) (b1.tr trW_f) cl ⟨trW_t.1, trW_t.2.1, trW_t.2.2, by rw [trW_j (by decide) (by decide) (by decide)]; exact b2.2.2.2⟩ (fun y => absurd (z.symm.trans y) (by decide)) (by rw [trW_j (by decide) (by decide) (by decide)]; exact y3) (by rw [trW_j (by decide) (by decide) (by decide)]; exact y4) (by rw [trW_j (by decide) (by decide) (by decide)]; exact b4)) (fun z => ?_)
    subst z
    refine w_X9_does ⟨fun z => absurd z (by decide), fun z => absurd z (by decide), fun z => absurd z (by decide), fun z => absurd z (by decide), fun z => absurd z (by decide), fun _ => ?_⟩
    rw [trW_o (q := 52) (by decide), y52, y2, show (6 : Int32) + nI l = nI (6 + l) from nI_add 6 l, nI_clamp (by omega)]
    obtain ⟨q1, q2, q3, q4, q5, q6, q7, q8⟩ := (b3 rfl).trW (b := zb s) (r := nrW 5 s) (l := nlW 5 s)
    have tt := trW_t (N := N) (b := zb s) (r := nrW 5 s) (l := nlW 5 s)
    have tj := fun (j : Nat) (h0 : j ≠ 20) (h1 : j ≠ 21) (h2 : j ≠ 22) => trW_j (N := N) (b := zb s) (r := nrW 5 s) (l := nlW 5 s) h0 h1 h2
    have to := fun (q : Nat) (h0 : q ≠ 42) => trW_o (N := N) (b := zb s) (r := nrW 5 s) (l := nlW 5 s) h0
    have fP : FrR true N (trW N (zb s) (nrW 5 s) (nlW 5 s)) := trW_f
    generalize trW N (zb s) (nrW 5 s) (nlW 5 s) = P at *
    refine ⟨vp_in_nI (by omega) (by decide), k1 (wI P 43 (6 + l) (nI r)) (uLit l r s, te n tx (te n tx e)) ((b1.tr fP).tr (FrR.w4 (by omega))) cl ⟨by simp [rI]; exact tt.1, by simp [rI]; exact tt.2.1, by simp [rI]; exact tt.2.2, by simp [rI]; exact (tj 24 (by decide) (by decide) (by decide)).trans b2.2.2.2⟩ (fun _ => ⟨by simp [rI]; exact q1, by simp [rI]; exact q2, by simp [rI]; exact q3, by simp [rI]; exact q4, fun i hi => by simp [rI]; exact q5 i hi, by simp [rI]; exact q6, fun i hi => ?_, fun i a c => ?_⟩) (by simp [rI]; exact (tj 18 (by decide) (by decide) (by decide)).trans y3) (by simp [rI]; exact (tj 19 (by decide) (by decide) (by decide)).trans y4) (by simp [rI]; exact (tj 23 (by decide) (by decide) (by decide)).trans b4)⟩
    · have hi2 : i < zl s := hi
      have x6 : ¬ i = 6 + l := by omega
      show (wI P 43 (6 + l) (nI r)).1 43 i = nI (zp s i) ∧ (wI P 43 (6 + l) (nI r)).1 43 (6 + i) = oi (if i = l then some r else zo s i)
      by_cases y : i = l
      · rw [if_pos y]
        refine ⟨?_, by simp [rI, y]; rfl⟩
        simp only [rI]
        rw [if_neg (fun z => x6 z.2)]
        exact (q7 i hi2).1
      · rw [if_neg y]
        have x7 : ¬ 6 + i = 6 + l := by omega
        simp only [rI]
        rw [if_neg (fun z => x6 z.2), if_neg (fun z => x7 z.2)]
        exact q7 i hi2
    · have a2 : zl s ≤ i := a
      have x7 : ¬ 6 + i = 6 + l := by omega
      simp only [rI]
      rw [if_neg (fun z => x7 z.2)]
      exact q8 i a2 c
  · exact ⟨fun _ => k0 M f FrR.rf (clF6 c0 c1 c2 c3 c4 c5) h18, fun z => absurd rfl z⟩
theorem c_reads {K : Int32 → Mm → Prop} (hT : TxM M n tx) (hWd : WordsI M) (hb : M.1 42 1 = nI (zb s)) (hr : M.1 42 4 = nI (zr s)) (hl : M.1 42 5 = nI (zl s)) (hD : dz = true → MdD M s) (hw : BSW s) (k0 : ∀ M1 p, FrR dz M M1 → prF n tx 23 1 s 0 = .inl p → M1.1 42 18 = nI p → K 0 M1) (k1 : ∀ M1 q, FrR dz M M1 → prF n tx 23 1 s 0 = .inr q → (dz = true → MdD M1 q.1) → M1.1 42 23 = nI q.2 → K 1 M1) : ACi (d + 10) X9_reads [.ref 42, .int (if dz then 1 else 0)] M K := by
  have n200 := hT.1
  -- behind a clause that stands
  have key : ∀ (k c : Nat) (q : BS × Nat) (N : Mm) (R : Nat ⊕ (BS × Nat)), c + k = 24 → FrR dz M N → TrM N q.1 dz → (dz = true → MdD N q.1) → BSW q.1 → q.2 ≤ n → N.1 42 18 = nI (tf n tx q.2) → N.1 42 19 = nI (te n tx q.2) → N.1 42 23 = nI c → (tf n tx q.2 = n → R = .inr (q.1, c)) → (k = 0 → ¬ tf n tx q.2 = n → R = .inl (tf n tx q.2)) → (¬ tf n tx q.2 = n → ¬ tx (tf n tx q.2) = 59 → R = .inl (tf n tx q.2)) → (∀ k', k = k' + 1 → ¬ tf n tx q.2 = n → tx (tf n tx q.2) = 59 → R = prF n tx k' (c + 1) q.1 (te n tx q.2)) → (∀ M1 p, FrR dz M M1 → R = .inl p → M1.1 42 18 = nI p → K 0 M1) → (∀ M1 q, FrR dz M M1 → R = .inr q → (dz = true → MdD M1 q.1) → M1.1 42 23 = nI q.2 → K 1 M1) → lp_X9_reads_48 (d + 9) N 1 K := by
    intro k
    induction k with
    | zero =>
      intro c q N R hc f tr md bw hq h18 h19 h23 rn r0 rs rg k0 k1
      have hTN := hT.frr f
      have fl := tf_le (tx := tx) hq
      refine z_X9_reads_48 ?_
      rw [hTN.2.1, h18, nI_leI (by omega) (by omega), h23]
      refine ⟨fun z => absurd z (by decide), fun _ => ⟨fun c1 => ⟨Or.inr rfl, k1 N (q.1, c) f (rn (by omega)) md h23⟩, fun c1 => ⟨fun _ => ?_, fun z => absurd (nI_le (a := 24) (by omega) (by omega)) z⟩⟩⟩
      exact z_X9_reads_48 ⟨fun _ => ⟨Or.inl rfl, k0 N _ f (r0 rfl (by omega)) h18⟩, fun z => absurd rfl z⟩
    | succ k ih =>
      intro c q N R hc f tr md bw hq h18 h19 h23 rn r0 rs rg k0 k1
      have hTN := hT.frr f
      have fl := tf_le (tx := tx) hq
      have tl := te_le (tx := tx) hq
      refine z_X9_reads_48 ?_
      rw [hTN.2.1, h18, nI_leI (by omega) (by omega), h23, nI_clamp (by omega)]
      refine ⟨fun z => absurd z (by decide), fun _ => ⟨fun c1 => ⟨Or.inr rfl, k1 N (q.1, c) f (rn (by omega)) md h23⟩, fun c1 => ⟨fun z => absurd z (nI_ge (b := 24) (by omega) (by omega)), fun _ => ⟨vp_in_nI (by omega) (by decide), ?_⟩⟩⟩⟩
      have cf := hTN.2.2 (tf n tx q.2) (by omega)
      have c255 := cf.2
      rw [cf.1, show (59 : Int32) = nI 59 from rfl, nI_eq (by omega) (by decide)]
      refine ⟨fun c2 => z_X9_reads_48 ⟨fun _ => ⟨Or.inl rfl, k0 N _ f (rs (by omega) c2) h18⟩, fun z => absurd rfl z⟩, fun c2 => c_nextToken hTN tl.1 h19 (fun N1 g1 g2 g3 => ?_)⟩
      have go := rg k rfl (by omega) c2
      have tl2 := te_le (tx := tx) tl.1
      have f1 : FrR dz M N1 := f.tr g1.r
      have h231 : N1.1 42 23 = nI c := (g1.2.2 23 (by decide) (by decide)).trans h23
      refine c_readsClause (hT.frr f1) (hWd.frr f1) (tr.k g1.k) (fun z => (md z).k g1.k) bw tl2.2 tl2.1 g2 g3 (fun N2 p y1 y2 y3 => ?_) (fun N2 q' y1 y2 y3 y4 y5 y6 y7 => ?_)
      · have f2 := (f1.tr y1).tr (FrR.w1 (dz := dz) (j := 23) (x := N2.1 42 23 + 1) (by decide))
        exact z_X9_reads_48 ⟨fun _ => ⟨Or.inl rfl, k0 _ p f2 (go.trans (prF_l y2)) (by simp [rI, y3])⟩, fun z => absurd rfl z⟩
      · have f2 := (f1.tr y1).tr (FrR.w1 (dz := dz) (j := 23) (x := nI (c + 1)) (by decide))
        have wq := clF_w bw tl2.1 y2
        rw [y7, h231, nI_1]
        refine ih (c + 1) q' _ R (by omega) f2 ⟨by simp [rI]; exact y3.1, by simp [rI]; exact y3.2.1, by simp [rI]; exact y3.2.2.1, by simp [rI]; exact y3.2.2.2⟩ (fun z => ?_) wq.1 wq.2 (by simp [rI, y5]) (by simp [rI, y6]) (by simp [rI]) (fun z => go.trans (prF_n y2 z)) (fun z1 z2 => ?_) (fun z1 z2 => go.trans (prF_s y2 z1 z2)) (fun k' z1 z2 z3 => ?_) k0 k1
        · obtain ⟨q1, q2, q3, q4, q5, q6, q7, q8⟩ := y4 z
          exact ⟨by simp [rI]; exact q1, by simp [rI]; exact q2, by simp [rI]; exact q3, by simp [rI]; exact q4, fun i hi => by simp [rI]; exact q5 i hi, by simp [rI]; exact q6, fun i hi => by simp [rI]; exact q7 i hi, fun i a c => by simp [rI]; exact q8 i a c⟩
        · subst z1; exact go.trans (prF_0 y2 z2)
        · subst z1; exact go.trans (prF_go y2 z2 z3)
  refine w_X9_reads ⟨by cases dz <;> decide, ?_⟩
  rw [hb, hr, hl]
  generalize hN : wI (wI (wI (wI (wI (wI M 42 24 (if dz then 1 else 0)) 42 19 0) 42 23 1) 42 20 (nI (zb s))) 42 21 (nI (zr s))) 42 22 (nI (zl s)) = N
  have fN : FrR dz M N := by
    rw [← hN]
    exact (((((FrR.w1 (by decide)).tr (FrR.w1 (by decide))).tr (FrR.w1 (by decide))).tr (FrR.w1 (by decide))).tr (FrR.w1 (by decide))).tr (FrR.w1 (by decide))
  have trN : TrM N s dz := by
    rw [← hN]
    exact ⟨by simp [rI], by simp [rI], by simp [rI], by simp [rI]⟩
  have n19 : N.1 42 19 = nI 0 := by rw [← hN]; simp [rI]; rfl
  have n23 : N.1 42 23 = nI 1 := by rw [← hN]; simp [rI]; rfl
  have mdN : dz = true → MdD N s := fun z => by
    obtain ⟨q1, q2, q3, q4, q5, q6, q7, q8⟩ := hD z
    rw [← hN]
    exact ⟨by simp [rI]; exact q1, by simp [rI]; exact q2, by simp [rI]; exact q3, by simp [rI]; exact q4, fun i hi => by simp [rI]; exact q5 i hi, by simp [rI]; exact q6, fun i hi => by simp [rI]; exact q7 i hi, fun i a c => by simp [rI]; exact q8 i a c⟩
  have tl := te_le (tx := tx) (Nat.zero_le n)
  refine c_nextToken (hT.frr fN) (Nat.zero_le _) n19 (fun N1 g1 g2 g3 => ?_)
  have f1 : FrR dz M N1 := fN.tr g1.r
  refine c_readsClause (hT.frr f1) (hWd.frr f1) (trN.k g1.k) (fun z => (mdN z).k g1.k) hw tl.2 tl.1 g2 g3 (fun N2 p y1 y2 y3 => ?_) (fun N2 q y1 y2 y3 y4 y5 y6 y7 => ?_)
  · exact z_X9_reads_48 ⟨fun _ => ⟨Or.inl rfl, k0 N2 p (f1.tr y1) (prF_l y2) y3⟩, fun z => absurd rfl z⟩
  · have wq := clF_w hw tl.1 y2
    exact key 23 1 q N2 _ (by decide) (f1.tr y1) y3 y4 wq.1 wq.2 y5 y6 (by rw [y7, g1.2.2 23 (by decide) (by decide)]; exact n23) (fun z => prF_n y2 z) (fun z => absurd z (by decide)) (fun z1 z2 => prF_s y2 z1 z2) (fun k' z1 z2 z3 => by
      have : k' = 22 := by omega
      subst this
      exact prF_go y2 z2 z3) k0 k1
end RX
