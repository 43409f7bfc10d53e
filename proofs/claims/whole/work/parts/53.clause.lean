/-! CLAUSES: what a text says, plainly; the class's reading of one. -/
abbrev BS : Type := (Nat × Nat × Nat × Nat × Nat) × (Nat → Nat) × (Nat → Nat) × (Nat → Option Nat)
abbrev zb (s : BS) : Nat := s.1.1
abbrev zw (s : BS) : Nat := s.1.2.1
abbrev zg (s : BS) : Nat := s.1.2.2.1
abbrev zr (s : BS) : Nat := s.1.2.2.2.1
abbrev zl (s : BS) : Nat := s.1.2.2.2.2
abbrev zn (s : BS) : Nat → Nat := s.2.1
abbrev zp (s : BS) : Nat → Nat := s.2.2.1
abbrev zo (s : BS) : Nat → Option Nat := s.2.2.2
def uAnew (v : Nat) (s : BS) : BS := ((v, 2, 20, 0, 0), zn s, zp s, zo s)
def uWin (v : Nat) (s : BS) : BS := ((zb s, v, zg s, zr s, zl s), zn s, zp s, zo s)
def uSig (v : Nat) (s : BS) : BS := ((zb s, zw s, v, zr s, zl s), zn s, zp s, zo s)
def uRhy (v : Nat) (s : BS) : BS := ((zb s, zw s, zg s, zr s + 1, zl s), fun i => if i = zr s then v else zn s i, zp s, zo s)
def uLgt (v : Nat) (s : BS) : BS := ((zb s, zw s, zg s, zr s, zl s + 1), zn s, fun i => if i = zl s then v else zp s i, fun i => if i = zl s then none else zo s i)
def uLit (l r : Nat) (s : BS) : BS := ((zb s, zw s, zg s, zr s, zl s), zn s, zp s, fun i => if i = l then some r else zo s i)
def BSW (s : BS) : Prop := BkW (zb s) (zw s) (zg s) (zr s) (zn s) ∧ LtW (zr s) (zl s) (zp s) (zo s)
def nv (tx : Nat → Nat) (f e : Nat) : Nat := if e - f = 2 then 10 * (tx f - 48) + (tx (f + 1) - 48) else tx f - 48
def numR (n : Nat) (tx : Nat → Nat) (lo h1 f e : Nat) : Option Nat := if f < n ∧ dgB (tx f) = true ∧ e - f ≤ 2 ∧ lo ≤ nv tx f e ∧ nv tx f e < h1 then some (nv tx f e) else none
def rhV (tx : Nat → Nat) (f : Nat) : Nat → Nat
  | 0 => 0
  | j + 1 => 2 * rhV tx f j + (if tx (f + j) = 102 then 1 else 0)
noncomputable def rhR (n : Nat) (tx : Nat → Nat) (b f e : Nat) : Option Nat := @ite _ (f < n ∧ e - f = b ∧ ∀ k, k < e - f → tx (f + k) = 100 ∨ tx (f + k) = 102) (Classical.propDecidable _) (some (rhV tx f (e - f))) none
def isW (tx : Nat → Nat) (k f e : Nat) : Prop := e - f = strN.getD k 0 ∧ ∀ j, j < strN.getD k 0 → nI (tx (f + j)) = (strB.getD k []).getD j 0
def onN (o : Option Nat) (p : Nat) (g : Nat → Nat ⊕ (BS × Nat)) : Nat ⊕ (BS × Nat) := match o with
  | none => .inl p
  | some v => g v
noncomputable def clF (n : Nat) (tx : Nat → Nat) (s : BS) (f e : Nat) : Nat ⊕ (BS × Nat) :=
  @ite _ (isW tx 0 f e) (Classical.propDecidable _) (onN (numR n tx 3 9 (tf n tx e) (te n tx e)) (tf n tx e) (fun v => .inr (uAnew v s, te n tx e)))
  (@ite _ (isW tx 1 f e) (Classical.propDecidable _) (onN (numR n tx 2 (zb s + 1) (tf n tx e) (te n tx e)) (tf n tx e) (fun v => .inr (uWin v s, te n tx e)))
  (@ite _ (isW tx 2 f e) (Classical.propDecidable _) (onN (numR n tx 1 100 (tf n tx e) (te n tx e)) (tf n tx e) (fun v => .inr (uSig v s, te n tx e)))
  (@ite _ (isW tx 3 f e) (Classical.propDecidable _) (if zr s = 8 then .inl f else onN (rhR n tx (zb s) (tf n tx e) (te n tx e)) (tf n tx e) (fun v => .inr (uRhy v s, te n tx e)))
  (@ite _ (isW tx 4 f e) (Classical.propDecidable _) (if zl s = 6 then .inl f else onN (numR n tx 0 100 (tf n tx e) (te n tx e)) (tf n tx e) (fun v => .inr (uLgt v s, te n tx e)))
  (@ite _ (isW tx 5 f e) (Classical.propDecidable _) (onN (numR n tx 0 (zl s) (tf n tx e) (te n tx e)) (tf n tx e) (fun l => onN (numR n tx 0 (zr s) (tf n tx (te n tx e)) (te n tx (te n tx e))) (tf n tx (te n tx e)) (fun r => .inr (uLit l r s, te n tx (te n tx e)))))
  (.inl f))))))
theorem numR_s {n : Nat} {tx : Nat → Nat} {lo h1 f e v : Nat} (h : numR n tx lo h1 f e = some v) : lo ≤ v ∧ v < h1 := by
  unfold numR at h
  split at h
  · rename_i c
    cases h
    exact ⟨c.2.2.2.1, c.2.2.2.2⟩
  · cases h
theorem rhV_lt (tx : Nat → Nat) (f : Nat) : ∀ j, rhV tx f j < 2 ^ j
  | 0 => by simp [rhV]
  | j + 1 => by
    have := rhV_lt tx f j
    rw [rhV, Nat.pow_succ]
    split <;> omega
theorem rhR_s {n : Nat} {tx : Nat → Nat} {b f e v : Nat} (h : rhR n tx b f e = some v) : v < 2 ^ b := by
  unfold rhR at h
  split at h
  · rename_i c
    cases h
    rw [← c.2.1]
    exact rhV_lt _ _ _
  · cases h
theorem onN_r {o : Option Nat} {p : Nat} {g : Nat → Nat ⊕ (BS × Nat)} {q : BS × Nat} (h : onN o p g = .inr q) : ∃ v, o = some v ∧ g v = .inr q := by
  unfold onN at h
  cases o with
  | none => cases h
  | some v => exact ⟨v, rfl, h⟩
theorem clF_w {n : Nat} {tx : Nat → Nat} {s : BS} {f e : Nat} {q : BS × Nat} (hw : BSW s) (he : e ≤ n) (h : clF n tx s f e = .inr q) : BSW q.1 ∧ q.2 ≤ n := by
  have t1 := (te_le (tx := tx) he).1
  have t2 := (te_le (tx := tx) t1).1
  obtain ⟨⟨w1, w2, w3, w4, w5, w6, w7, w8⟩, m1, m2⟩ := hw
  unfold clF at h
  by_cases c0 : isW tx 0 f e
  · rw [if_pos c0] at h
    obtain ⟨v, h1, h2⟩ := onN_r h
    have l := numR_s h1
    cases h2
    exact ⟨⟨⟨by show 3 ≤ v; omega, by show v ≤ 8; omega, by show 2 ≤ 2; omega, by show 2 ≤ v; omega, by show 1 ≤ 20; omega, by show 20 ≤ 99; omega, by show 0 ≤ 8; omega, fun i hi => absurd hi (Nat.not_lt_zero _)⟩, by show 0 ≤ 6; omega, fun i hi => absurd hi (Nat.not_lt_zero _)⟩, t1⟩
  · rw [if_neg c0] at h
    by_cases c1 : isW tx 1 f e
    · rw [if_pos c1] at h
      obtain ⟨v, h1, h2⟩ := onN_r h
      have l := numR_s h1
      cases h2
      exact ⟨⟨⟨w1, w2, by show 2 ≤ v; omega, by show v ≤ zb s; omega, w5, w6, w7, w8⟩, m1, m2⟩, t1⟩
    · rw [if_neg c1] at h
      by_cases c2 : isW tx 2 f e
      · rw [if_pos c2] at h
        obtain ⟨v, h1, h2⟩ := onN_r h
        have l := numR_s h1
        cases h2
        exact ⟨⟨⟨w1, w2, w3, w4, by show 1 ≤ v; omega, by show v ≤ 99; omega, w7, w8⟩, m1, m2⟩, t1⟩
      · rw [if_neg c2] at h
        by_cases c3 : isW tx 3 f e
        · rw [if_pos c3] at h
          by_cases c8 : zr s = 8
          · rw [if_pos c8] at h; cases h
          · rw [if_neg c8] at h
            obtain ⟨v, h1, h2⟩ := onN_r h
            have l := rhR_s h1
            cases h2
            refine ⟨⟨⟨w1, w2, w3, w4, w5, w6, by show zr s + 1 ≤ 8; omega, fun i hi => ?_⟩, m1, fun i hi => ⟨(m2 i hi).1, fun r hr => ?_⟩⟩, t1⟩
            · show (if i = zr s then v else zn s i) < 2 ^ zb s
              by_cases y : i = zr s
              · rw [if_pos y]; exact l
              · rw [if_neg y]; exact w8 i (by have : i < zr s + 1 := hi; omega)
            · show r < zr s + 1
              have := (m2 i hi).2 r hr
              omega
        · rw [if_neg c3] at h
          by_cases c4 : isW tx 4 f e
          · rw [if_pos c4] at h
            by_cases c8 : zl s = 6
            · rw [if_pos c8] at h; cases h
            · rw [if_neg c8] at h
              obtain ⟨v, h1, h2⟩ := onN_r h
              have l := numR_s h1
              cases h2
              refine ⟨⟨⟨w1, w2, w3, w4, w5, w6, w7, w8⟩, by show zl s + 1 ≤ 6; omega, fun i hi => ?_⟩, t1⟩
              have hi2 : i < zl s + 1 := hi
              show (if i = zl s then v else zp s i) ≤ 99 ∧ ∀ r, (if i = zl s then none else zo s i) = some r → r < zr s
              by_cases y : i = zl s
              · rw [if_pos y, if_pos y]; exact ⟨by omega, fun r hr => by cases hr⟩
              · rw [if_neg y, if_neg y]; exact m2 i (by omega)
          · rw [if_neg c4] at h
            by_cases c5 : isW tx 5 f e
            · rw [if_pos c5] at h
              obtain ⟨v, h1, h2⟩ := onN_r h
              obtain ⟨r, h3, h4⟩ := onN_r h2
              have l := numR_s h1
              have l2 := numR_s h3
              cases h4
              refine ⟨⟨⟨w1, w2, w3, w4, w5, w6, w7, w8⟩, m1, fun i hi => ?_⟩, t2⟩
              show zp s i ≤ 99 ∧ ∀ r', (if i = v then some r else zo s i) = some r' → r' < zr s
              by_cases y : i = v
              · rw [if_pos y]; exact ⟨(m2 i hi).1, fun r' hr => by cases hr; omega⟩
              · rw [if_neg y]; exact m2 i hi
            · rw [if_neg c5] at h; cases h
/-! the class's -/
def HdC (M : Mm) (s : BS) : Prop := M.1 8 0 = nI (zb s) ∧ M.1 8 1 = nI (zw s) ∧ M.1 8 2 = nI (zg s) ∧ M.1 8 3 = nI (zr s) ∧ (∀ i, i < zr s → M.1 9 i = nI (zn s i)) ∧ M.1 10 0 = nI (zl s) ∧ ∀ i, i < zl s → M.1 11 i = nI (zp s i) ∧ M.1 12 i = oi (zo s i)
def FrH (M M1 : Mm) : Prop := M1.2 = M.2 ∧ (∀ q, q ≠ 1 → (q < 8 ∨ 12 < q) → M1.1 q = M.1 q) ∧ ∀ j, j ≠ 1 → j ≠ 3 → j ≠ 4 → M1.1 1 j = M.1 1 j
theorem FrH.rf {M : Mm} : FrH M M := ⟨rfl, fun _ _ _ => rfl, fun _ _ _ _ => rfl⟩
theorem FrH.tr {M M1 M2 : Mm} (h : FrH M M1) (h2 : FrH M1 M2) : FrH M M2 := ⟨h2.1.trans h.1, fun q a c => (h2.2.1 q a c).trans (h.2.1 q a c), fun j a c e => (h2.2.2 j a c e).trans (h.2.2 j a c e)⟩
theorem FrT.h {M M1 : Mm} (h : FrT M M1) : FrH M M1 := ⟨h.1, fun q a _ => h.2.1 q a, fun j _ a c => h.2.2 j a c⟩
theorem FrH.w {M : Mm} {a j : Nat} {x : Int32} (h : 8 ≤ a ∧ a ≤ 12) : FrH M (wI M a j x) := ⟨rfl, fun q _ c => wI_ne (by omega), fun j' _ _ _ => by
  have : ¬ 1 = a := by omega
  simp [rI, this]⟩
theorem TxC.frh {M M1 : Mm} {n : Nat} {tx : Nat → Nat} (h : TxC M n tx) (f : FrH M M1) : TxC M1 n tx := ⟨h.1, (f.2.2 0 (by decide) (by decide) (by decide)).trans h.2.1, fun i hi => by rw [f.2.1 2 (by decide) (by decide)]; exact h.2.2 i hi⟩
theorem HdC.fr {M M1 : Mm} {s : BS} (h : HdC M s) (f : FrT M M1) : HdC M1 s := by
  obtain ⟨h1, h2, h3, h4, h5, h6, h7⟩ := h
  refine ⟨?_, ?_, ?_, ?_, fun i hi => ?_, ?_, fun i hi => ?_⟩
  · rw [f.2.1 8 (by decide)]; exact h1
  · rw [f.2.1 8 (by decide)]; exact h2
  · rw [f.2.1 8 (by decide)]; exact h3
  · rw [f.2.1 8 (by decide)]; exact h4
  · rw [f.2.1 9 (by decide)]; exact h5 i hi
  · rw [f.2.1 10 (by decide)]; exact h6
  · rw [f.2.1 11 (by decide), f.2.1 12 (by decide)]; exact h7 i hi
section CC
variable {d : Nat} {M : Mm} {n : Nat} {tx : Nat → Nat} {s : BS}
theorem c_isWordC {K : Int32 → Mm → Prop} {k f e : Nat} (hk : k < 6) (hT : TxC M n tx) (h3 : M.1 1 3 = nI f) (h4 : M.1 1 4 = nI e) (hf : f ≤ e) (he : e ≤ n) (h1 : isW tx k f e → K 1 M) (h0 : ¬ isW tx k f e → K 0 M) : ACi (d + 5) X6_isWord [.ref 1, .ref (1000 + k)] M K := by
  have hn := hT.1
  have l6 : strN.getD k 0 < 100 := by
    match k, hk with
    | 0, _ => decide
    | 1, _ => decide
    | 2, _ => decide
    | 3, _ => decide
    | 4, _ => decide
    | 5, _ => decide
  refine w_X6_isWord hk (ws_length hk ?_)
  rw [h3, h4, pk_sub hf, nI_eq (by omega) (by omega)]
  refine ⟨fun c => ?_, fun c => h0 (fun z => c z.1)⟩
  have key : ∀ (j p : Nat), p + j = strN.getD k 0 → (∀ j', j' < p → nI (tx (f + j')) = (strB.getD k []).getD j' 0) → lp_X6_isWord_23 (d + 4) M k (nI (f + p)) K := by
    intro j
    induction j with
    | zero =>
      intro p hp hq
      refine z_X6_isWord_23 hk ?_
      rw [h4]
      exact ⟨fun _ => h1 ⟨c, fun j' hj' => hq j' (by omega)⟩, fun z => absurd (nI_le (by omega) (by omega)) z⟩
    | succ j ih =>
      intro p hp hq
      refine z_X6_isWord_23 hk ?_
      rw [h4, h3, pk_sub (by omega), show f + p - f = p by omega, nI_clamp (by omega), (hT.2.2 (f + p) (by omega)).1, nI_1]
      refine ⟨fun z => absurd z (nI_ge (by omega) (by omega)), fun _ => ⟨vp_in_nI (by omega) (by decide), ws_charAt hk (by omega) ⟨fun y => ih (p + 1) (by omega) (fun j' hj' => ?_), fun y => h0 (fun z => y (z.2 p (by omega)))⟩⟩⟩
      by_cases q : j' = p
      · rw [q]; exact y
      · exact hq j' (by omega)
  exact key (strN.getD k 0) 0 (by omega) (fun j' hj' => absurd hj' (by omega))
theorem c_readNumber {K : Int32 → Mm → Prop} {i lo h1 : Nat} {v2 : Int32} (hT : TxC M n tx) (hi : i ≤ n) (h4 : M.1 1 4 = nI i) (hlo : lo < 100) (hv2 : v2.toInt = (h1 : Int) - 1) (hK : ∀ M1, FrT M M1 → M1.1 1 3 = nI (tf n tx i) → M1.1 1 4 = nI (te n tx i) → (∀ v, numR n tx lo h1 (tf n tx i) (te n tx i) = some v → K (nI v) M1) ∧ (numR n tx lo h1 (tf n tx i) (te n tx i) = none → K (-1) M1)) : ACi (d + 3) X6_readNumber [.ref 1, .int (nI lo), .int v2] M K := by
  have hn := hT.1
  refine w_X6_readNumber (c_advance hT hi h4 (fun M1 g1 g2 g3 => ?_))
  have hT1 := hT.fr g1
  have tl := tf_le (tx := tx) hi
  have kl : tf n tx i ≤ te n tx i ∧ te n tx i ≤ n ∧ (tf n tx i < n → tf n tx i < te n tx i) ∧ (tf n tx i = n → te n tx i = n) ∧ (dgB (tx (tf n tx i)) = true → ∀ k, tf n tx i ≤ k → k < te n tx i → dgB (tx k) = true) := tk_le tl.2
  obtain ⟨ks, kn⟩ := hK M1 g1 g2 g3
  rw [g2, g3]
  clear hK
  generalize tf n tx i = f at *
  generalize te n tx i = e at *
  have none' : ¬ (f < n ∧ dgB (tx f) = true ∧ e - f ≤ 2 ∧ lo ≤ nv tx f e ∧ nv tx f e < h1) → K (-1) M1 := fun z => kn (by unfold numR; rw [if_neg z])
  rw [pk_sub kl.1, show (1 : Int32) = nI 1 from rfl, show (2 : Int32) = nI 2 from rfl, nI_ltI (by omega) (by decide), nI_leI (by omega) (by decide)]
  refine ⟨fun c => none' (fun z => by have := kl.2.2.1 z.1; omega), fun c => ⟨fun c2 => ?_, fun c2 => none' (fun z => c2 z.2.2.1)⟩⟩
  have fn : f < n := by
    rcases Nat.lt_or_ge f n with y | y
    · exact y
    · have := kl.2.2.2.1 (by omega); omega
  have cf := hT1.2.2 f fn
  -- the end: the number against its bounds
  have fin : dgB (tx f) = true → ∀ v, v = nv tx f e → v < 1000 → (nI v < nI lo → K (-1) M1) ∧ (¬ nI v < nI lo → ((nI v ≤ v2 → K (nI v) M1) ∧ (¬ nI v ≤ v2 → K (-1) M1))) := by
    intro hd v hv hl
    rw [nI_ltI (by omega) (by omega), fa_le, tN (by omega), hv2]
    refine ⟨fun y => none' (fun z => by omega), fun y => ⟨fun y2 => ks v ?_, fun y2 => none' (fun z => by omega)⟩⟩
    unfold numR
    rw [if_pos ⟨fn, hd, c2, by omega, by omega⟩, hv]
  have d48 : ∀ c, dgB c = true → 48 ≤ c ∧ c ≤ 57 := fun c z => of_decide_eq_true z
  refine z_X6_readNumber_35 ?_
  rw [g3, nI_clamp (by omega), cf.1]
  refine ⟨fun z => absurd z (nI_ge (by omega) (by omega)), fun _ => ⟨vp_in_nI (by omega) (by decide), c_digit cf.2 (fun q => ⟨fun _ => ⟨vp_in_nI (by omega) (by decide), ?_⟩, fun z => absurd z (by decide)⟩) (fun q => ⟨fun z => absurd rfl z, fun _ => none' (fun z => by rw [q] at z; exact absurd z.2.1 (by decide))⟩)⟩⟩
  have q1 := d48 _ q
  have e1 : (0 : Int32) * 10 + nI (tx f) - 48 = nI (tx f - 48) := by
    rw [show (0 : Int32) * 10 = nI 0 from rfl, nI_add, Nat.zero_add, show (48 : Int32) = nI 48 from rfl, pk_sub q1.1]
  rw [cf.1, e1, nI_1]
  refine z_X6_readNumber_35 ?_
  rw [g3]
  by_cases c3 : e = f + 1
  · refine ⟨fun _ => fin q _ ?_ (by omega), fun z => absurd (nI_le (by omega) (by omega)) z⟩
    unfold nv
    rw [if_neg (by omega)]
  · have c4 : e = f + 2 := by omega
    have cf2 := hT1.2.2 (f + 1) (by omega)
    have q2 : dgB (tx (f + 1)) = true := kl.2.2.2.2 q (f + 1) (by omega) (by omega)
    have q3 := d48 _ q2
    rw [nI_clamp (by omega), cf2.1]
    refine ⟨fun z => absurd z (nI_ge (by omega) (by omega)), fun _ => ⟨vp_in_nI (by omega) (by decide), c_digit cf2.2 (fun _ => ⟨fun _ => ⟨vp_in_nI (by omega) (by decide), ?_⟩, fun z => absurd z (by decide)⟩) (fun y => absurd (q2.symm.trans y) (by decide))⟩⟩
    have e2 : nI (tx f - 48) * 10 + nI (tx (f + 1)) - 48 = nI (10 * (tx f - 48) + (tx (f + 1) - 48)) := by
      rw [show nI (tx f - 48) * 10 = nI ((tx f - 48) * 10) from pk_mul _ 10, nI_add, show (48 : Int32) = nI 48 from rfl, pk_sub (by omega)]
      congr 1
      omega
    rw [cf2.1, e2, nI_1]
    refine z_X6_readNumber_35 ?_
    rw [g3]
    refine ⟨fun _ => fin q _ ?_ (by omega), fun z => absurd (nI_le (by omega) (by omega)) z⟩
    unfold nv
    rw [if_pos (by omega)]
end CC
