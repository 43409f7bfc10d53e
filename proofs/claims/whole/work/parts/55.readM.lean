/-! READING, the model's. -/
def FrR (dz : Bool) (M M1 : Mm) : Prop := M1.2 = M.2 ∧ (∀ q, q ≠ 42 → q ≠ 43 → q ≠ 44 → q ≠ 52 → M1.1 q = M.1 q) ∧ (∀ j, 5 < j → j < 18 → M1.1 42 j = M.1 42 j) ∧ (∀ j, 12 ≤ j → M1.1 43 j = M.1 43 j) ∧ (dz = false → M1.1 43 = M.1 43 ∧ M1.1 44 = M.1 44 ∧ ∀ j, j < 18 → M1.1 42 j = M.1 42 j)
theorem FrR.rf {dz : Bool} {M : Mm} : FrR dz M M := ⟨rfl, fun _ _ _ _ _ => rfl, fun _ _ _ => rfl, fun _ _ => rfl, fun _ => ⟨rfl, rfl, fun _ _ => rfl⟩⟩
theorem FrR.tr {dz : Bool} {M M1 M2 : Mm} (h : FrR dz M M1) (h2 : FrR dz M1 M2) : FrR dz M M2 := ⟨h2.1.trans h.1, fun q a c e g => (h2.2.1 q a c e g).trans (h.2.1 q a c e g), fun j a c => (h2.2.2.1 j a c).trans (h.2.2.1 j a c), fun j a => (h2.2.2.2.1 j a).trans (h.2.2.2.1 j a), fun z => ⟨(h2.2.2.2.2 z).1.trans (h.2.2.2.2 z).1, (h2.2.2.2.2 z).2.1.trans (h.2.2.2.2 z).2.1, fun j a => ((h2.2.2.2.2 z).2.2 j a).trans ((h.2.2.2.2 z).2.2 j a)⟩⟩
theorem FrR.w1 {dz : Bool} {M : Mm} {j : Nat} {x : Int32} (h : 18 ≤ j) : FrR dz M (wI M 42 j x) := ⟨rfl, fun q a _ _ _ => wI_ne a, fun i _ c => by
  have : ¬ i = j := by omega
  simp [rI, this], fun i _ => by simp [rI], fun _ => ⟨wI_ne (by decide), wI_ne (by decide), fun i c => by
  have : ¬ i = j := by omega
  simp [rI, this]⟩⟩
theorem FrR.w2 {dz : Bool} {M : Mm} {j : Nat} {x : Int32} : FrR dz M (wI M 52 j x) := ⟨rfl, fun q _ _ _ a => wI_ne a, fun i _ _ => by simp [rI], fun i _ => by simp [rI], fun _ => ⟨wI_ne (by decide), wI_ne (by decide), fun i _ => by simp [rI]⟩⟩
theorem FrR.w3 {M : Mm} {j : Nat} {x : Int32} (h : j ≤ 5) : FrR true M (wI M 42 j x) := ⟨rfl, fun q a _ _ _ => wI_ne a, fun i c _ => by
  have : ¬ i = j := by omega
  simp [rI, this], fun i _ => by simp [rI], fun z => absurd z (by decide)⟩
theorem FrR.w4 {M : Mm} {j : Nat} {x : Int32} (h : j < 12) : FrR true M (wI M 43 j x) := ⟨rfl, fun q _ a _ _ => wI_ne a, fun i _ _ => by simp [rI], fun i c => by
  have : ¬ i = j := by omega
  simp [rI, this], fun z => absurd z (by decide)⟩
theorem FrR.w5 {M : Mm} {j : Nat} {x : Int32} : FrR true M (wI M 44 j x) := ⟨rfl, fun q _ _ a _ => wI_ne a, fun i _ _ => by simp [rI], fun i c => by simp [rI], fun z => absurd z (by decide)⟩
theorem FrN.r {dz : Bool} {M M1 : Mm} (h : FrN M M1) : FrR dz M M1 := ⟨h.1, fun q a _ _ _ => h.2.1 q a, fun j _ c => h.2.2 j (by omega) (by omega), fun j _ => by rw [h.2.1 43 (by decide)], fun _ => ⟨h.2.1 43 (by decide), h.2.1 44 (by decide), fun j c => h.2.2 j (by omega) (by omega)⟩⟩
theorem TxM.frr {dz : Bool} {M M1 : Mm} {n : Nat} {tx : Nat → Nat} (h : TxM M n tx) (f : FrR dz M M1) : TxM M1 n tx := ⟨h.1, (f.2.2.1 10 (by decide) (by decide)).trans h.2.1, fun i hi => by rw [f.2.1 46 (by decide) (by decide) (by decide) (by decide)]; exact h.2.2 i hi⟩
theorem WordsI.frr {dz : Bool} {M M1 : Mm} (h : WordsI M) (f : FrR dz M M1) : WordsI M1 := h.of (fun q a c => f.2.1 q (by omega) (by omega) (by omega) (by omega))
def TrM (M : Mm) (s : BS) (dz : Bool) : Prop := M.1 42 20 = nI (zb s) ∧ M.1 42 21 = nI (zr s) ∧ M.1 42 22 = nI (zl s) ∧ M.1 42 24 = (if dz then 1 else 0)
def MdD (M : Mm) (s : BS) : Prop := M.1 42 1 = nI (zb s) ∧ M.1 42 2 = nI (zw s) ∧ M.1 42 3 = nI (zg s) ∧ M.1 42 4 = nI (zr s) ∧ (∀ i, i < zr s → M.1 44 i = nI (zn s i)) ∧ M.1 42 5 = nI (zl s) ∧ (∀ i, i < zl s → M.1 43 i = nI (zp s i) ∧ M.1 43 (6 + i) = oi (zo s i)) ∧ ∀ i, zl s ≤ i → i < 6 → M.1 43 (6 + i) = -1
/-- what reading a number or a rhythm changes -/
def FrK (M M1 : Mm) : Prop := M1.2 = M.2 ∧ (∀ q, q ≠ 42 → q ≠ 52 → M1.1 q = M.1 q) ∧ ∀ j, j ≠ 18 → j ≠ 19 → M1.1 42 j = M.1 42 j
theorem FrK.tr {M M1 M2 : Mm} (h : FrK M M1) (h2 : FrK M1 M2) : FrK M M2 := ⟨h2.1.trans h.1, fun q a c => (h2.2.1 q a c).trans (h.2.1 q a c), fun j a c => (h2.2.2 j a c).trans (h.2.2 j a c)⟩
theorem FrK.rf {M : Mm} : FrK M M := ⟨rfl, fun _ _ _ => rfl, fun _ _ _ => rfl⟩
theorem FrN.k {M M1 : Mm} (h : FrN M M1) : FrK M M1 := ⟨h.1, fun q a _ => h.2.1 q a, h.2.2⟩
theorem FrK.w {M : Mm} {j : Nat} {x : Int32} : FrK M (wI M 52 j x) := ⟨rfl, fun q _ c => wI_ne c, fun i _ _ => by simp [rI]⟩
theorem FrK.r {dz : Bool} {M M1 : Mm} (h : FrK M M1) : FrR dz M M1 := ⟨h.1, fun q a _ _ c => h.2.1 q a c, fun j _ c => h.2.2 j (by omega) (by omega), fun j _ => by rw [h.2.1 43 (by decide) (by decide)], fun _ => ⟨h.2.1 43 (by decide) (by decide), h.2.1 44 (by decide) (by decide), fun j c => h.2.2 j (by omega) (by omega)⟩⟩
theorem TrM.k {M M1 : Mm} {s : BS} {dz : Bool} (h : TrM M s dz) (f : FrK M M1) : TrM M1 s dz := ⟨(f.2.2 20 (by decide) (by decide)).trans h.1, (f.2.2 21 (by decide) (by decide)).trans h.2.1, (f.2.2 22 (by decide) (by decide)).trans h.2.2.1, (f.2.2 24 (by decide) (by decide)).trans h.2.2.2⟩
theorem MdD.k {M M1 : Mm} {s : BS} (h : MdD M s) (f : FrK M M1) : MdD M1 s := by
  obtain ⟨h1, h2, h3, h4, h5, h6, h7, h8⟩ := h
  have e43 := f.2.1 43 (by decide) (by decide)
  have e44 := f.2.1 44 (by decide) (by decide)
  exact ⟨(f.2.2 1 (by decide) (by decide)).trans h1, (f.2.2 2 (by decide) (by decide)).trans h2, (f.2.2 3 (by decide) (by decide)).trans h3, (f.2.2 4 (by decide) (by decide)).trans h4, fun i hi => by rw [e44]; exact h5 i hi, (f.2.2 5 (by decide) (by decide)).trans h6, fun i hi => by rw [e43]; exact h7 i hi, fun i a c => by rw [e43]; exact h8 i a c⟩
section RM
variable {d : Nat} {M : Mm} {n : Nat} {tx : Nat → Nat} {s : BS} {dz : Bool}
theorem shw {k : Nat} (hk : k < 6) : shp (53 + k) = .inl (0, strN.getD k 0, []) ∧ 53 + k < NSH := by
  match k, hk with
  | 0, _ => exact ⟨rfl, by decide⟩
  | 1, _ => exact ⟨rfl, by decide⟩
  | 2, _ => exact ⟨rfl, by decide⟩
  | 3, _ => exact ⟨rfl, by decide⟩
  | 4, _ => exact ⟨rfl, by decide⟩
  | 5, _ => exact ⟨rfl, by decide⟩
theorem c_isWordM {K : Int32 → Mm → Prop} {k f e : Nat} (hk : k < 6) (hT : TxM M n tx) (hW : WordsI M) (h3 : M.1 42 18 = nI f) (h4 : M.1 42 19 = nI e) (hf : f ≤ e) (he : e ≤ n) (h1 : isW tx k f e → K 1 M) (h0 : ¬ isW tx k f e → K 0 M) : ACi (d + 1) X9_isWord [.ref 42, .ref (53 + k)] M K := by
  have hn := hT.1
  have l6 : strN.getD k 0 < 100 := by
    match k, hk with
    | 0, _ => decide
    | 1, _ => decide
    | 2, _ => decide
    | 3, _ => decide
    | 4, _ => decide
    | 5, _ => decide
  have hs := shw hk
  refine w_X9_isWord hs ?_
  rw [h3, h4, pk_sub hf, nI_eq (by omega) (by omega)]
  have no : ∀ v, ¬ isW tx k f e → lp_X9_isWord_22 d M (53 + k) (strN.getD k 0) 0 v K := fun v z => z_X9_isWord_22 hs ⟨fun _ => ⟨Or.inl rfl, h0 z⟩, fun _ => ⟨fun _ => ⟨Or.inl rfl, h0 z⟩, fun y => absurd rfl y⟩⟩
  refine ⟨fun c => no 0 (fun z => c z.1), fun c => ?_⟩
  have key : ∀ (j p : Nat), p + j = strN.getD k 0 → (∀ j', j' < p → nI (tx (f + j')) = (strB.getD k []).getD j' 0) → lp_X9_isWord_22 d M (53 + k) (strN.getD k 0) 1 (nI p) K := by
    intro j
    induction j with
    | zero =>
      intro p hp hq
      exact z_X9_isWord_22 hs ⟨fun _ => ⟨Or.inr rfl, h1 ⟨c, fun j' hj' => hq j' (by omega)⟩⟩, fun z => absurd (nI_le (by omega) (by omega)) z⟩
    | succ j ih =>
      intro p hp hq
      refine z_X9_isWord_22 hs ?_
      rw [h3, nI_add, nI_clamp (n := f + p) (by omega), nI_clamp (n := p) (by omega), (hT.2.2 (f + p) (by omega)).1, hW k hk p (by omega), nI_1]
      refine ⟨fun z => absurd z (nI_ge (by omega) (by omega)), fun _ => ⟨fun z => absurd z (by decide), fun _ => ⟨vp_in_nI (by omega) (by decide), vp_in_nI (by omega) (by omega), fun y => no _ (fun z => y (z.2 p (by omega))), fun y => ih (p + 1) (by omega) (fun j' hj' => ?_)⟩⟩⟩
      by_cases q : j' = p
      · rw [q]; exact y
      · exact hq j' (by omega)
  exact key (strN.getD k 0) 0 (by omega) (fun j' hj' => absurd hj' (by omega))
theorem c_number {K : Int32 → Mm → Prop} {i lo h1 kk : Nat} {v3 : Int32} (hT : TxM M n tx) (hi : i ≤ n) (h18 : M.1 42 18 = nI (tf n tx i)) (h19 : M.1 42 19 = nI (te n tx i)) (hkk : kk < 2) (hlo : lo < 100) (hv3 : v3.toInt = (h1 : Int) - 1) (hs : ∀ M1 v, FrK M M1 → numR n tx lo h1 (tf n tx i) (te n tx i) = some v → M1.1 52 kk = nI v → (∀ j, j ≠ kk → M1.1 52 j = M.1 52 j) → M1.1 42 18 = nI (tf n tx (te n tx i)) → M1.1 42 19 = nI (te n tx (te n tx i)) → K 1 M1) (hn : numR n tx lo h1 (tf n tx i) (te n tx i) = none → K 0 M) : ACi (d + 5) X9_number [.ref 42, .int (nI kk), .int (nI lo), .int v3] M K := by
  have n200 := hT.1
  have tl := tf_le (tx := tx) hi
  have kl : tf n tx i ≤ te n tx i ∧ te n tx i ≤ n ∧ (tf n tx i < n → tf n tx i < te n tx i) ∧ (tf n tx i = n → te n tx i = n) ∧ (dgB (tx (tf n tx i)) = true → ∀ k, tf n tx i ≤ k → k < te n tx i → dgB (tx k) = true) := tk_le tl.2
  refine w_X9_number ?_
  rw [h18, hT.2.1]
  generalize tf n tx i = f at *
  generalize te n tx i = e at *
  have none' : ¬ (f < n ∧ dgB (tx f) = true ∧ e - f ≤ 2 ∧ lo ≤ nv tx f e ∧ nv tx f e < h1) → K 0 M := fun z => hn (by unfold numR; rw [if_neg z])
  rw [nI_eq (by omega) (by omega), nI_clamp (by omega)]
  refine ⟨fun c => none' (fun z => by omega), fun c => ⟨vp_in_nI (by omega) (by decide), ?_⟩⟩
  have fn : f < n := by omega
  have cf := hT.2.2 f fn
  have d48 : ∀ c, dgB c = true → 48 ≤ c ∧ c ≤ 57 := fun c z => of_decide_eq_true z
  rw [cf.1]
  refine c_digitM cf.2 (fun q => ⟨fun z => absurd z (by decide), fun _ => ?_⟩) (fun q => ⟨fun _ => none' (fun z => by rw [q] at z; exact absurd z.2.1 (by decide)), fun z => absurd rfl z⟩)
  have q1 := d48 _ q
  rw [h18, h19, pk_sub kl.1, show (2 : Int32) = nI 2 from rfl, nI_leI (by omega) (by decide), nI_eq (by omega) (by decide), nI_clamp (n := f) (by omega), cf.1]
  refine ⟨fun c2 => ⟨vp_in_nI (by omega) (by decide), ?_⟩, fun c2 => none' (fun z => c2 z.2.2.1)⟩
  have vkk : vp_in (nI kk) 2 := vp_in_nI hkk (by decide)
  -- the end
  have fin : ∀ v, v = nv tx f e → v < 1000 → ACi (d + 4) X9_in [.long (nI v).toInt64, .long (nI lo).toInt64, .long v3.toInt64] M (fun r2 M2 => (r2 = 0 → ((r2 = 0 ∨ r2 = 1) ∧ K r2 M2)) ∧ (¬ r2 = 0 → (vp_in (nI kk) 2 ∧ (ACv (d + 4) X9_nextToken [.ref 42] (wI M2 52 (nI kk).toNatClampNeg (nI v)) (fun M3 => (r2 = 0 ∨ r2 = 1) ∧ K r2 M3))))) := by
    intro v hv hl
    refine c_in (l := (lo : Int)) (u := (h1 : Int) - 1) (by rw [Int32.toInt_toInt64, tN (by omega)]) (by rw [Int32.toInt_toInt64]; exact hv3) (fun a b => ⟨fun z => absurd z (by decide), fun _ => ⟨vkk, ?_⟩⟩) (fun a => ⟨fun _ => ⟨Or.inl rfl, none' (fun z => by rw [tN (by omega)] at a; omega)⟩, fun z => absurd rfl z⟩)
    rw [tN (by omega)] at a b
    rw [nI_clamp (by omega)]
    refine c_nextToken (i := e) ⟨hT.1, by simp [rI, hT.2.1], fun i hi => by simp [rI]; exact hT.2.2 i hi⟩ kl.2.1 (by simp [rI, h19]) (fun M3 y1 y2 y3 => ⟨Or.inr rfl, hs M3 v (FrK.w.tr y1.k) ?_ ?_ (fun j hj => ?_) y2 y3⟩)
    · unfold numR
      rw [if_pos ⟨fn, q, c2, by omega, by omega⟩, hv]
    · rw [y1.2.1 52 (by decide)]; simp [rI]
    · rw [y1.2.1 52 (by decide)]; simp [rI, hj]
  have e1 : nI (tx f) - 48 = nI (tx f - 48) := by rw [show (48 : Int32) = nI 48 from rfl, pk_sub q1.1]
  rw [e1]
  refine ⟨fun c3 => fin _ ?_ (by omega), fun c3 => ?_⟩
  · unfold nv; rw [if_neg c3]
  · have cf2 := hT.2.2 (f + 1) (by omega)
    have q3 := d48 _ (kl.2.2.2.2 q (f + 1) (by omega) (by omega))
    have e2 : (10 : Int32) * nI (tx f - 48) + nI (tx (f + 1)) - 48 = nI (10 * (tx f - 48) + (tx (f + 1) - 48)) := by
      rw [show (10 : Int32) * nI (tx f - 48) = nI (10 * (tx f - 48)) from pk_mul 10 _, nI_add, show (48 : Int32) = nI 48 from rfl, pk_sub (by omega)]
      congr 1
      omega
    rw [nI_1, nI_clamp (n := f + 1) (by omega), cf2.1, e2]
    refine ⟨vp_in_nI (by omega) (by decide), fin _ ?_ (by omega)⟩
    unfold nv; rw [if_pos c3]
theorem c_readsBeats {K : Int32 → Mm → Prop} {i b : Nat} (hT : TxM M n tx) (hi : i ≤ n) (hb : 3 ≤ b) (hb8 : b ≤ 8) (h20 : M.1 42 20 = nI b) (h18 : M.1 42 18 = nI (tf n tx i)) (h19 : M.1 42 19 = nI (te n tx i)) (hs : ∀ M1 v, FrK M M1 → rhR n tx b (tf n tx i) (te n tx i) = some v → M1.1 52 0 = nI v → M1.1 42 18 = nI (tf n tx (te n tx i)) → M1.1 42 19 = nI (te n tx (te n tx i)) → K 1 M1) (hn : rhR n tx b (tf n tx i) (te n tx i) = none → K 0 M) : ACi (d + 5) X9_readsBeats [.ref 42] M K := by
  have n200 := hT.1
  have tl := tf_le (tx := tx) hi
  have kl : tf n tx i ≤ te n tx i ∧ te n tx i ≤ n ∧ (tf n tx i < n → tf n tx i < te n tx i) ∧ (tf n tx i = n → te n tx i = n) ∧ (dgB (tx (tf n tx i)) = true → ∀ k, tf n tx i ≤ k → k < te n tx i → dgB (tx k) = true) := tk_le tl.2
  refine w_X9_readsBeats ?_
  rw [h18, h19, hT.2.1, h20]
  generalize tf n tx i = f at *
  generalize te n tx i = e at *
  have none' : ¬ (f < n ∧ e - f = b ∧ ∀ k, k < e - f → tx (f + k) = 100 ∨ tx (f + k) = 102) → K 0 M := fun z => hn (by unfold rhR; rw [if_neg z])
  have no : ∀ v v2, ¬ (f < n ∧ e - f = b ∧ ∀ k, k < e - f → tx (f + k) = 100 ∨ tx (f + k) = 102) → lp_X9_readsBeats_40 (d + 4) M 0 v2 v K := fun v v2 z => z_X9_readsBeats_40 ⟨fun _ => ⟨fun _ => ⟨Or.inl rfl, none' z⟩, fun y => absurd rfl y⟩, fun _ => ⟨fun _ => ⟨fun _ => ⟨Or.inl rfl, none' z⟩, fun y => absurd rfl y⟩, fun y => absurd rfl y⟩⟩
  rw [nI_leI (by omega) (by omega), pk_sub kl.1, nI_eq (by omega) (by omega)]
  refine ⟨fun c => no _ _ (fun z => by omega), fun c => ⟨fun c2 => no _ _ (fun z => c2 z.2.1), fun c2 => ?_⟩⟩
  have key : ∀ (j k : Nat), k + j = e - f → (∀ k', k' < k → tx (f + k') = 100 ∨ tx (f + k') = 102) → lp_X9_readsBeats_40 (d + 4) M 1 (nI (rhV tx f k)) (nI (f + k)) K := by
    intro j
    induction j with
    | zero =>
      intro k hk hq
      refine z_X9_readsBeats_40 ?_
      rw [h19]
      refine ⟨fun _ => ⟨fun z => absurd z (by decide), fun _ => c_nextToken (i := e) ⟨hT.1, by simp [rI, hT.2.1], fun i hi => by simp [rI]; exact hT.2.2 i hi⟩ kl.2.1 (by simp [rI, h19]) (fun M3 y1 y2 y3 => ⟨Or.inr rfl, hs M3 (rhV tx f k) (FrK.w.tr y1.k) ?_ ?_ y2 y3⟩)⟩, fun z => absurd (nI_le (by omega) (by omega)) z⟩
      · unfold rhR
        rw [if_pos ⟨by omega, c2, fun k' hk' => hq k' (by omega)⟩, show e - f = k by omega]
      · rw [y1.2.1 52 (by decide)]; simp [rI]
    | succ j ih =>
      intro k hk hq
      have cf := hT.2.2 (f + k) (by omega)
      have c255 := cf.2
      have vk : vp_in (nI (f + k)) 200 := vp_in_nI (by omega) (by decide)
      have st := ih (k + 1) (by omega)
      rw [rhV] at st
      have m2 : (2 : Int32) * nI (rhV tx f k) = nI (2 * rhV tx f k) := pk_mul 2 _
      have o0 : nI (2 * rhV tx f k) + 0 = nI (2 * rhV tx f k + 0) := nI_add _ 0
      refine z_X9_readsBeats_40 ?_
      rw [h19, nI_clamp (by omega), cf.1, m2, o0, nI_1 (2 * _), nI_1 (f + k), show (100 : Int32) = nI 100 from rfl, show (102 : Int32) = nI 102 from rfl, nI_eq (by omega) (by decide), nI_eq (by omega) (by decide)]
      refine ⟨fun z => absurd z (nI_ge (by omega) (by omega)), fun _ => ⟨fun z => absurd z (by decide), fun _ => ⟨vk, fun y => ⟨vk, fun y2 => ?_, fun y2 => absurd (y.symm.trans y2) (by decide)⟩, fun y => ⟨vk, fun y2 => ⟨vk, fun _ => no _ _ (fun z => (z.2.2 k (by omega)).elim y y2), fun y3 => absurd y3 y2⟩, fun y2 => ⟨vk, fun y3 => absurd y2 y3, fun _ => ?_⟩⟩⟩⟩⟩
      · rw [if_neg y2] at st
        exact st (fun k' hk' => by
          by_cases q : k' = k
          · rw [q]; exact Or.inl y
          · exact hq k' (by omega))
      · rw [if_pos y2] at st
        exact st (fun k' hk' => by
          by_cases q : k' = k
          · rw [q]; exact Or.inr y2
          · exact hq k' (by omega))
  exact key (e - f) 0 (by omega) (fun k' hk' => absurd hk' (by omega))
theorem c_anew {K : Mm → Prop} {v1 : Int32} (hK : ∀ M1, FrR true M M1 → M1.1 42 1 = v1 → M1.1 42 2 = 2 → M1.1 42 3 = 20 → M1.1 42 4 = 0 → M1.1 42 5 = 0 → (∀ j, 18 ≤ j → M1.1 42 j = M.1 42 j) → (∀ i, i < 6 → M1.1 43 (6 + i) = -1) → K M1) : ACv (d + 1) X9_anew [.ref 42, .int v1] M K := by
  refine w_X9_anew ?_
  have e6 : ∀ n : Nat, (6 : Int32) + nI n = nI (6 + n) := fun n => nI_add 6 n
  generalize hN0 : wI (wI (wI (wI (wI M 42 1 v1) 42 2 2) 42 3 20) 42 4 0) 42 5 0 = N0
  have f0 : FrR true M N0 := by
    rw [← hN0]
    exact ((((FrR.w3 (by decide)).tr (FrR.w3 (by decide))).tr (FrR.w3 (by decide))).tr (FrR.w3 (by decide))).tr (FrR.w3 (by decide))
  have key : ∀ (j l : Nat) (N : Mm), l + j = 6 → FrR true M N → N.1 42 = N0.1 42 → (∀ i, i < l → N.1 43 (6 + i) = -1) → lp_X9_anew_28 d N (nI l) K := by
    intro j
    induction j with
    | zero =>
      intro l N hl f g h
      have : l = 6 := by omega
      subst this
      refine z_X9_anew_28 ⟨fun _ => hK N f ?_ ?_ ?_ ?_ ?_ (fun j hj => ?_) h, fun c => absurd (by decide) c⟩
      · rw [g, ← hN0]; simp [rI]
      · rw [g, ← hN0]; simp [rI]
      · rw [g, ← hN0]; simp [rI]
      · rw [g, ← hN0]; simp [rI]
      · rw [g, ← hN0]; simp [rI]
      · rw [g, ← hN0]
        have c1 : ¬ j = 1 := by omega
        have c2 : ¬ j = 2 := by omega
        have c3 : ¬ j = 3 := by omega
        have c4 : ¬ j = 4 := by omega
        have c5 : ¬ j = 5 := by omega
        simp [rI, c1, c2, c3, c4, c5]
    | succ j ih =>
      intro l N hl f g h
      refine z_X9_anew_28 ⟨fun c => absurd c (nI_ge (b := 6) (by omega) (by omega)), fun _ => ?_⟩
      rw [z0, e6, nI_clamp (n := l) (by omega), nI_clamp (n := 6 + l) (by omega), nI_1]
      refine ⟨vp_in_nI (by omega) (by decide), vp_in_nI (by omega) (by decide), ih (l + 1) _ (by omega) (f.tr ((FrR.w4 (by omega)).tr (FrR.w4 (by omega)))) ?_ (fun i hi => ?_)⟩
      · rw [wI_ne (by decide), wI_ne (by decide)]; exact g
      · by_cases c : i = l
        · subst c; simp [rI]
        · have c1 : ¬ 6 + i = 6 + l := by omega
          have c2 : ¬ 6 + i = l := by omega
          simp only [rI]
          rw [if_neg (fun y => c1 y.2), if_neg (fun y => c2 y.2)]
          exact h i (by omega)
  exact key 6 0 N0 (by omega) f0 rfl (fun i hi => absurd hi (by omega))
end RM
