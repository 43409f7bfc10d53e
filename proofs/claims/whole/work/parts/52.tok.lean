/-! TOKENS of the text, both sides. -/
def smB (c : Nat) : Bool := decide (97 ≤ c ∧ c ≤ 122)
def dgB (c : Nat) : Bool := decide (48 ≤ c ∧ c ≤ 57)
def skF (n : Nat) (tx : Nat → Nat) : Nat → Nat → Nat
  | 0, i => i
  | j + 1, i => if i < n ∧ tx i = 32 then skF n tx j (i + 1) else i
def ruF (P : Nat → Bool) (n : Nat) (tx : Nat → Nat) : Nat → Nat → Nat
  | 0, e => e
  | j + 1, e => if e < n ∧ P (tx e) = true then ruF P n tx j (e + 1) else e
def tf (n : Nat) (tx : Nat → Nat) (i : Nat) : Nat := skF n tx (n - i) i
def tk (n : Nat) (tx : Nat → Nat) (f : Nat) : Nat := if f < n then (if smB (tx f) = true then ruF smB n tx (n - (f + 1)) (f + 1) else if dgB (tx f) = true then ruF dgB n tx (n - (f + 1)) (f + 1) else f + 1) else f
def te (n : Nat) (tx : Nat → Nat) (i : Nat) : Nat := tk n tx (tf n tx i)
theorem skF_le {n : Nat} {tx : Nat → Nat} : ∀ (j i : Nat), i ≤ n → i ≤ skF n tx j i ∧ skF n tx j i ≤ n
  | 0, i, h => ⟨Nat.le_refl _, h⟩
  | j + 1, i, h => by
    rw [skF]
    split
    · rename_i c
      have := skF_le (n := n) (tx := tx) j (i + 1) (by have := c.1; omega)
      omega
    · omega
theorem ruF_le {P : Nat → Bool} {n : Nat} {tx : Nat → Nat} : ∀ (j e : Nat), e ≤ n → e ≤ ruF P n tx j e ∧ ruF P n tx j e ≤ n ∧ ∀ k, e ≤ k → k < ruF P n tx j e → P (tx k) = true
  | 0, e, h => ⟨Nat.le_refl _, h, fun k h1 h2 => by rw [ruF] at h2; omega⟩
  | j + 1, e, h => by
    rw [ruF]
    split
    · rename_i c
      have := ruF_le (P := P) (n := n) (tx := tx) j (e + 1) (by have := c.1; omega)
      refine ⟨by omega, this.2.1, fun k h1 h2 => ?_⟩
      by_cases y : k = e
      · rw [y]; exact c.2
      · exact this.2.2 k (by omega) h2
    · exact ⟨Nat.le_refl _, h, fun k h1 h2 => by omega⟩
theorem tf_le {n : Nat} {tx : Nat → Nat} {i : Nat} (h : i ≤ n) : i ≤ tf n tx i ∧ tf n tx i ≤ n := skF_le _ _ h
theorem tk_le {n : Nat} {tx : Nat → Nat} {f : Nat} (h : f ≤ n) : f ≤ tk n tx f ∧ tk n tx f ≤ n ∧ (f < n → f < tk n tx f) ∧ (f = n → tk n tx f = n) ∧ (dgB (tx f) = true → ∀ k, f ≤ k → k < tk n tx f → dgB (tx k) = true) := by
  unfold tk
  by_cases c : f < n
  · rw [if_pos c]
    by_cases c1 : smB (tx f) = true
    · rw [if_pos c1]
      have r := ruF_le (P := smB) (tx := tx) (n - (f + 1)) (f + 1) (show f + 1 ≤ n by omega)
      refine ⟨by omega, r.2.1, fun _ => by omega, fun z => by omega, fun z => ?_⟩
      unfold smB at c1
      unfold dgB at z
      have a1 := of_decide_eq_true c1
      have a2 := of_decide_eq_true z
      omega
    · rw [if_neg c1]
      by_cases c2 : dgB (tx f) = true
      · rw [if_pos c2]
        have r := ruF_le (P := dgB) (tx := tx) (n - (f + 1)) (f + 1) (show f + 1 ≤ n by omega)
        refine ⟨by omega, r.2.1, fun _ => by omega, fun z => by omega, fun _ k h1 h2 => ?_⟩
        by_cases y : k = f
        · rw [y]; exact c2
        · exact r.2.2 k (by omega) h2
      · rw [if_neg c2]
        exact ⟨by omega, by omega, fun _ => by omega, fun z => by omega, fun z => absurd z c2⟩
  · rw [if_neg c]
    exact ⟨Nat.le_refl _, h, fun z => absurd z c, fun z => z, fun _ k h1 h2 => by omega⟩
theorem te_le {n : Nat} {tx : Nat → Nat} {i : Nat} (h : i ≤ n) : te n tx i ≤ n ∧ tf n tx i ≤ te n tx i := ⟨(tk_le (tf_le h).2).2.1, (tk_le (tf_le h).2).1⟩
def TxC (M : Mm) (n : Nat) (tx : Nat → Nat) : Prop := n ≤ 200 ∧ M.1 1 0 = nI n ∧ ∀ i, i < n → M.1 2 i = nI (tx i) ∧ tx i < 256
def TxM (M : Mm) (n : Nat) (tx : Nat → Nat) : Prop := n ≤ 200 ∧ M.1 42 10 = nI n ∧ ∀ i, i < n → M.1 46 i = nI (tx i) ∧ tx i < 256
def FrT (M M1 : Mm) : Prop := M1.2 = M.2 ∧ (∀ q, q ≠ 1 → M1.1 q = M.1 q) ∧ ∀ j, j ≠ 3 → j ≠ 4 → M1.1 1 j = M.1 1 j
theorem FrT.rf {M : Mm} : FrT M M := ⟨rfl, fun _ _ => rfl, fun _ _ _ => rfl⟩
theorem FrT.tr {M M1 M2 : Mm} (h : FrT M M1) (h2 : FrT M1 M2) : FrT M M2 := ⟨h2.1.trans h.1, fun q a => (h2.2.1 q a).trans (h.2.1 q a), fun j a c => (h2.2.2 j a c).trans (h.2.2 j a c)⟩
theorem FrT.w {M : Mm} {j : Nat} {x : Int32} (h : j = 3 ∨ j = 4) : FrT M (wI M 1 j x) := ⟨rfl, fun q a => wI_ne a, fun j' a c => by
  have : ¬ j' = j := by omega
  simp [rI, this]⟩
theorem TxC.fr {M M1 : Mm} {n : Nat} {tx : Nat → Nat} (h : TxC M n tx) (f : FrT M M1) : TxC M1 n tx := ⟨h.1, (f.2.2 0 (by decide) (by decide)).trans h.2.1, fun i hi => by rw [f.2.1 2 (by decide)]; exact h.2.2 i hi⟩
/-- the model's reading cells -/
def FrN (M M1 : Mm) : Prop := M1.2 = M.2 ∧ (∀ q, q ≠ 42 → M1.1 q = M.1 q) ∧ ∀ j, j ≠ 18 → j ≠ 19 → M1.1 42 j = M.1 42 j
theorem FrN.rf {M : Mm} : FrN M M := ⟨rfl, fun _ _ => rfl, fun _ _ _ => rfl⟩
theorem FrN.tr {M M1 M2 : Mm} (h : FrN M M1) (h2 : FrN M1 M2) : FrN M M2 := ⟨h2.1.trans h.1, fun q a => (h2.2.1 q a).trans (h.2.1 q a), fun j a c => (h2.2.2 j a c).trans (h.2.2 j a c)⟩
theorem FrN.w {M : Mm} {j : Nat} {x : Int32} (h : j = 18 ∨ j = 19) : FrN M (wI M 42 j x) := ⟨rfl, fun q a => wI_ne a, fun j' a c => by
  have : ¬ j' = j := by omega
  simp [rI, this]⟩
theorem TxM.fr {M M1 : Mm} {n : Nat} {tx : Nat → Nat} (h : TxM M n tx) (f : FrN M M1) : TxM M1 n tx := ⟨h.1, (f.2.2 10 (by decide) (by decide)).trans h.2.1, fun i hi => by rw [f.2.1 46 (by decide)]; exact h.2.2 i hi⟩
section TK
variable {d : Nat} {M : Mm} {n : Nat} {tx : Nat → Nat}
theorem c_small {K : Int32 → Mm → Prop} {c : Nat} (hc : c < 256) (h1 : smB c = true → K 1 M) (h0 : smB c = false → K 0 M) : ACi (d + 1) X6_isSmall [.int (nI c)] M K := by
  refine w_X6_isSmall ?_
  rw [show (97 : Int32) = nI 97 from rfl, show (122 : Int32) = nI 122 from rfl, nI_ltI (by omega) (by decide), nI_ltI (by decide) (by omega)]
  exact ⟨fun z => h0 (decide_eq_false (by omega)), fun z => ⟨fun y => h0 (decide_eq_false (by omega)), fun y => h1 (decide_eq_true (by omega))⟩⟩
theorem c_digit {K : Int32 → Mm → Prop} {c : Nat} (hc : c < 256) (h1 : dgB c = true → K 1 M) (h0 : dgB c = false → K 0 M) : ACi (d + 1) X6_isDigit [.int (nI c)] M K := by
  refine w_X6_isDigit ?_
  rw [show (48 : Int32) = nI 48 from rfl, show (57 : Int32) = nI 57 from rfl, nI_ltI (by omega) (by decide), nI_ltI (by decide) (by omega)]
  exact ⟨fun z => h0 (decide_eq_false (by omega)), fun z => ⟨fun y => h0 (decide_eq_false (by omega)), fun y => h1 (decide_eq_true (by omega))⟩⟩
theorem c_letterM {K : Int32 → Mm → Prop} {c : Nat} (hc : c < 256) (h1 : smB c = true → K 1 M) (h0 : smB c = false → K 0 M) : ACi (d + 2) X9_isLetter [.int (nI c)] M K :=
  w_X9_isLetter (c_in (l := 97) (u := 122) (by decide) (by decide) (fun a b => ⟨Or.inr rfl, h1 (decide_eq_true (by rw [tN (by omega)] at a b; omega))⟩) (fun a => ⟨Or.inl rfl, h0 (decide_eq_false (by rw [tN (by omega)] at a; omega))⟩))
theorem c_digitM {K : Int32 → Mm → Prop} {c : Nat} (hc : c < 256) (h1 : dgB c = true → K 1 M) (h0 : dgB c = false → K 0 M) : ACi (d + 2) X9_isDigit [.int (nI c)] M K :=
  w_X9_isDigit (c_in (l := 48) (u := 57) (by decide) (by decide) (fun a b => ⟨Or.inr rfl, h1 (decide_eq_true (by rw [tN (by omega)] at a b; omega))⟩) (fun a => ⟨Or.inl rfl, h0 (decide_eq_false (by rw [tN (by omega)] at a; omega))⟩))
theorem c_advance {K : Mm → Prop} {i : Nat} (hT : TxC M n tx) (hi : i ≤ n) (h4 : M.1 1 4 = nI i) (hK : ∀ M1, FrT M M1 → M1.1 1 3 = nI (tf n tx i) → M1.1 1 4 = nI (te n tx i) → K M1) : ACv (d + 2) X6_advance [.ref 1] M K := by
  have hn := hT.1
  refine w_X6_advance ?_
  have run : ∀ (P : Nat → Bool) (v1 v2 : Int32), ((v1 = 1 ∧ v2 = 0 ∧ P = smB) ∨ (v1 = 0 ∧ v2 = 1 ∧ P = dgB)) → ∀ (f j e : Nat) (N : Mm), e + j = n → FrT M N → N.1 1 3 = nI f → N.1 1 4 = nI e → f = tf n tx i → ruF P n tx j e = te n tx i → lp_X6_advance_102 (d + 1) N v1 v2 K := by
    intro P v1 v2 hv f j
    induction j with
    | zero =>
      intro e N he g1 g2 g3 g4 g5
      have hTN := hT.fr g1
      refine z_X6_advance_102 ?_
      rw [hTN.2.1, g3]
      refine ⟨fun _ => hK N g1 (by rw [g2, g4]) (by rw [g3, ← g5]; rfl), fun c => absurd (nI_le (by omega) (by omega)) c⟩
    | succ j ih =>
      intro e N he g1 g2 g3 g4 g5
      have hTN := hT.fr g1
      have hc := hTN.2.2 e (by omega)
      rw [ruF] at g5
      have stop : P (tx e) = false → K N := fun z => by
        rw [if_neg (fun y => by rw [z] at y; exact absurd y.2 (by decide))] at g5
        exact hK N g1 (by rw [g2, g4]) (by rw [g3, ← g5])
      have go : P (tx e) = true → lp_X6_advance_102 (d + 1) (wI N 1 4 (nI (e + 1))) v1 v2 K := fun z => by
        rw [if_pos ⟨by omega, z⟩] at g5
        exact ih (e + 1) _ (by omega) (g1.tr (FrT.w (Or.inr rfl))) (by simp [rI, g2]) (by simp [rI]) g4 g5
      refine z_X6_advance_102 ?_
      rw [hTN.2.1, g3, nI_clamp (by omega), hc.1]
      have ve : vp_in (nI e) 200 := vp_in_nI (by omega) (by decide)
      refine ⟨fun c => absurd c (nI_ge (by omega) (by omega)), fun _ => ?_⟩
      rcases hv with ⟨rfl, rfl, rfl⟩ | ⟨rfl, rfl, rfl⟩
      · refine ⟨fun z => absurd z (by decide), fun _ => ⟨ve, c_small hc.2 (fun q => ⟨fun _ => ?_, fun z => absurd z (by decide)⟩) (fun q => ⟨fun z => absurd rfl z, fun _ => ⟨fun _ => stop q, fun z => absurd rfl z⟩⟩)⟩⟩
        rw [g3, nI_1]; exact go q
      · refine ⟨fun _ => ⟨fun z => absurd z (by decide), fun _ => ⟨ve, c_digit hc.2 (fun q => ⟨fun z => absurd z (by decide), fun _ => ?_⟩) (fun q => ⟨fun _ => stop q, fun z => absurd rfl z⟩)⟩⟩, fun z => absurd rfl z⟩
        rw [g3, nI_1]; exact go q
  have key : ∀ (j k : Nat) (N : Mm), k + j = n → FrT M N → N.1 1 3 = nI k → skF n tx j k = tf n tx i → lp_X6_advance_8 (d + 1) N K := by
    intro j
    induction j with
    | zero =>
      intro k N hk g1 g2 g3
      have hTN := hT.fr g1
      rw [skF] at g3
      have en : tf n tx i = n := by omega
      have ee : te n tx i = n := by unfold te; rw [en]; exact (tk_le (Nat.le_refl _)).2.2.2.1 rfl
      refine z_X6_advance_8 ?_
      rw [hTN.2.1, g2]
      refine ⟨fun _ => ⟨fun c => absurd c (nI_nlt (by omega) (by omega)), fun _ => hK _ (g1.tr (FrT.w (Or.inr rfl))) ?_ ?_⟩, fun c => absurd (nI_le (by omega) (by omega)) c⟩
      · simp [rI, g2, g3]
      · simp [rI, ee]; rw [show k = n by omega]
    | succ j ih =>
      intro k N hk g1 g2 g3
      have hTN := hT.fr g1
      have hc := hTN.2.2 k (by omega)
      have hc255 := hc.2
      rw [skF] at g3
      have vk : vp_in (nI k) 200 := vp_in_nI (by omega) (by decide)
      refine z_X6_advance_8 ?_
      rw [hTN.2.1, g2, nI_clamp (by omega), hc.1, nI_1, show (32 : Int32) = nI 32 from rfl, nI_eq (by omega) (by decide)]
      refine ⟨fun c => absurd c (nI_ge (by omega) (by omega)), fun _ => ⟨vk, fun c => ⟨fun _ => ⟨vk, ?_⟩, fun c2 => absurd (nI_lt (by omega) (by omega)) c2⟩, fun c => ?_⟩⟩
      · rw [if_neg (fun y => c y.2)] at g3
        have et : te n tx i = tk n tx k := by unfold te; rw [← g3]
        have fN : FrT M (wI (wI N 1 4 (nI k)) 1 4 (nI (k + 1))) := (g1.tr (FrT.w (Or.inr rfl))).tr (FrT.w (Or.inr rfl))
        have n3 : (wI (wI N 1 4 (nI k)) 1 4 (nI (k + 1))).1 1 3 = nI k := by simp [rI, g2]
        have n4 : (wI (wI N 1 4 (nI k)) 1 4 (nI (k + 1))).1 1 4 = nI (k + 1) := by simp [rI]
        have n2 := ((hT.fr fN).2.2 k (by omega)).1
        unfold tk at et
        rw [if_pos (by omega)] at et
        refine c_small hc255 (fun q => ?_) (fun q => ?_)
        · rw [if_pos q] at et
          rw [n3, nI_clamp (by omega), n2]
          refine ⟨vk, c_digit hc255 (fun q2 => ?_) (fun q2 => run smB 1 0 (Or.inl ⟨rfl, rfl, rfl⟩) k (n - (k + 1)) (k + 1) _ (by omega) fN n3 n4 g3 et.symm)⟩
          unfold smB at q
          unfold dgB at q2
          have a1 := of_decide_eq_true q
          have a2 := of_decide_eq_true q2
          omega
        · rw [if_neg (by rw [q]; decide)] at et
          rw [n3, nI_clamp (by omega), n2]
          refine ⟨vk, c_digit hc255 (fun q2 => ?_) (fun q2 => ?_)⟩
          · rw [if_pos q2] at et
            exact run dgB 0 1 (Or.inr ⟨rfl, rfl, rfl⟩) k (n - (k + 1)) (k + 1) _ (by omega) fN n3 n4 g3 et.symm
          · rw [if_neg (by rw [q2]; decide)] at et
            have fin := hK _ fN (by rw [n3, g3]) (by rw [n4, et])
            exact z_X6_advance_102 ⟨fun _ => fin, fun _ => ⟨fun _ => ⟨fun _ => fin, fun z => absurd rfl z⟩, fun z => absurd rfl z⟩⟩
      · rw [if_pos ⟨by omega, c⟩] at g3
        exact ih (k + 1) _ (by omega) (g1.tr (FrT.w (Or.inl rfl))) (by simp [rI]) g3
  rw [h4]
  exact key (n - i) i _ (by omega) (FrT.w (Or.inl rfl)) (by simp [rI]) rfl
theorem c_nextToken {K : Mm → Prop} {i : Nat} (hT : TxM M n tx) (hi : i ≤ n) (h4 : M.1 42 19 = nI i) (hK : ∀ M1, FrN M M1 → M1.1 42 18 = nI (tf n tx i) → M1.1 42 19 = nI (te n tx i) → K M1) : ACv (d + 3) X9_nextToken [.ref 42] M K := by
  have hn := hT.1
  refine w_X9_nextToken ?_
  have run1 : ∀ (f j e : Nat) (N : Mm), e + j = n → FrN M N → N.1 42 18 = nI f → N.1 42 19 = nI e → f = tf n tx i → ruF smB n tx j e = te n tx i → lp_X9_nextToken_100 (d + 2) N K := by
    intro f j
    induction j with
    | zero =>
      intro e N he g1 g2 g3 g4 g5
      have hTN := hT.fr g1
      refine z_X9_nextToken_100 ?_
      rw [hTN.2.1, g3]
      refine ⟨fun _ => hK N g1 (by rw [g2, g4]) (by rw [g3, ← g5]; rfl), fun c => absurd (nI_le (by omega) (by omega)) c⟩
    | succ j ih =>
      intro e N he g1 g2 g3 g4 g5
      have hTN := hT.fr g1
      have hc := hTN.2.2 e (by omega)
      rw [ruF] at g5
      refine z_X9_nextToken_100 ?_
      rw [hTN.2.1, g3, nI_clamp (by omega), hc.1]
      refine ⟨fun c => absurd c (nI_ge (by omega) (by omega)), fun _ => ⟨vp_in_nI (by omega) (by decide), c_letterM hc.2 (fun q => ⟨fun z => absurd z (by decide), fun _ => ?_⟩) (fun q => ⟨fun _ => ?_, fun z => absurd rfl z⟩)⟩⟩
      · rw [if_pos ⟨by omega, q⟩] at g5
        rw [g3, nI_1]
        exact ih (e + 1) _ (by omega) (g1.tr (FrN.w (Or.inr rfl))) (by simp [rI, g2]) (by simp [rI]) g4 g5
      · rw [if_neg (fun y => by rw [q] at y; exact absurd y.2 (by decide))] at g5
        exact hK N g1 (by rw [g2, g4]) (by rw [g3, ← g5])
  have run2 : ∀ (f j e : Nat) (N : Mm), e + j = n → FrN M N → N.1 42 18 = nI f → N.1 42 19 = nI e → f = tf n tx i → ruF dgB n tx j e = te n tx i → lp_X9_nextToken_165 (d + 2) N K := by
    intro f j
    induction j with
    | zero =>
      intro e N he g1 g2 g3 g4 g5
      have hTN := hT.fr g1
      refine z_X9_nextToken_165 ?_
      rw [hTN.2.1, g3]
      refine ⟨fun _ => hK N g1 (by rw [g2, g4]) (by rw [g3, ← g5]; rfl), fun c => absurd (nI_le (by omega) (by omega)) c⟩
    | succ j ih =>
      intro e N he g1 g2 g3 g4 g5
      have hTN := hT.fr g1
      have hc := hTN.2.2 e (by omega)
      rw [ruF] at g5
      refine z_X9_nextToken_165 ?_
      rw [hTN.2.1, g3, nI_clamp (by omega), hc.1]
      refine ⟨fun c => absurd c (nI_ge (by omega) (by omega)), fun _ => ⟨vp_in_nI (by omega) (by decide), c_digitM hc.2 (fun q => ⟨fun z => absurd z (by decide), fun _ => ?_⟩) (fun q => ⟨fun _ => ?_, fun z => absurd rfl z⟩)⟩⟩
      · rw [if_pos ⟨by omega, q⟩] at g5
        rw [g3, nI_1]
        exact ih (e + 1) _ (by omega) (g1.tr (FrN.w (Or.inr rfl))) (by simp [rI, g2]) (by simp [rI]) g4 g5
      · rw [if_neg (fun y => by rw [q] at y; exact absurd y.2 (by decide))] at g5
        exact hK N g1 (by rw [g2, g4]) (by rw [g3, ← g5])
  have key : ∀ (j k : Nat) (N : Mm), k + j = n → FrN M N → N.1 42 18 = nI k → skF n tx j k = tf n tx i → lp_X9_nextToken_8 (d + 2) N K := by
    intro j
    induction j with
    | zero =>
      intro k N hk g1 g2 g3
      have hTN := hT.fr g1
      rw [skF] at g3
      have en : tf n tx i = n := by omega
      have ee : te n tx i = n := by unfold te; rw [en]; exact (tk_le (Nat.le_refl _)).2.2.2.1 rfl
      have le : nI n ≤ nI k := nI_le (by omega) (by omega)
      refine z_X9_nextToken_8 ?_
      rw [hTN.2.1, g2]
      refine ⟨fun _ => ⟨fun _ => z_X9_nextToken_71 ?_, fun c => absurd le c⟩, fun c => absurd le c⟩
      rw [hTN.2.1, g2]
      refine ⟨fun _ => ⟨fun _ => hK _ (g1.tr (FrN.w (Or.inr rfl))) ?_ ?_, fun c => absurd le c⟩, fun c => absurd le c⟩
      · simp [rI, g2, g3]
      · simp [rI, ee]; rw [show k = n by omega]
    | succ j ih =>
      intro k N hk g1 g2 g3
      have hTN := hT.fr g1
      have hc := hTN.2.2 k (by omega)
      have hc255 := hc.2
      rw [skF] at g3
      have vk : vp_in (nI k) 200 := vp_in_nI (by omega) (by decide)
      have nle : ¬ nI n ≤ nI k := nI_ge (by omega) (by omega)
      refine z_X9_nextToken_8 ?_
      rw [hTN.2.1, g2, nI_clamp (by omega), hc.1, nI_1, show (32 : Int32) = nI 32 from rfl, nI_eq (by omega) (by decide)]
      refine ⟨fun c => absurd c nle, fun _ => ⟨vk, fun c => ⟨fun c2 => absurd c2 nle, fun _ => z_X9_nextToken_71 ?_⟩, fun c => ?_⟩⟩
      · rw [if_neg (fun y => c y.2)] at g3
        have et : te n tx i = tk n tx k := by unfold te; rw [← g3]
        have fN : FrN M (wI N 42 19 (nI (k + 1))) := g1.tr (FrN.w (Or.inr rfl))
        have n3 : (wI N 42 19 (nI (k + 1))).1 42 18 = nI k := by simp [rI, g2]
        have n4 : (wI N 42 19 (nI (k + 1))).1 42 19 = nI (k + 1) := by simp [rI]
        have n2 := ((hT.fr fN).2.2 k (by omega)).1
        have n10 := (hT.fr fN).2.1
        unfold tk at et
        rw [if_pos (by omega)] at et
        rw [hTN.2.1, g2, nI_clamp (by omega), hc.1]
        refine ⟨fun c2 => absurd c2 nle, fun _ => ⟨vk, c_letterM hc255 (fun q => ⟨fun z => absurd z (by decide), fun _ => ?_⟩) (fun q => ⟨fun _ => ?_, fun z => absurd rfl z⟩)⟩⟩
        · rw [if_pos q] at et
          exact run1 k (n - (k + 1)) (k + 1) _ (by omega) fN n3 n4 g3 et.symm
        · rw [if_neg (by rw [q]; decide)] at et
          rw [n10, n3, nI_clamp (by omega), n2]
          refine ⟨fun c2 => absurd c2 nle, fun _ => ⟨vk, c_digitM hc255 (fun q2 => ⟨fun z => absurd z (by decide), fun _ => ?_⟩) (fun q2 => ⟨fun _ => ?_, fun z => absurd rfl z⟩)⟩⟩
          · rw [if_pos q2] at et
            exact run2 k (n - (k + 1)) (k + 1) _ (by omega) fN n3 n4 g3 et.symm
          · rw [if_neg (by rw [q2]; decide)] at et
            exact hK _ fN (by rw [n3, g3]) (by rw [n4, et])
      · rw [if_pos ⟨by omega, c⟩] at g3
        exact ih (k + 1) _ (by omega) (g1.tr (FrN.w (Or.inl rfl))) (by simp [rI]) g3
  rw [h4]
  exact key (n - i) i _ (by omega) (FrN.w (Or.inl rfl)) (by simp [rI]) rfl
end TK
