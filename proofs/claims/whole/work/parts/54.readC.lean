/-! READING, the class's. -/
noncomputable def prF (n : Nat) (tx : Nat → Nat) : Nat → Nat → BS → Nat → Nat ⊕ (BS × Nat)
  | 0, c, s, i => match clF n tx s (tf n tx i) (te n tx i) with
    | .inl p => .inl p
    | .inr q => if tf n tx q.2 = n then .inr (q.1, c) else .inl (tf n tx q.2)
  | k + 1, c, s, i => match clF n tx s (tf n tx i) (te n tx i) with
    | .inl p => .inl p
    | .inr q => if tf n tx q.2 = n then .inr (q.1, c) else if tx (tf n tx q.2) = 59 then prF n tx k (c + 1) q.1 (te n tx q.2) else .inl (tf n tx q.2)
theorem prF_l {n : Nat} {tx : Nat → Nat} {k c : Nat} {s : BS} {i p : Nat} (h : clF n tx s (tf n tx i) (te n tx i) = .inl p) : prF n tx k c s i = .inl p := by
  cases k with
  | zero => rw [prF, h]
  | succ k => rw [prF, h]
theorem prF_n {n : Nat} {tx : Nat → Nat} {k c : Nat} {s : BS} {i : Nat} {q : BS × Nat} (h : clF n tx s (tf n tx i) (te n tx i) = .inr q) (hn : tf n tx q.2 = n) : prF n tx k c s i = .inr (q.1, c) := by
  cases k with
  | zero => rw [prF, h]; dsimp only; rw [if_pos hn]
  | succ k => rw [prF, h]; dsimp only; rw [if_pos hn]
theorem prF_s {n : Nat} {tx : Nat → Nat} {k c : Nat} {s : BS} {i : Nat} {q : BS × Nat} (h : clF n tx s (tf n tx i) (te n tx i) = .inr q) (hn : ¬ tf n tx q.2 = n) (h59 : ¬ tx (tf n tx q.2) = 59) : prF n tx k c s i = .inl (tf n tx q.2) := by
  cases k with
  | zero => rw [prF, h]; dsimp only; rw [if_neg hn]
  | succ k => rw [prF, h]; dsimp only; rw [if_neg hn, if_neg h59]
theorem prF_0 {n : Nat} {tx : Nat → Nat} {c : Nat} {s : BS} {i : Nat} {q : BS × Nat} (h : clF n tx s (tf n tx i) (te n tx i) = .inr q) (hn : ¬ tf n tx q.2 = n) : prF n tx 0 c s i = .inl (tf n tx q.2) := by
  rw [prF, h]; dsimp only; rw [if_neg hn]
theorem prF_go {n : Nat} {tx : Nat → Nat} {k c : Nat} {s : BS} {i : Nat} {q : BS × Nat} (h : clF n tx s (tf n tx i) (te n tx i) = .inr q) (hn : ¬ tf n tx q.2 = n) (h59 : tx (tf n tx q.2) = 59) : prF n tx (k + 1) c s i = prF n tx k (c + 1) q.1 (te n tx q.2) := by
  rw [prF, h]; dsimp only; rw [if_neg hn, if_pos h59]
theorem onN_s {o : Option Nat} {p v : Nat} {g : Nat → Nat ⊕ (BS × Nat)} (h : o = some v) : onN o p g = g v := by rw [h]; rfl
theorem onN_n {o : Option Nat} {p : Nat} {g : Nat → Nat ⊕ (BS × Nat)} (h : o = none) : onN o p g = .inl p := by rw [h]; rfl
theorem m1n {n : Nat} (h : n < 1000) : ¬ nI n = -1 := fun z => by
  have := congrArg Int32.toInt z
  rw [tN (by omega), show (-1 : Int32).toInt = -1 by decide] at this
  omega
theorem clF0 {n : Nat} {tx : Nat → Nat} {s : BS} {f e : Nat} (c0 : isW tx 0 f e) : clF n tx s f e = onN (numR n tx 3 9 (tf n tx e) (te n tx e)) (tf n tx e) (fun v => .inr (uAnew v s, te n tx e)) := by unfold clF; rw [if_pos c0]
theorem clF1 {n : Nat} {tx : Nat → Nat} {s : BS} {f e : Nat} (c0 : ¬ isW tx 0 f e) (c1 : isW tx 1 f e) : clF n tx s f e = onN (numR n tx 2 (zb s + 1) (tf n tx e) (te n tx e)) (tf n tx e) (fun v => .inr (uWin v s, te n tx e)) := by unfold clF; rw [if_neg c0, if_pos c1]
theorem clF2 {n : Nat} {tx : Nat → Nat} {s : BS} {f e : Nat} (c0 : ¬ isW tx 0 f e) (c1 : ¬ isW tx 1 f e) (c2 : isW tx 2 f e) : clF n tx s f e = onN (numR n tx 1 100 (tf n tx e) (te n tx e)) (tf n tx e) (fun v => .inr (uSig v s, te n tx e)) := by unfold clF; rw [if_neg c0, if_neg c1, if_pos c2]
theorem clF3 {n : Nat} {tx : Nat → Nat} {s : BS} {f e : Nat} (c0 : ¬ isW tx 0 f e) (c1 : ¬ isW tx 1 f e) (c2 : ¬ isW tx 2 f e) (c3 : isW tx 3 f e) : clF n tx s f e = if zr s = 8 then .inl f else onN (rhR n tx (zb s) (tf n tx e) (te n tx e)) (tf n tx e) (fun v => .inr (uRhy v s, te n tx e)) := by unfold clF; rw [if_neg c0, if_neg c1, if_neg c2, if_pos c3]
theorem clF4 {n : Nat} {tx : Nat → Nat} {s : BS} {f e : Nat} (c0 : ¬ isW tx 0 f e) (c1 : ¬ isW tx 1 f e) (c2 : ¬ isW tx 2 f e) (c3 : ¬ isW tx 3 f e) (c4 : isW tx 4 f e) : clF n tx s f e = if zl s = 6 then .inl f else onN (numR n tx 0 100 (tf n tx e) (te n tx e)) (tf n tx e) (fun v => .inr (uLgt v s, te n tx e)) := by unfold clF; rw [if_neg c0, if_neg c1, if_neg c2, if_neg c3, if_pos c4]
theorem clF5 {n : Nat} {tx : Nat → Nat} {s : BS} {f e : Nat} (c0 : ¬ isW tx 0 f e) (c1 : ¬ isW tx 1 f e) (c2 : ¬ isW tx 2 f e) (c3 : ¬ isW tx 3 f e) (c4 : ¬ isW tx 4 f e) (c5 : isW tx 5 f e) : clF n tx s f e = onN (numR n tx 0 (zl s) (tf n tx e) (te n tx e)) (tf n tx e) (fun l => onN (numR n tx 0 (zr s) (tf n tx (te n tx e)) (te n tx (te n tx e))) (tf n tx (te n tx e)) (fun r => .inr (uLit l r s, te n tx (te n tx e)))) := by unfold clF; rw [if_neg c0, if_neg c1, if_neg c2, if_neg c3, if_neg c4, if_pos c5]
theorem clF6 {n : Nat} {tx : Nat → Nat} {s : BS} {f e : Nat} (c0 : ¬ isW tx 0 f e) (c1 : ¬ isW tx 1 f e) (c2 : ¬ isW tx 2 f e) (c3 : ¬ isW tx 3 f e) (c4 : ¬ isW tx 4 f e) (c5 : ¬ isW tx 5 f e) : clF n tx s f e = .inl f := by unfold clF; rw [if_neg c0, if_neg c1, if_neg c2, if_neg c3, if_neg c4, if_neg c5]
section RC
variable {d : Nat} {M : Mm} {n : Nat} {tx : Nat → Nat} {s : BS}
theorem c_readRhythm {K : Int32 → Mm → Prop} {e : Nat} (hT : TxC M n tx) (hH : HdC M s) (hw : BSW s) (h8 : ¬ zr s = 8) (he : e ≤ n) (h4 : M.1 1 4 = nI e) (hs : ∀ M1 v, FrH M M1 → rhR n tx (zb s) (tf n tx e) (te n tx e) = some v → HdC M1 (uRhy v s) → M1.1 1 4 = nI (te n tx e) → K 1 M1) (hn : ∀ M1, FrH M M1 → rhR n tx (zb s) (tf n tx e) (te n tx e) = none → M1.1 1 3 = nI (tf n tx e) → K 0 M1) : ACi (d + 3) X6_readRhythm [.ref 1, .ref 8] M K := by
  have n200 := hT.1
  obtain ⟨⟨w1, w2, w3, w4, w5, w6, w7, w8⟩, m1, m2⟩ := hw
  refine w_X6_readRhythm (c_advance hT he h4 (fun M1 g1 g2 g3 => ?_))
  have hT1 := hT.fr g1
  have hH1 := hH.fr g1
  have tl := tf_le (tx := tx) he
  have kl : tf n tx e ≤ te n tx e ∧ te n tx e ≤ n ∧ (tf n tx e < n → tf n tx e < te n tx e) ∧ (tf n tx e = n → te n tx e = n) ∧ (dgB (tx (tf n tx e)) = true → ∀ k, tf n tx e ≤ k → k < te n tx e → dgB (tx k) = true) := tk_le tl.2
  have hs1 := hs
  have hn1 := hn M1 g1.h
  clear hs hn
  rw [g2, g3]
  generalize tf n tx e = f at *
  generalize te n tx e = e1 at *
  rw [hH1.1, pk_sub kl.1, nI_eq (by omega) (by omega)]
  refine ⟨fun c => ?_, fun c => hn1 (by unfold rhR; rw [if_neg (fun z => c z.2.1)]) g2⟩
  have key : ∀ (j k : Nat), k + j = e1 - f → (∀ k', k' < k → tx (f + k') = 100 ∨ tx (f + k') = 102) → lp_X6_readRhythm_29 (d + 2) M1 (nI (rhV tx f k)) (nI (f + k)) K := by
    intro j
    induction j with
    | zero =>
      intro k hk hq
      refine z_X6_readRhythm_29 ?_
      rw [g3]
      refine ⟨fun _ => w_X0_addRhythm ?_, fun z => absurd (nI_le (by omega) (by omega)) z⟩
      rw [hH1.2.2.2.1, nI_clamp (by omega), nI_1]
      refine ⟨fun z => absurd z (nI_ge (b := 8) (by omega) (by omega)), fun _ => ⟨vp_in_nI (by omega) (by decide), hs1 _ (rhV tx f k) (g1.h.tr ((FrH.w (by decide)).tr (FrH.w (by decide)))) ?_ ?_ ?_⟩⟩
      · unfold rhR
        rw [if_pos ⟨by omega, c, fun k' hk' => hq k' (by omega)⟩, show e1 - f = k by omega]
      · obtain ⟨a1, a2, a3, a4, a5, a6, a7⟩ := hH1
        refine ⟨by simp [rI, a1]; rfl, by simp [rI, a2]; rfl, by simp [rI, a3]; rfl, by simp [rI]; rfl, fun i hi => ?_, by simp [rI, a6]; rfl, fun i hi => by simp [rI]; exact a7 i hi⟩
        show (wI (wI M1 9 (zr s) (nI (rhV tx f k))) 8 3 (nI (zr s + 1))).1 9 i = nI (if i = zr s then rhV tx f k else zn s i)
        by_cases y : i = zr s
        · rw [if_pos y, y]; simp [rI]
        · rw [if_neg y]
          have hi2 : i < zr s + 1 := hi
          simp [rI, y, a5 i (by omega)]
      · simp [rI, g3]
    | succ j ih =>
      intro k hk hq
      have cf := hT1.2.2 (f + k) (by omega)
      have c255 := cf.2
      have vk : vp_in (nI (f + k)) 200 := vp_in_nI (by omega) (by decide)
      have st := ih (k + 1) (by omega)
      have x100 := rhV_lt tx f k
      have x256 : 2 ^ k ≤ 256 := p2le (by omega)
      have sh : nI (rhV tx f k) <<< ((1 : Int32) &&& 31) = nI (rhV tx f k * 2 ^ 1) := pk_shlN _ 1 (s_l 1 (by decide)) (by omega)
      have o1 : nI (rhV tx f k * 2 ^ 1) ||| 1 = nI (2 * rhV tx f k + 1) := by
        rw [Nat.mul_comm]; exact fa_or_sum (k := 1) (a := 1) _ (by decide)
      have o0 : nI (rhV tx f k * 2 ^ 1) ||| 0 = nI (2 * rhV tx f k + 0) := by
        rw [or0, Nat.mul_comm]; rfl
      rw [rhV] at st
      have bad : ¬ (tx (f + k) = 100 ∨ tx (f + k) = 102) → K 0 M1 := fun z => hn1 (by
        unfold rhR
        rw [if_neg (fun y => z (y.2.2 k (by omega)))]) g2
      refine z_X6_readRhythm_29 ?_
      rw [g3, nI_clamp (by omega), cf.1, sh, o1, o0, nI_1, show (100 : Int32) = nI 100 from rfl, show (102 : Int32) = nI 102 from rfl, nI_eq (by omega) (by decide), nI_eq (by omega) (by decide)]
      refine ⟨fun z => absurd z (nI_ge (by omega) (by omega)), fun _ => ⟨vk, fun y => ⟨vk, fun y2 => ?_, fun y2 => absurd (y.symm.trans y2) (by decide)⟩, fun y => ⟨vk, fun y2 => ⟨vk, fun y3 => absurd y2 y3, fun _ => ?_⟩, fun y2 => bad (fun z => z.elim y y2)⟩⟩⟩
      · rw [if_neg y2] at st
        exact st (fun k' hk' => by
          by_cases q : k' = k
          · rw [q]; exact Or.inl y
          · exact hq k' (by omega))
      · rw [if_pos y2] at st
        exact st (fun k' hk' => by
          by_cases q : k' = k
          · rw [q]; exact Or.inr y2
          · exact hq k' (by omega))
  exact key (e1 - f) 0 (by omega) (fun k' hk' => absurd hk' (by omega))
theorem c_readClause {K : Int32 → Mm → Prop} {f e : Nat} (hT : TxC M n tx) (hH : HdC M s) (hw : BSW s) (hf : f ≤ e) (he : e ≤ n) (h3 : M.1 1 3 = nI f) (h4 : M.1 1 4 = nI e) (k0 : ∀ M1 p, FrH M M1 → clF n tx s f e = .inl p → M1.1 1 3 = nI p → K 0 M1) (k1 : ∀ M1 q, FrH M M1 → clF n tx s f e = .inr q → HdC M1 q.1 → M1.1 1 4 = nI q.2 → K 1 M1) : ACi (d + 6) X6_readClause [.ref 1, .ref 8] M K := by
  have n200 := hT.1
  have hw0 := hw
  obtain ⟨⟨w1, w2, w3, w4, w5, w6, w7, w8⟩, m1, m2⟩ := hw
  obtain ⟨a1, a2, a3, a4, a5, a6, a7⟩ := hH
  have t1 := (te_le (tx := tx) he).1
  have isw : ∀ (k : Nat) (K' : Int32 → Mm → Prop), k < 6 → (isW tx k f e → K' 1 M) → (¬ isW tx k f e → K' 0 M) → ACi (d + 5) X6_isWord [.ref 1, .ref (1000 + k)] M K' := fun k K' hk p1 p0 => c_isWordC hk hT h3 h4 hf he p1 p0
  refine w_X6_readClause (isw 0 _ (by decide) (fun c0 => ⟨fun z => absurd z (by decide), fun _ => ?_⟩) (fun c0 => ⟨fun _ => isw 1 _ (by decide) (fun c1 => ⟨fun z => absurd z (by decide), fun _ => ?_⟩) (fun c1 => ⟨fun _ => isw 2 _ (by decide) (fun c2 => ⟨fun z => absurd z (by decide), fun _ => ?_⟩) (fun c2 => ⟨fun _ => isw 3 _ (by decide) (fun c3 => ⟨fun z => absurd z (by decide), fun _ => ?_⟩) (fun c3 => ⟨fun _ => isw 4 _ (by decide) (fun c4 => ⟨fun z => absurd z (by decide), fun _ => ?_⟩) (fun c4 => ⟨fun _ => isw 5 _ (by decide) (fun c5 => ⟨fun z => absurd z (by decide), fun _ => ?_⟩) (fun c5 => ⟨fun _ => ?_, fun z => absurd rfl z⟩), fun z => absurd rfl z⟩), fun z => absurd rfl z⟩), fun z => absurd rfl z⟩), fun z => absurd rfl z⟩), fun z => absurd rfl z⟩))
  · -- beats
    have hc := clF0 (n := n) (s := s) c0
    refine w_X6_readBeats (c_readNumber (lo := 3) (h1 := 9) hT he h4 (by decide) (by decide) (fun M1 g1 g2 g3 => ⟨fun v hv => ?_, fun hv => ?_⟩))
    · have l := numR_s hv
      have nm := m1n (n := v) (by omega)
      refine ⟨fun z => absurd z nm, fun _ => w_X0_beginAnew ⟨fun z => absurd z nm, fun _ => ⟨Or.inr rfl, k1 _ (uAnew v s, te n tx e) (g1.h.tr (((((FrH.w (by decide)).tr (FrH.w (by decide))).tr (FrH.w (by decide))).tr (FrH.w (by decide))).tr (FrH.w (by decide)))) (by rw [hc, onN_s hv]) ?_ ?_⟩⟩⟩
      · refine ⟨by simp [rI]; rfl, by simp [rI]; rfl, by simp [rI]; rfl, by simp [rI]; rfl, fun i hi => absurd hi (Nat.not_lt_zero _), by simp [rI]; rfl, fun i hi => absurd hi (Nat.not_lt_zero _)⟩
      · simp [rI, g3]
    · exact ⟨fun _ => ⟨fun _ => ⟨Or.inl rfl, k0 M1 _ g1.h (by rw [hc, onN_n hv]) g2⟩, fun z => absurd rfl z⟩, fun z => absurd rfl z⟩
  · -- window
    have hc := clF1 (n := n) (s := s) c0 c1
    refine w_X6_readWindow ?_
    rw [a1]
    refine c_readNumber (lo := 2) (h1 := zb s + 1) hT he h4 (by decide) (by rw [tN (by omega)]; omega) (fun M1 g1 g2 g3 => ⟨fun v hv => ?_, fun hv => ?_⟩)
    · have l := numR_s hv
      have nm := m1n (n := v) (by omega)
      have hH1 := HdC.fr (s := s) ⟨a1, a2, a3, a4, a5, a6, a7⟩ g1
      obtain ⟨b1, b2, b3, b4, b5, b6, b7⟩ := hH1
      refine ⟨fun z => absurd z nm, fun _ => ⟨fun z => absurd z nm, fun _ => ⟨Or.inr rfl, k1 _ (uWin v s, te n tx e) (g1.h.tr (FrH.w (by decide))) (by rw [hc, onN_s hv]) ⟨by simp [rI, b1]; rfl, by simp [rI]; rfl, by simp [rI, b3]; rfl, by simp [rI, b4]; rfl, fun i hi => by simp [rI]; exact b5 i hi, by simp [rI, b6]; rfl, fun i hi => by simp [rI]; exact b7 i hi⟩ (by simp [rI, g3])⟩⟩⟩
    · exact ⟨fun _ => ⟨fun _ => ⟨Or.inl rfl, k0 M1 _ g1.h (by rw [hc, onN_n hv]) g2⟩, fun z => absurd rfl z⟩, fun z => absurd rfl z⟩
  · -- sight
    have hc := clF2 (n := n) (s := s) c0 c1 c2
    refine w_X6_readSight (c_readNumber (lo := 1) (h1 := 100) hT he h4 (by decide) (by decide) (fun M1 g1 g2 g3 => ⟨fun v hv => ?_, fun hv => ?_⟩))
    · have l := numR_s hv
      have nm := m1n (n := v) (by omega)
      have hH1 := HdC.fr (s := s) ⟨a1, a2, a3, a4, a5, a6, a7⟩ g1
      obtain ⟨b1, b2, b3, b4, b5, b6, b7⟩ := hH1
      refine ⟨fun z => absurd z nm, fun _ => ⟨fun z => absurd z nm, fun _ => ⟨Or.inr rfl, k1 _ (uSig v s, te n tx e) (g1.h.tr (FrH.w (by decide))) (by rw [hc, onN_s hv]) ⟨by simp [rI, b1]; rfl, by simp [rI, b2]; rfl, by simp [rI]; rfl, by simp [rI, b4]; rfl, fun i hi => by simp [rI]; exact b5 i hi, by simp [rI, b6]; rfl, fun i hi => by simp [rI]; exact b7 i hi⟩ (by simp [rI, g3])⟩⟩⟩
    · exact ⟨fun _ => ⟨fun _ => ⟨Or.inl rfl, k0 M1 _ g1.h (by rw [hc, onN_n hv]) g2⟩, fun z => absurd rfl z⟩, fun z => absurd rfl z⟩
  · -- rhythm
    have hc := clF3 (n := n) (s := s) c0 c1 c2 c3
    rw [a4, show (8 : Int32) = nI 8 from rfl, nI_leI (by decide) (by omega)]
    refine ⟨fun y => k0 M f FrH.rf (by rw [hc, if_pos (by omega)]) h3, fun y => c_readRhythm hT ⟨a1, a2, a3, a4, a5, a6, a7⟩ hw0 (by omega) he h4 (fun M1 v g1 hv g2 g3 => ⟨fun z => absurd z (by decide), fun _ => k1 M1 _ g1 (by rw [hc, if_neg (by omega), onN_s hv]) g2 g3⟩) (fun M1 g1 hv g2 => ⟨fun _ => k0 M1 _ g1 (by rw [hc, if_neg (by omega), onN_n hv]) g2, fun z => absurd rfl z⟩)⟩
  · -- light
    have hc := clF4 (n := n) (s := s) c0 c1 c2 c3 c4
    rw [a6, show (6 : Int32) = nI 6 from rfl, nI_leI (by decide) (by omega)]
    refine ⟨fun y => k0 M f FrH.rf (by rw [hc, if_pos (by omega)]) h3, fun y => w_X6_readLight (c_readNumber (lo := 0) (h1 := 100) hT he h4 (by decide) (by decide) (fun M1 g1 g2 g3 => ⟨fun v hv => ?_, fun hv => ?_⟩))⟩
    · have l := numR_s hv
      have nm := m1n (n := v) (by omega)
      have hH1 := HdC.fr (s := s) ⟨a1, a2, a3, a4, a5, a6, a7⟩ g1
      obtain ⟨b1, b2, b3, b4, b5, b6, b7⟩ := hH1
      refine ⟨fun z => absurd z nm, fun _ => w_X2_addAt ?_⟩
      rw [b6, nI_clamp (by omega), nI_1]
      have vl : vp_in (nI (zl s)) 6 := vp_in_nI (by omega) (by decide)
      refine ⟨fun z => absurd z (nI_ge (b := 6) (by omega) (by omega)), fun _ => ⟨vl, vl, fun z => absurd z nm, fun _ => ⟨fun z => absurd z (by decide), fun _ => k1 _ (uLgt v s, te n tx e) (g1.h.tr (((FrH.w (by decide)).tr (FrH.w (by decide))).tr (FrH.w (by decide)))) (by rw [hc, if_neg (by omega), onN_s hv]) ⟨by simp [rI, b1]; rfl, by simp [rI, b2]; rfl, by simp [rI, b3]; rfl, by simp [rI, b4]; rfl, fun i hi => by simp [rI]; exact b5 i hi, by simp [rI]; rfl, fun i hi => ?_⟩ (by simp [rI, g3])⟩⟩⟩
      have hi2 : i < zl s + 1 := hi
      show _ = nI (if i = zl s then v else zp s i) ∧ _ = oi (if i = zl s then none else zo s i)
      by_cases q : i = zl s
      · rw [if_pos q, if_pos q, q]; simp [rI]; rfl
      · rw [if_neg q, if_neg q]; simp [rI, q]; exact b7 i (by omega)
    · exact ⟨fun _ => ⟨fun _ => ⟨fun _ => k0 M1 _ g1.h (by rw [hc, if_neg (by omega), onN_n hv]) g2, fun z => absurd rfl z⟩, fun z => absurd rfl z⟩, fun z => absurd rfl z⟩
  · -- lit
    have hc := clF5 (n := n) (s := s) c0 c1 c2 c3 c4 c5
    have em : ∀ k, k ≤ 8 → (nI k - 1).toInt = (k : Int) - 1 := fun k hk => by
      rw [show (1 : Int32) = nI 1 from rfl, pk_sub_toInt (by omega) (by decide)]; rfl
    refine w_X6_readLit ?_
    rw [a6]
    refine c_readNumber (lo := 0) (h1 := zl s) hT he h4 (by decide) (em _ (by omega)) (fun M1 g1 g2 g3 => ⟨fun l hl => ?_, fun hl => ?_⟩)
    · have ll := numR_s hl
      have nm := m1n (n := l) (by omega)
      have hH1 := HdC.fr (s := s) ⟨a1, a2, a3, a4, a5, a6, a7⟩ g1
      refine ⟨fun _ => ?_, fun z => absurd z nm⟩
      rw [hH1.2.2.2.1]
      refine c_readNumber (lo := 0) (h1 := zr s) (hT.fr g1) t1 g3 (by decide) (em _ (by omega)) (fun M2 y1 y2 y3 => ⟨fun r hr => ?_, fun hr => ?_⟩)
      · have lr := numR_s hr
        have nr := m1n (n := r) (by omega)
        have hH2 := hH1.fr y1
        obtain ⟨b1, b2, b3, b4, b5, b6, b7⟩ := hH2
        rw [nI_clamp (by omega)]
        refine ⟨fun z => absurd z nr, fun _ => ⟨vp_in_nI (by omega) (by decide), fun z => absurd z nr, fun _ => ⟨fun z => absurd z (by decide), fun _ => k1 _ (uLit l r s, te n tx (te n tx e)) ((g1.h.tr y1.h).tr (FrH.w (by decide))) (by rw [hc, onN_s hl, onN_s hr]) ⟨by simp [rI, b1]; rfl, by simp [rI, b2]; rfl, by simp [rI, b3]; rfl, by simp [rI, b4]; rfl, fun i hi => by simp [rI]; exact b5 i hi, by simp [rI, b6]; rfl, fun i hi => ?_⟩ (by simp [rI, y3])⟩⟩⟩
        have hi2 : i < zl s := hi
        show _ = nI (zp s i) ∧ _ = oi (if i = l then some r else zo s i)
        by_cases q : i = l
        · rw [if_pos q]; simp [rI, q]; exact ⟨(b7 l (by omega)).1, rfl⟩
        · rw [if_neg q]; simp [rI, q]; exact b7 i hi2
      · exact ⟨fun _ => ⟨fun _ => ⟨fun _ => k0 M2 _ (g1.h.tr y1.h) (by rw [hc, onN_s hl, onN_n hr]) y2, fun z => absurd rfl z⟩, fun z => absurd rfl z⟩, fun z => absurd rfl z⟩
    · exact ⟨fun z => absurd rfl z, fun _ => ⟨fun _ => k0 M1 _ g1.h (by rw [hc, onN_n hl]) g2, fun z => absurd rfl z⟩⟩
  · exact k0 M f FrH.rf (clF6 c0 c1 c2 c3 c4 c5) h3
theorem c_readInto {K : Int32 → Mm → Prop} (hT : TxC M n tx) (hH : HdC M s) (hw : BSW s) (k0 : ∀ M1 p, FrH M M1 → prF n tx 23 1 s 0 = .inl p → p ≤ n → K (nI p) M1) (k1 : ∀ M1 q, FrH M M1 → prF n tx 23 1 s 0 = .inr q → BSW q.1 → HdC M1 q.1 → M1.1 1 1 = nI q.2 → K (-1) M1) : ACi (d + 8) X6_readInto [.ref 1, .ref 8] M K := by
  have n200 := hT.1
  refine w_X6_readInto ?_
  have cut : ∀ s f e p, f ≤ n → e ≤ n → clF n tx s f e = .inl p → p ≤ n := by
    intro s f e p hf he h
    have t1 := (te_le (tx := tx) he).1
    have f1 := (tf_le (tx := tx) he).2
    have f2 := (tf_le (tx := tx) t1).2
    have on : ∀ (o : Option Nat) (p' : Nat) (g : Nat → Nat ⊕ (BS × Nat)), p' ≤ n → (∀ v, g v = .inl p → p ≤ n) → onN o p' g = .inl p → p ≤ n := by
      intro o p' g hp' hg h
      unfold onN at h
      cases o with
      | none => cases h; exact hp'
      | some v => exact hg v h
    unfold clF at h
    repeat' split at h
    all_goals first
      | (cases h; assumption)
      | (refine on _ _ _ f1 (fun v hv => ?_) h; first | (cases hv; done) | exact on _ _ _ f2 (fun r hr => by cases hr) hv)
  have key : ∀ (k c : Nat) (s : BS) (i : Nat) (N : Mm), c + k = 24 → FrH M N → HdC N s → BSW s → i ≤ n → N.1 1 4 = nI i → prF n tx 23 1 s 0 = prF n tx 23 1 s 0 → (∀ M1 p, FrH M M1 → prF n tx k c s i = .inl p → p ≤ n → K (nI p) M1) → (∀ M1 q, FrH M M1 → prF n tx k c s i = .inr q → BSW q.1 → HdC M1 q.1 → M1.1 1 1 = nI q.2 → K (-1) M1) → lp_X6_readInto_7 (d + 7) N (nI c) K := by
    intro k
    induction k with
    | zero =>
      intro c s i N hc f hH hw hi h4 _ k0 k1
      have hTN := hT.frh f
      have tl := te_le (tx := tx) hi
      have fl := tf_le (tx := tx) hi
      refine z_X6_readInto_7 ?_
      rw [show (24 : Int32) = nI 24 from rfl, nI_ltI (by decide) (by omega)]
      refine ⟨fun z => absurd z (by omega), fun _ => c_advance hTN hi h4 (fun N1 g1 g2 g3 => c_readClause (hTN.fr g1) (hH.fr g1) hw tl.2 tl.1 g2 g3 (fun N2 p y1 y2 y3 => ⟨fun z => absurd rfl z, fun _ => ?_⟩) (fun N2 q y1 y2 y3 y4 => ⟨fun _ => ?_, fun z => absurd z (by decide)⟩))⟩
      · rw [y3]; exact k0 N2 p ((f.tr g1.h).tr y1) (prF_l y2) (cut _ _ _ _ fl.2 tl.1 y2)
      · have wq := clF_w hw tl.1 y2
        have f2 : FrH M (wI N2 1 1 (nI c)) := ((f.tr g1.h).tr y1).tr ⟨rfl, fun q a _ => wI_ne a, fun j a _ _ => by simp [rI, a]⟩
        refine c_advance (hT.frh f2) wq.2 (by simp [rI, y4]) (fun N3 x1 x2 x3 => ?_)
        have hT3 := hT.frh (f2.tr x1.h)
        have fl3 := tf_le (tx := tx) wq.2
        have hH3 : HdC N3 q.1 := HdC.fr (M := wI N2 1 1 (nI c)) (by
          obtain ⟨b1, b2, b3, b4, b5, b6, b7⟩ := y3
          exact ⟨by simp [rI, b1], by simp [rI, b2], by simp [rI, b3], by simp [rI, b4], fun i hi => by simp [rI]; exact b5 i hi, by simp [rI, b6], fun i hi => by simp [rI]; exact b7 i hi⟩) x1
        have h11 : N3.1 1 1 = nI c := by rw [x1.2.2 1 (by decide) (by decide)]; simp [rI]
        rw [x2, hT3.2.1, nI_ltI (by omega) (by omega), nI_clamp (by omega), nI_1]
        refine ⟨fun c1 => ⟨vp_in_nI (by omega) (by decide), fun c2 => ?_, fun c2 => k0 N3 _ (f2.tr x1.h) (prF_0 y2 (by omega)) fl3.2⟩, fun c1 => k1 N3 (q.1, c) (f2.tr x1.h) (prF_n y2 (by omega)) wq.1 hH3 h11⟩
        refine z_X6_readInto_7 ?_
        rw [x2, show (24 : Int32) = nI 24 from rfl, nI_ltI (by decide) (by omega)]
        exact ⟨fun _ => k0 N3 _ (f2.tr x1.h) (prF_0 y2 (by omega)) fl3.2, fun z => absurd (by omega) z⟩
    | succ k ih =>
      intro c s i N hc f hH hw hi h4 _ k0 k1
      have hTN := hT.frh f
      have tl := te_le (tx := tx) hi
      have fl := tf_le (tx := tx) hi
      refine z_X6_readInto_7 ?_
      rw [show (24 : Int32) = nI 24 from rfl, nI_ltI (by decide) (by omega)]
      refine ⟨fun z => absurd z (by omega), fun _ => c_advance hTN hi h4 (fun N1 g1 g2 g3 => c_readClause (hTN.fr g1) (hH.fr g1) hw tl.2 tl.1 g2 g3 (fun N2 p y1 y2 y3 => ⟨fun z => absurd rfl z, fun _ => ?_⟩) (fun N2 q y1 y2 y3 y4 => ⟨fun _ => ?_, fun z => absurd z (by decide)⟩))⟩
      · rw [y3]; exact k0 N2 p ((f.tr g1.h).tr y1) (prF_l y2) (cut _ _ _ _ fl.2 tl.1 y2)
      · have wq := clF_w hw tl.1 y2
        have f2 : FrH M (wI N2 1 1 (nI c)) := ((f.tr g1.h).tr y1).tr ⟨rfl, fun q a _ => wI_ne a, fun j a _ _ => by simp [rI, a]⟩
        refine c_advance (hT.frh f2) wq.2 (by simp [rI, y4]) (fun N3 x1 x2 x3 => ?_)
        have hT3 := hT.frh (f2.tr x1.h)
        have fl3 := tf_le (tx := tx) wq.2
        have tl3 := te_le (tx := tx) wq.2
        have hH3 : HdC N3 q.1 := HdC.fr (M := wI N2 1 1 (nI c)) (by
          obtain ⟨b1, b2, b3, b4, b5, b6, b7⟩ := y3
          exact ⟨by simp [rI, b1], by simp [rI, b2], by simp [rI, b3], by simp [rI, b4], fun i hi => by simp [rI]; exact b5 i hi, by simp [rI, b6], fun i hi => by simp [rI]; exact b7 i hi⟩) x1
        have h11 : N3.1 1 1 = nI c := by rw [x1.2.2 1 (by decide) (by decide)]; simp [rI]
        rw [x2, hT3.2.1, nI_ltI (by omega) (by omega), nI_clamp (by omega), nI_1]
        refine ⟨fun c1 => ⟨vp_in_nI (by omega) (by decide), ?_⟩, fun c1 => k1 N3 (q.1, c) (f2.tr x1.h) (prF_n y2 (by omega)) wq.1 hH3 h11⟩
        have cf := hT3.2.2 _ c1
        have c255 := cf.2
        rw [cf.1, show (59 : Int32) = nI 59 from rfl, nI_eq (by omega) (by decide)]
        refine ⟨fun c2 => ?_, fun c2 => k0 N3 _ (f2.tr x1.h) (prF_s y2 (by omega) c2) fl3.2⟩
        have go := prF_go (k := k) (c := c) y2 (by omega) c2
        exact ih (c + 1) q.1 (te n tx q.2) N3 (by omega) (f2.tr x1.h) hH3 wq.1 tl3.1 x3 rfl (fun M1 p z1 z2 z3 => k0 M1 p z1 (go.trans z2) z3) (fun M1 q z1 z2 => k1 M1 q z1 (go.trans z2))
  have f0 : FrH M (wI M 1 4 0) := FrT.h (FrT.w (Or.inr rfl))
  exact key 23 1 s 0 _ (by omega) f0 (hH.fr (FrT.w (Or.inr rfl))) hw (Nat.zero_le _) (by simp [rI]; rfl) rfl k0 k1
end RC
