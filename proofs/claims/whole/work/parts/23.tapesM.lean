/-! TAPES, the model's side: sizes at 50, values at 51, twelve to a tape. -/
def TpM (M : Mm) (t : Nat) (hr : Bool) (xs : List Int32) : Prop := M.1 50 t = (if hr then nI xs.length else -1) ∧ xs.length ≤ 12 ∧ ∀ i, i < xs.length → M.1 51 (12 * t + i) = xs.getD i 0
def ExM (t : Nat) (M M' : Mm) : Prop := M'.2 = M.2 ∧ (∀ q, q ≠ 50 → q ≠ 51 → M'.1 q = M.1 q) ∧ (∀ u, u ≠ t → M'.1 50 u = M.1 50 u) ∧ ∀ j, (j < 12 * t ∨ 12 * t + 12 ≤ j) → M'.1 51 j = M.1 51 j
theorem ExM.rf {t : Nat} {M : Mm} : ExM t M M := ⟨rfl, fun _ _ _ => rfl, fun _ _ => rfl, fun _ _ => rfl⟩
theorem ExM.tr {t : Nat} {M M' M'' : Mm} (h : ExM t M M') (h2 : ExM t M' M'') : ExM t M M'' := ⟨h2.1.trans h.1, fun q a b => (h2.2.1 q a b).trans (h.2.1 q a b), fun u a => (h2.2.2.1 u a).trans (h.2.2.1 u a), fun j a => (h2.2.2.2 j a).trans (h.2.2.2 j a)⟩
theorem ExM.s {t : Nat} {M : Mm} {x : Int32} : ExM t M (wI M 50 t x) := ⟨rfl, fun q a _ => wI_ne a, fun u a => by simp [rI, a], fun j _ => by simp [rI]⟩
theorem ExM.v {t j : Nat} {M : Mm} {x : Int32} (h1 : 12 * t ≤ j) (h2 : j < 12 * t + 12) : ExM t M (wI M 51 j x) := ⟨rfl, fun q _ a => wI_ne a, fun u a => by simp [rI], fun i hi => by simp [rI]; intro e; omega⟩
theorem m12 (t : Nat) : (12 : Int32) * nI t = nI (12 * t) := pk_mul 12 t
theorem c_putB {d : Nat} {M : Mm} {t : Nat} {v : Int32} {xs : List Int32} {K : Mm → Prop} (ht : t < 3) (h : TpM M t true xs) (hl : xs.length < 12) (hK : ∀ M', TpM M' t true (xs ++ [v]) → ExM t M M' → K M') : ACv (d + 1) X9_putAt [.ref 42, .int (nI t), .int 1, .int v] M K := by
  obtain ⟨h1, h2, h3⟩ := h
  simp only [if_true] at h1
  have vt : vp_in (nI t) 3 := vp_in_nI ht (by decide)
  have vi : vp_in (nI (12 * t + xs.length)) 36 := vp_in_nI (by omega) (by decide)
  refine w_X9_putAt ⟨vt, z_X9_putAt_8 ?_⟩
  rw [nI_clamp (n := t) (by omega), h1, m12, nI_add, nI_clamp (n := 12 * t + xs.length) (by omega), nI_1]
  have fin : K (wI (wI M 51 (12 * t + xs.length) v) 50 t (nI (xs.length + 1))) := by
    refine hK _ ⟨by simp [rI], by simp; omega, fun i hi => ?_⟩ ((ExM.v (by omega) (by omega)).tr ExM.s)
    simp at hi
    by_cases e : i = xs.length
    · subst e; simp [rI]
    · have hi2 : i < xs.length := by omega
      simp [rI, e, h3 i hi2, List.getElem?_append_left hi2]
  exact ⟨fun _ => ⟨fun _ => ⟨vt, vi, vt, vt, fin⟩, fun z => absurd z (by decide)⟩, fun _ => ⟨fun _ => ⟨fun _ => ⟨vt, vi, vt, vt, fin⟩, fun z => absurd z (by decide)⟩, fun z => absurd z (by decide)⟩⟩
theorem c_putF {d : Nat} {M : Mm} {t : Nat} {v : Int32} {xs : List Int32} {K : Mm → Prop} (ht : t < 3) (h : TpM M t true xs) (hl : xs.length < 12) (hK : ∀ M', TpM M' t true (v :: xs) → ExM t M M' → K M') : ACv (d + 1) X9_putAt [.ref 42, .int (nI t), .int 0, .int v] M K := by
  obtain ⟨h1, h2, h3⟩ := h
  simp only [if_true] at h1
  have vt : vp_in (nI t) 3 := vp_in_nI ht (by decide)
  refine w_X9_putAt ⟨vt, ?_⟩
  rw [nI_clamp (n := t) (by omega), h1]
  have key : ∀ (k : Nat) (N : Mm), k ≤ xs.length → N.1 50 t = nI xs.length → (∀ i, i < k → N.1 51 (12 * t + i) = xs.getD i 0) → (∀ i, k ≤ i → i < xs.length → N.1 51 (12 * t + (i + 1)) = xs.getD i 0) → ExM t M N → lp_X9_putAt_8 d N (nI t) 0 v (nI k) K := by
    intro k
    induction k with
    | zero =>
      intro N hk g0 g1 g2 g3
      refine z_X9_putAt_8 ?_
      rw [nI_clamp (n := t) (by omega), g0, m12, nI_1]
      have e0 : nI (12 * t) + 0 = nI (12 * t) := by rw [show (0 : Int32) = nI 0 from rfl, nI_add]; rfl
      rw [e0, nI_clamp (n := 12 * t) (by omega)]
      have vi : vp_in (nI (12 * t)) 36 := vp_in_nI (by omega) (by decide)
      have fin : K (wI (wI N 51 (12 * t) v) 50 t (nI (xs.length + 1))) := by
        refine hK _ ⟨by simp [rI], by simp; omega, fun i hi => ?_⟩ (g3.tr ((ExM.v (by omega) (by omega)).tr ExM.s))
        simp at hi
        cases i with
        | zero => simp [rI]
        | succ i => simp [rI, g2 i (Nat.zero_le _) (by omega)]
      exact ⟨fun _ => ⟨fun z => absurd rfl z, fun _ => ⟨vi, vt, vt, fin⟩⟩, fun z => absurd (by decide) z⟩
    | succ k ih =>
      intro N hk g0 g1 g2 g3
      refine z_X9_putAt_8 ?_
      have e1 : nI (12 * t) + nI (k + 1) - 1 = nI (12 * t + k) := by rw [nI_add, ← Nat.add_assoc, nI_pred]
      rw [nI_clamp (n := t) (by omega), g0, m12, e1, nI_add (12 * t) (k + 1), nI_clamp (n := 12 * t + (k + 1)) (by omega), nI_clamp (n := 12 * t + k) (by omega), pk_m1]
      refine ⟨fun c => absurd c (nI_nle (by omega) (by omega)), fun _ => ⟨fun z => absurd rfl z, fun _ => ⟨vp_in_nI (by omega) (by decide), vp_in_nI (by omega) (by decide), ?_⟩⟩⟩
      refine ih _ (by omega) (by simp [rI, g0]) (fun i hi => ?_) (fun i q1 q2 => ?_) (g3.tr (ExM.v (by omega) (by omega)))
      · have e : ¬ 12 * t + i = 12 * t + (k + 1) := by omega
        have := g1 i (by omega)
        simp at this
        simp [rI, this]
        intro z; omega
      · by_cases e : i = k
        · subst e
          have := g1 i (by omega)
          simp at this
          simp [rI, this]
        · have := g2 i (by omega) q2
          simp at this
          simp [rI, e, this]
  exact key xs.length M (Nat.le_refl _) h1 h3 (fun i q1 q2 => absurd q1 (by omega)) ExM.rf
theorem c_drawF {d : Nat} {M : Mm} {t : Nat} {v : Int32} {xs : List Int32} {K : Int32 → Mm → Prop} (ht : t < 3) (h : TpM M t true (v :: xs)) (hK : ∀ M', TpM M' t true xs → ExM t M M' → K v M') : ACi (d + 1) X9_drawAt [.ref 42, .int (nI t), .int 0] M K := by
  obtain ⟨h1, h2, h3⟩ := h
  simp only [if_true, List.length_cons] at h1 h2 h3
  have vt : vp_in (nI t) 3 := vp_in_nI ht (by decide)
  have e0 : nI (12 * t) + 0 = nI (12 * t) := by rw [show (0 : Int32) = nI 0 from rfl, nI_add]; rfl
  refine w_X9_drawAt ⟨fun z => absurd rfl z, fun _ => ?_⟩
  rw [nI_clamp (n := t) (by omega), h1, m12, e0, nI_clamp (n := 12 * t) (by omega), nI_pred]
  have hv : M.1 51 (12 * t) = v := by have := h3 0 (by omega); simpa using this
  rw [hv]
  refine ⟨vp_in_nI (by omega) (by decide), vt, vt, ?_⟩
  have key : ∀ (j k : Nat) (N : Mm), k + j = xs.length → N.1 50 t = nI xs.length → (∀ i, i < k → N.1 51 (12 * t + i) = xs.getD i 0) → (∀ i, k ≤ i → i < xs.length → N.1 51 (12 * t + (i + 1)) = xs.getD i 0) → ExM t M N → lp_X9_drawAt_40 d N (nI t) 0 v (nI k) K := by
    intro j
    induction j with
    | zero =>
      intro k N hk g0 g1 g2 g3
      refine z_X9_drawAt_40 ⟨vt, ?_⟩
      rw [nI_clamp (n := t) (by omega), g0]
      exact ⟨fun _ => hK N ⟨by simp [g0], by omega, fun i hi => g1 i (by omega)⟩ g3, fun c => absurd (nI_le (by omega) (by omega)) c⟩
    | succ j ih =>
      intro k N hk g0 g1 g2 g3
      refine z_X9_drawAt_40 ⟨vt, ?_⟩
      rw [nI_clamp (n := t) (by omega), g0, m12, nI_add, nI_1, nI_1, nI_clamp (n := 12 * t + k) (by omega), nI_clamp (n := 12 * t + k + 1) (by omega)]
      refine ⟨fun c => absurd c (nI_ge (by omega) (by omega)), fun _ => ⟨fun z => absurd rfl z, fun _ => ⟨vp_in_nI (by omega) (by decide), vp_in_nI (by omega) (by decide), ?_⟩⟩⟩
      refine ih (k + 1) _ (by omega) (by simp [rI, g0]) (fun i hi => ?_) (fun i q1 q2 => ?_) (g3.tr (ExM.v (by omega) (by omega)))
      · by_cases e : i = k
        · subst e
          have := g2 i (Nat.le_refl _) (by omega)
          simp at this
          simp [rI, Nat.add_assoc, this]
        · have := g1 i (by omega)
          simp at this
          simp [rI, e, this]
      · have := g2 i (by omega) q2
        have e : ¬ i + 1 = k := by omega
        simp at this
        simp [rI, e, this]
  refine key xs.length 0 _ (by omega) (by simp [rI]) (fun i hi => absurd hi (by omega)) (fun i _ hi => ?_) ExM.s
  have := h3 (i + 1) (by omega)
  simp at this
  simp [rI, this]
theorem c_drawB {d : Nat} {M : Mm} {t : Nat} {v : Int32} {xs : List Int32} {K : Int32 → Mm → Prop} (ht : t < 3) (h : TpM M t true (xs ++ [v])) (hK : ∀ M', TpM M' t true xs → ExM t M M' → K v M') : ACi (d + 1) X9_drawAt [.ref 42, .int (nI t), .int 1] M K := by
  obtain ⟨h1, h2, h3⟩ := h
  simp only [if_true, List.length_append, List.length_cons, List.length_nil, Nat.zero_add] at h1 h2 h3
  have vt : vp_in (nI t) 3 := vp_in_nI ht (by decide)
  refine w_X9_drawAt ⟨fun _ => ?_, fun z => absurd z (by decide)⟩
  rw [nI_clamp (n := t) (by omega), h1, m12, nI_pred, nI_add, nI_clamp (n := 12 * t + xs.length) (by omega)]
  have hv : M.1 51 (12 * t + xs.length) = v := by have := h3 xs.length (by omega); simpa using this
  rw [hv]
  have fin : K v (wI M 50 t (nI xs.length)) := by
    refine hK _ ⟨by simp [rI], by omega, fun i hi => ?_⟩ ExM.s
    have := h3 i (by omega)
    simp at this
    simp [rI, this, List.getElem?_append_left hi]
  refine ⟨vt, vp_in_nI (by omega) (by decide), vt, vt, z_X9_drawAt_40 ⟨vt, fun _ => fin, fun _ => ⟨fun _ => fin, fun z => absurd z (by decide)⟩⟩⟩
