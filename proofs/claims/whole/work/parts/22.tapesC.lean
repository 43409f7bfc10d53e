/-! TAPES, the class's side: a Tape object at a, its numbers at a + 1. -/
def TpC (M : Mm) (a : Nat) (hr : Bool) (xs : List Int32) : Prop := M.1 a 0 = (if hr then 1 else 0) ∧ M.1 a 1 = nI xs.length ∧ xs.length ≤ 12 ∧ ∀ i, i < xs.length → M.1 (a + 1) i = xs.getD i 0
def ExC (a : Nat) (M M' : Mm) : Prop := M'.2 = M.2 ∧ ∀ q, q ≠ a → q ≠ a + 1 → M'.1 q = M.1 q
theorem ExC.rf {a : Nat} {M : Mm} : ExC a M M := ⟨rfl, fun _ _ _ => rfl⟩
theorem ExC.tr {a : Nat} {M M' M'' : Mm} (h : ExC a M M') (h2 : ExC a M' M'') : ExC a M M'' := ⟨h2.1.trans h.1, fun q a b => (h2.2 q a b).trans (h.2 q a b)⟩
theorem c_tbegin {d : Nat} {M : Mm} {a : Nat} {K : Mm → Prop} (ha : isTp a) (hK : ∀ M', TpC M' a true [] → ExC a M M' → K M') : ACv (d + 1) X5_begin [.ref a] M K := by
  refine w_X5_begin ha (hK _ ⟨?_, ?_, ?_, ?_⟩ ⟨rfl, fun q h1 h2 => ?_⟩)
  · simp [rI]
  · simp [rI]; rfl
  · simp
  · intro i hi; simp at hi
  · rw [wI_ne h1, wI_ne h1]
theorem c_tvanish {d : Nat} {M : Mm} {a : Nat} {K : Mm → Prop} (ha : isTp a) (hK : ∀ M', TpC M' a false [] → ExC a M M' → K M') : ACv (d + 1) X5_vanish [.ref a] M K := by
  refine w_X5_vanish ha (hK _ ⟨?_, ?_, ?_, ?_⟩ ⟨rfl, fun q h1 h2 => ?_⟩)
  · simp [rI]
  · simp [rI]; rfl
  · simp
  · intro i hi; simp at hi
  · rw [wI_ne h1, wI_ne h1]
theorem c_addBehind {d : Nat} {M : Mm} {a : Nat} {v : Int32} {hr : Bool} {xs : List Int32} {K : Mm → Prop} (ha : isTp a) (h : TpC M a hr xs) (hl : xs.length < 12) (hK : ∀ M', TpC M' a hr (xs ++ [v]) → ExC a M M' → K M') : ACv (d + 1) X5_addBehind [.ref a, .int v] M K := by
  obtain ⟨h0, h1, h2, h3⟩ := h
  refine w_X5_addBehind ha ?_
  rw [h1, nI_clamp (by omega)]
  refine ⟨fun c => absurd c (nI_ge (b := 12) hl (by decide)), fun _ => ⟨vp_in_nI hl (by omega), hK _ ⟨?_, ?_, ?_, ?_⟩ ⟨rfl, fun q q1 q2 => ?_⟩⟩⟩
  · simp [rI, h0]
  · simp [rI, h1]
    exact nI_1 _
  · simp; omega
  · intro i hi
    simp at hi
    by_cases e : i = xs.length
    · subst e; simp [rI]
    · have hi2 : i < xs.length := by omega
      simp [rI, e, h3 i hi2, List.getElem?_append_left hi2]
  · rw [wI_ne q1, wI_ne q2]
theorem c_addInFront {d : Nat} {M : Mm} {a : Nat} {v : Int32} {hr : Bool} {xs : List Int32} {K : Mm → Prop} (ha : isTp a) (h : TpC M a hr xs) (hl : xs.length < 12) (hK : ∀ M', TpC M' a hr (v :: xs) → ExC a M M' → K M') : ACv (d + 1) X5_addInFront [.ref a, .int v] M K := by
  obtain ⟨h0, h1, h2, h3⟩ := h
  refine w_X5_addInFront ha ?_
  rw [h1, nI_clamp (by omega)]
  refine ⟨fun c => absurd c (nI_ge (b := 12) hl (by decide)), fun _ => ⟨nI_pos (by omega), by omega, by omega, hK _ ⟨?_, ?_, ?_, ?_⟩ ⟨rfl, fun q q1 q2 => ?_⟩⟩⟩
  · simp [rI, rC, h0]
  · simp [rI, rC, h1]
    exact nI_1 _
  · simp; omega
  · intro i hi
    simp at hi
    cases i with
    | zero => simp [rI]
    | succ i =>
      have hi2 : i < xs.length := by omega
      have hi3 : i + 1 < 1 + xs.length := by omega
      simp [rI, rC, hi3, h3 i hi2]
  · rw [wI_ne q1, wI_ne q2, cpI_ne q2]
theorem c_takeFirst {d : Nat} {M : Mm} {a : Nat} {v : Int32} {hr : Bool} {xs : List Int32} {K : Int32 → Mm → Prop} (ha : isTp a) (h : TpC M a hr (v :: xs)) (hK : ∀ M', TpC M' a hr xs → ExC a M M' → K v M') : ACi (d + 1) X5_takeFirst [.ref a] M K := by
  obtain ⟨h0, h1, h2, h3⟩ := h
  simp only [List.length_cons] at h1 h2 h3
  refine w_X5_takeFirst ha ?_
  have e : nI (xs.length + 1) - 1 = nI xs.length := nI_pred _
  rw [h1, e, nI_clamp (by omega)]
  have hv : M.1 (a + 1) 0 = v := by rw [h3 0 (by omega)]; rfl
  rw [hv]
  refine ⟨fun c => absurd c (nI_nle (by omega) (by omega)), fun _ => ⟨nI_pos (by omega), by omega, by omega, hK _ ⟨?_, ?_, ?_, ?_⟩ ⟨rfl, fun q q1 q2 => ?_⟩⟩⟩
  · simp [rI, rC, h0]
  · simp [rI, rC]
  · omega
  · intro i hi
    have := h3 (i + 1) (by omega)
    simp [rI, rC, hi]
    rw [Nat.add_comm 1 i, this]
    simp [hi]
  · rw [cpI_ne q2, wI_ne q1]
theorem c_takeLast {d : Nat} {M : Mm} {a : Nat} {v : Int32} {hr : Bool} {xs : List Int32} {K : Int32 → Mm → Prop} (ha : isTp a) (h : TpC M a hr (xs ++ [v])) (hK : ∀ M', TpC M' a hr xs → ExC a M M' → K v M') : ACi (d + 1) X5_takeLast [.ref a] M K := by
  obtain ⟨h0, h1, h2, h3⟩ := h
  simp only [List.length_append, List.length_cons, List.length_nil, Nat.zero_add] at h1 h2 h3
  refine w_X5_takeLast ha ?_
  have e : nI (xs.length + 1) - 1 = nI xs.length := nI_pred _
  rw [h1, e]
  have hv : M.1 (a + 1) xs.length = v := by rw [h3 xs.length (by omega)]; simp
  refine ⟨fun c => absurd c (nI_nle (by omega) (by omega)), fun _ => ⟨vp_in_nI (by omega) (by omega), ?_⟩⟩
  rw [nI_clamp (by omega)]
  have e2 : (wI M a 1 (nI xs.length)).1 (a + 1) xs.length = v := by simp [rI, hv]
  rw [e2]
  refine hK _ ⟨?_, ?_, ?_, ?_⟩ ⟨rfl, fun q q1 q2 => ?_⟩
  · simp [rI, h0]
  · simp [rI]
  · omega
  · intro i hi
    have := h3 i (by omega)
    simp [rI, this, List.getElem?_append_left hi]
  · rw [wI_ne q1]
/-- what a fold over the first k numbers makes -/
theorem c_greatest {d : Nat} {M : Mm} {a : Nat} {hr : Bool} {x : Int32} {xs : List Int32} {K : Int32 → Mm → Prop} (ha : isTp a) (h : TpC M a hr (x :: xs)) (hK : K (xs.foldl (fun m y => if m < y then y else m) x) M) : ACi (d + 1) X5_greatest [.ref a] M K := by
  obtain ⟨h0, h1, h2, h3⟩ := h
  simp only [List.length_cons] at h1 h2 h3
  have hv : M.1 (a + 1) 0 = x := by rw [h3 0 (by omega)]; rfl
  refine w_X5_greatest ha ?_
  rw [hv]
  have key : ∀ (ys zs : List Int32) (m : Int32), zs ++ ys = xs → (ys.foldl (fun m y => if m < y then y else m) m) = (xs.foldl (fun m y => if m < y then y else m) x) → lp_X5_greatest_9 d M a m (nI (zs.length + 1)) K := by
    intro ys
    induction ys with
    | nil =>
      intro zs m hz hf
      refine z_X5_greatest_9 ha ?_
      simp only [List.append_nil] at hz
      subst hz
      rw [h1]
      refine ⟨fun _ => ?_, fun c => absurd (nI_le (by omega) (by omega)) c⟩
      simp only [List.foldl_nil] at hf
      rw [hf]; exact hK
    | cons y ys ih =>
      intro zs m hz hf
      have hl : zs.length + (ys.length + 1) = xs.length := by rw [← hz]; simp
      refine z_X5_greatest_9 ha ?_
      rw [h1, nI_clamp (by omega)]
      have hy : M.1 (a + 1) (zs.length + 1) = y := by
        rw [h3 _ (by omega), ← hz]
        simp
      rw [hy]
      refine ⟨fun c => absurd c (nI_ge (by omega) (by omega)), fun _ => ⟨vp_in_nI (by omega) (by omega), ?_⟩⟩
      have := ih (zs ++ [y]) (if m < y then y else m) (by simp [hz]) hf
      rw [nI_1]
      simpa using this
  exact key xs [] x rfl rfl
theorem c_least {d : Nat} {M : Mm} {a : Nat} {hr : Bool} {x : Int32} {xs : List Int32} {K : Int32 → Mm → Prop} (ha : isTp a) (h : TpC M a hr (x :: xs)) (hK : K (xs.foldl (fun m y => if y < m then y else m) x) M) : ACi (d + 1) X5_least [.ref a] M K := by
  obtain ⟨h0, h1, h2, h3⟩ := h
  simp only [List.length_cons] at h1 h2 h3
  have hv : M.1 (a + 1) 0 = x := by rw [h3 0 (by omega)]; rfl
  refine w_X5_least ha ?_
  rw [hv]
  have key : ∀ (ys zs : List Int32) (m : Int32), zs ++ ys = xs → (ys.foldl (fun m y => if y < m then y else m) m) = (xs.foldl (fun m y => if y < m then y else m) x) → lp_X5_least_9 d M a m (nI (zs.length + 1)) K := by
    intro ys
    induction ys with
    | nil =>
      intro zs m hz hf
      refine z_X5_least_9 ha ?_
      simp only [List.append_nil] at hz
      subst hz
      rw [h1]
      refine ⟨fun _ => ?_, fun c => absurd (nI_le (by omega) (by omega)) c⟩
      simp only [List.foldl_nil] at hf
      rw [hf]; exact hK
    | cons y ys ih =>
      intro zs m hz hf
      have hl : zs.length + (ys.length + 1) = xs.length := by rw [← hz]; simp
      refine z_X5_least_9 ha ?_
      rw [h1, nI_clamp (by omega)]
      have hy : M.1 (a + 1) (zs.length + 1) = y := by
        rw [h3 _ (by omega), ← hz]
        simp
      rw [hy]
      refine ⟨fun c => absurd c (nI_ge (by omega) (by omega)), fun _ => ⟨vp_in_nI (by omega) (by omega), ?_⟩⟩
      have := ih (zs ++ [y]) (if y < m then y else m) (by simp [hz]) hf
      rw [nI_1]
      simpa using this
  exact key xs [] x rfl rfl
def cntI (v : Int32) (xs : List Int32) : Nat := (xs.filter (fun x => x = v)).length
theorem c_howMany {d : Nat} {M : Mm} {a : Nat} {hr : Bool} {v : Int32} {xs : List Int32} {K : Int32 → Mm → Prop} (ha : isTp a) (h : TpC M a hr xs) (hK : K (nI (cntI v xs)) M) : ACi (d + 1) X5_howMany [.ref a, .int v] M K := by
  obtain ⟨h0, h1, h2, h3⟩ := h
  refine w_X5_howMany ha ?_
  have key : ∀ (ys zs : List Int32), zs ++ ys = xs → lp_X5_howMany_4 d M a v (nI (cntI v zs)) (nI zs.length) K := by
    intro ys
    induction ys with
    | nil =>
      intro zs hz
      refine z_X5_howMany_4 ha ?_
      simp only [List.append_nil] at hz
      subst hz
      rw [h1]
      exact ⟨fun _ => hK, fun c => absurd (nI_le (by omega) (by omega)) c⟩
    | cons y ys ih =>
      intro zs hz
      have hl : zs.length + (ys.length + 1) = xs.length := by rw [← hz]; simp
      refine z_X5_howMany_4 ha ?_
      rw [h1, nI_clamp (by omega)]
      have hy : M.1 (a + 1) zs.length = y := by
        rw [h3 _ (by omega), ← hz]
        simp
      rw [hy]
      have := ih (zs ++ [y]) (by simp [hz])
      refine ⟨fun c => absurd c (nI_ge (by omega) (by omega)), fun _ => ⟨vp_in_nI (by omega) (by omega), ⟨fun e => ?_, fun e => ?_⟩⟩⟩
      · rw [nI_1]
        simpa [cntI, e] using this
      · rw [nI_1, nI_1]
        simpa [cntI, e] using this
  exact key xs [] rfl
theorem c_removeAll {d : Nat} {M : Mm} {a : Nat} {hr : Bool} {v : Int32} {xs : List Int32} {K : Int32 → Mm → Prop} (ha : isTp a) (h : TpC M a hr xs) (hK : ∀ M', TpC M' a hr (xs.filter (fun x => ¬ x = v)) → ExC a M M' → K (nI (xs.length - (xs.filter (fun x => ¬ x = v)).length)) M') : ACi (d + 1) X5_removeAll [.ref a, .int v] M K := by
  obtain ⟨h0, h1, h2, h3⟩ := h
  refine w_X5_removeAll ha ?_
  rw [h1]
  have key : ∀ (ys zs : List Int32) (N : Mm), zs ++ ys = xs → N.1 a 0 = (if hr then 1 else 0) → N.1 a 1 = nI (zs.filter (fun x => ¬ x = v)).length → (∀ i, i < (zs.filter (fun x => ¬ x = v)).length → N.1 (a + 1) i = (zs.filter (fun x => ¬ x = v)).getD i 0) → (∀ i, zs.length ≤ i → i < xs.length → N.1 (a + 1) i = xs.getD i 0) → ExC a M N → lp_X5_removeAll_12 d N a v (nI xs.length) (nI zs.length) K := by
    intro ys
    induction ys with
    | nil =>
      intro zs N hz g0 g1 g2 g3 g4
      refine z_X5_removeAll_12 ha ?_
      simp only [List.append_nil] at hz
      subst hz
      have hf : (zs.filter (fun x => ¬ x = v)).length ≤ zs.length := List.length_filter_le _ _
      rw [g1, pk_sub hf]
      exact ⟨fun _ => hK N ⟨g0, g1, by omega, g2⟩ g4, fun c => absurd (nI_le (by omega) (by omega)) c⟩
    | cons y ys ih =>
      intro zs N hz g0 g1 g2 g3 g4
      have hl : zs.length + (ys.length + 1) = xs.length := by rw [← hz]; simp
      have hf : (zs.filter (fun x => ¬ x = v)).length ≤ zs.length := List.length_filter_le _ _
      refine z_X5_removeAll_12 ha ?_
      rw [nI_clamp (n := zs.length) (by omega), g1, nI_clamp (by omega)]
      have hy : N.1 (a + 1) zs.length = y := by
        rw [g3 _ (by omega) (by omega), ← hz]
        simp
      rw [hy]
      refine ⟨fun c => absurd c (nI_ge (by omega) (by omega)), fun _ => ⟨vp_in_nI (by omega) (by omega), ⟨fun e => ?_, fun e => ⟨vp_in_nI (by omega) (by omega), vp_in_nI (by omega) (by omega), ?_⟩⟩⟩⟩
      · rw [nI_1]
        have := ih (zs ++ [y]) N (by simp [hz]) g0 (by simpa [e] using g1) (by simpa [e] using g2) (fun i q1 q2 => g3 i (by simp at q1; omega) q2) g4
        simpa using this
      · rw [nI_1]
        have := ih (zs ++ [y]) (wI (wI N (a + 1) (zs.filter (fun x => ¬ x = v)).length y) a 1 ((wI N (a + 1) (zs.filter (fun x => ¬ x = v)).length y).1 a 1 + 1)) (by simp [hz]) (by simp [rI, g0]) (by
            simp [rI, e]
            rw [g1]
            simpa using nI_1 _) (fun i q => by
            simp [e] at q
            by_cases e2 : i = (zs.filter (fun x => ¬ x = v)).length
            · subst e2
              simp [rI, e]
            · have q2 : i < (zs.filter (fun x => ¬ x = v)).length := by simp at e2 ⊢; omega
              have q3 := g2 i q2
              simp at e2 q2 q3
              simp [rI, e, e2, q3, List.getElem?_append_left q2]) (fun i q1 q2 => by
            simp at q1
            have e2 : ¬ i = (zs.filter (fun x => ¬ x = v)).length := by omega
            have := g3 i (by omega) q2
            simp at e2 this
            simp [rI, e2, this]) (g4.tr ⟨rfl, fun q q1 q2 => by rw [wI_ne q1, wI_ne q2]⟩)
        simpa using this
  refine key xs [] (wI M a 1 0) rfl (by simp [rI, h0]) (by simp [rI]; rfl) (fun i hi => by simp at hi) (fun i _ hi => by simpa [rI] using h3 i hi) ⟨rfl, fun q q1 q2 => by rw [wI_ne q1]⟩
