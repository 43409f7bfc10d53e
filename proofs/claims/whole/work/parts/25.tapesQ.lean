/-! TAPES: find and strike. -/
def gzI (xs : List Int32) : Int32 := xs.foldl (fun m y => if m < y then y else m) (-99999)
def lzI (xs : List Int32) : Int32 := xs.foldl (fun m y => if y < m then y else m) 99999
theorem gzI_cons {x : Int32} {xs : List Int32} (h : isNum x) : gzI (x :: xs) = xs.foldl (fun m y => if m < y then y else m) x := by
  unfold gzI
  rw [List.foldl_cons, if_pos]
  rw [fa_lt, show (-99999 : Int32).toInt = -99999 by decide]
  have := h.1
  omega
theorem lzI_cons {x : Int32} {xs : List Int32} (h : isNum x) : lzI (x :: xs) = xs.foldl (fun m y => if y < m then y else m) x := by
  unfold lzI
  rw [List.foldl_cons, if_pos]
  rw [fa_lt, show (99999 : Int32).toInt = 99999 by decide]
  have := h.2
  omega
theorem gzI_snoc (zs : List Int32) (y : Int32) : gzI (zs ++ [y]) = if gzI zs < y then y else gzI zs := by unfold gzI; rw [List.foldl_append]; rfl
theorem lzI_snoc (zs : List Int32) (y : Int32) : lzI (zs ++ [y]) = if y < lzI zs then y else lzI zs := by unfold lzI; rw [List.foldl_append]; rfl
theorem cntI_snoc (v : Int32) (zs : List Int32) (y : Int32) : cntI v (zs ++ [y]) = cntI v zs + if y = v then 1 else 0 := by
  unfold cntI
  rw [List.filter_append, List.length_append]
  by_cases e : y = v <;> simp [e]
theorem c_findM {d : Nat} {M : Mm} {t : Nat} {v2 v : Int32} {xs : List Int32} {K : Int32 → Mm → Prop} (ht : t < 3) (h : TpM M t true xs) (hK2 : v2 = 2 → K (nI (cntI v xs)) M) (hK : ¬ v2 = 2 → (xs = [] → K (-12) M) ∧ (xs ≠ [] → ((v2 = 0 → K (50000 + gzI xs) M) ∧ (¬ v2 = 0 → K (50000 + lzI xs) M)))) : lp_X9_find_63 d M (nI t) v2 v (-99999) 99999 0 (nI (12 * t)) K := by
  obtain ⟨h1, h2, h3⟩ := h
  simp only [if_true] at h1
  have vt : vp_in (nI t) 3 := vp_in_nI ht (by decide)
  have key : ∀ (ys zs : List Int32), zs ++ ys = xs → lp_X9_find_63 d M (nI t) v2 v (gzI zs) (lzI zs) (nI (cntI v zs)) (nI (12 * t + zs.length)) K := by
    intro ys
    induction ys with
    | nil =>
      intro zs hz
      simp only [List.append_nil] at hz
      subst hz
      refine z_X9_find_63 ⟨vt, ?_⟩
      rw [nI_clamp (n := t) (by omega), h1, m12, nI_add]
      refine ⟨fun _ => ⟨fun c2 => ⟨vt, fun c => ?_, fun c => ?_⟩, fun c2 => hK2 c2⟩, fun c => absurd (nI_le (by omega) (by omega)) c⟩
      · have := (hK c2).2 (fun z => by rw [z] at c; exact c rfl)
        exact ⟨this.2, this.1⟩
      · refine (hK c2).1 ?_
        cases zs with
        | nil => rfl
        | cons y ys => exact absurd c (nI_ne0 (by simp) (by simp at h2 ⊢; omega))
    | cons y ys ih =>
      intro zs hz
      have hl : zs.length + (ys.length + 1) = xs.length := by rw [← hz]; simp
      refine z_X9_find_63 ⟨vt, ?_⟩
      have hy : M.1 51 (12 * t + zs.length) = y := by
        rw [h3 _ (by omega), ← hz]
        simp
      rw [nI_clamp (n := t) (by omega), h1, m12, nI_add, nI_clamp (n := 12 * t + zs.length) (by omega), hy, nI_1]
      have vi : vp_in (nI (12 * t + zs.length)) 36 := vp_in_nI (by omega) (by decide)
      have st := ih (zs ++ [y]) (by simp [hz])
      rw [gzI_snoc, lzI_snoc, cntI_snoc, List.length_append, List.length_singleton, ← Nat.add_assoc] at st
      have z0 : nI (cntI v zs) + 0 = nI (cntI v zs + 0) := by rw [show (0 : Int32) = nI 0 from rfl, nI_add]
      rw [z0, nI_1]
      refine ⟨fun c => absurd c (nI_ge (by omega) (by omega)), fun _ => ⟨vi, fun a => ⟨vi, fun b => ⟨vi, fun e => ?_, fun e => ?_⟩, fun b => ⟨vi, vi, fun e => ?_, fun e => ?_⟩⟩, fun a => ⟨vi, vi, fun b => ⟨vi, fun e => ?_, fun e => ?_⟩, fun b => ⟨vi, vi, fun e => ?_, fun e => ?_⟩⟩⟩⟩
      · rw [if_neg (fun z => (fa_of_lt z).2.1 a), if_neg (fun z => (fa_of_lt z).2.1 b), if_neg e] at st; exact st
      · rw [if_neg (fun z => (fa_of_lt z).2.1 a), if_neg (fun z => (fa_of_lt z).2.1 b), if_pos e] at st; exact st
      · rw [if_neg (fun z => (fa_of_lt z).2.1 a), if_pos (fa_of_nle b), if_neg e] at st; exact st
      · rw [if_neg (fun z => (fa_of_lt z).2.1 a), if_pos (fa_of_nle b), if_pos e] at st; exact st
      · rw [if_pos (fa_of_nle a), if_neg (fun z => (fa_of_lt z).2.1 b), if_neg e] at st; exact st
      · rw [if_pos (fa_of_nle a), if_neg (fun z => (fa_of_lt z).2.1 b), if_pos e] at st; exact st
      · rw [if_pos (fa_of_nle a), if_pos (fa_of_nle b), if_neg e] at st; exact st
      · rw [if_pos (fa_of_nle a), if_pos (fa_of_nle b), if_pos e] at st; exact st
  exact key xs [] rfl
theorem tp_find {M : Mm} {v1 v2 v3 : Int32} (h : TapesI M) : PrT X8_find X9_find [.int v1, .int v2, .int v3] M := by
  intro d
  refine w_X8_find (c_tapeAt (fun t ht e => ⟨fun z => (by cases z), fun a ea => ?_⟩) (fun hb => ⟨fun _ => ?_, fun a z => (by cases z)⟩))
  · cases ea
    have hp : isTp (36 + 2 * t) := by unfold isTp; omega
    obtain ⟨hr, xs, g1, g2, g3, g4⟩ := h t ht
    have vt : vp_in v1 3 := by rw [e]; exact vp_in_nI ht (by decide)
    have et : v1.toNatClampNeg = t := by rw [e]; exact nI_clamp (by omega)
    have bad : ∀ (N : Mm) (K : Int32 → Mm → Prop) (d : Nat), K 1 N → ACi (d + 2) X9_isTape [.int v1] N K := fun N K d hk => c_isTape (fun _ _ _ => hk) (fun hb => absurd hb (fun z => nIlt ht e z))
    have e2 : (2 : Int32).toInt = 2 := by decide
    have out : (v2.toInt < 0 ∨ 2 < v2.toInt) → ∀ (d : Nat), ACi (d + 7) X9_find [.ref 42, .int v1, .int v2, .int v3] M (fun r' M2 => -3 = r' ∧ TapesI M2 ∧ TpFr M M2) := fun hz d => w_X9_find (bad _ _ _ ⟨fun _ => c_in (l := 0) (u := 2) (by decide) (by decide) (fun a b => by omega) (fun _ => ⟨fun _ => ⟨rfl, h, TpFr.rf⟩, fun z => absurd rfl z⟩), fun z => absurd z (by decide)⟩)
    refine ⟨hp, fun c => out (Or.inl (by rw [fa_lt, tI0] at c; exact c)) _, fun c => ⟨fun c2 => out (Or.inr (by rw [fa_lt, e2] at c2; exact c2)) _, fun c2 => ?_⟩⟩
    rw [fa_lt, tI0] at c
    rw [fa_lt, e2] at c2
    refine c_isNumC (fun h3 => ⟨fun _ => ?_, fun z => absurd z (by decide)⟩) (fun h3 => ⟨fun z => absurd rfl z, fun _ => ?_⟩)
    · have mod : ∀ (K : Int32 → Mm → Prop) (d : Nat), ((0 ≤ M.1 50 t → lp_X9_find_63 (d + 6) M v1 v2 v3 (-99999) 99999 0 (12 * v1) K) ∧ (¬ 0 ≤ M.1 50 t → K (-11) M)) → ACi (d + 7) X9_find [.ref 42, .int v1, .int v2, .int v3] M K := by
        intro K d hk
        refine w_X9_find (bad _ _ _ ⟨fun _ => c_in (l := 0) (u := 2) (by decide) (by decide) (fun _ _ => ⟨fun z => absurd z (by decide), fun _ => c_isNumM (fun _ => ⟨fun _ => ⟨vt, ?_⟩, fun z => absurd z (by decide)⟩) (fun z => absurd h3 z)⟩) (fun z => absurd z (by omega)), fun z => absurd z (by decide)⟩)
        rw [et]
        exact hk
      cases hr with
      | false =>
        refine ⟨fun c => absurd g1.1 c, fun _ => mod _ _ ?_⟩
        rw [g2.1]
        exact ⟨fun z => absurd z (show ¬ (0 : Int32) ≤ -1 by decide), fun _ => ⟨rfl, h, TpFr.rf⟩⟩
      | true =>
        have hl := g2.2.1
        have mod2 : ∀ (K : Int32 → Mm → Prop) (d : Nat), (v2 = 2 → K (nI (cntI v3 xs)) M) → (¬ v2 = 2 → (xs = [] → K (-12) M) ∧ (xs ≠ [] → ((v2 = 0 → K (50000 + gzI xs) M) ∧ (¬ v2 = 0 → K (50000 + lzI xs) M)))) → ACi (d + 7) X9_find [.ref 42, .int v1, .int v2, .int v3] M K := by
          intro K d q1 q2
          refine mod K d ?_
          rw [g2.1]
          refine ⟨fun _ => ?_, fun z => absurd (pos_nI (by omega)) z⟩
          rw [e, m12]
          exact c_findM ht g2 q1 q2
        refine ⟨fun _ => ⟨fun c3 => ?_, fun c3 => c_howMany hp g1 (mod2 _ _ (fun _ => ⟨rfl, h, TpFr.rf⟩) (fun z => absurd c3 z))⟩, fun z => absurd z (b1 g1.1)⟩
        rw [g1.2.1]
        refine ⟨fun c4 => ?_, fun c4 => ?_⟩
        · have hne : xs ≠ [] := fun z => by rw [z] at c4; exact c4 rfl
          obtain ⟨y, ys, rfl⟩ : ∃ y ys, xs = y :: ys := List.exists_cons_of_ne_nil hne
          have hy : isNum y := g4 y List.mem_cons_self
          refine ⟨fun c5 => c_least hp g1 (mod2 _ _ (fun z => absurd z c3) (fun _ => ⟨fun z => absurd z hne, fun _ => ⟨fun z => absurd z c5, fun _ => ⟨?_, h, TpFr.rf⟩⟩⟩)), fun c5 => c_greatest hp g1 (mod2 _ _ (fun z => absurd z c3) (fun _ => ⟨fun z => absurd z hne, fun _ => ⟨fun _ => ⟨?_, h, TpFr.rf⟩, fun z => absurd c5 z⟩⟩))⟩
          · rw [lzI_cons hy]; exact Int32.add_comm _ _
          · rw [gzI_cons hy]; exact Int32.add_comm _ _
        · have hx : xs = [] := by
            cases xs with
            | nil => rfl
            | cons y ys => exact absurd c4 (nI_ne0 (by simp) (by simp at hl ⊢; omega))
          exact mod2 _ _ (fun z => absurd z c3) (fun _ => ⟨fun _ => ⟨rfl, h, TpFr.rf⟩, fun z => absurd hx z⟩)
    · exact w_X9_find (bad _ _ _ ⟨fun _ => c_in (l := 0) (u := 2) (by decide) (by decide) (fun _ _ => ⟨fun z => absurd z (by decide), fun _ => c_isNumM (fun z => absurd z h3) (fun _ => ⟨fun z => absurd rfl z, fun _ => ⟨rfl, h, TpFr.rf⟩⟩)⟩) (fun z => absurd z (by omega)), fun z => absurd z (by decide)⟩)
  · exact w_X9_find (c_isTape (fun u hu eu => absurd hb (fun z => nIlt hu eu z)) (fun _ => ⟨fun z => absurd rfl z, fun _ => ⟨rfl, h, TpFr.rf⟩⟩))
theorem c_strikeM {d : Nat} {M : Mm} {t : Nat} {v : Int32} {xs : List Int32} {K : Int32 → Mm → Prop} (ht : t < 3) (h : TpM M t true xs) (hK : ∀ M', TpM M' t true (xs.filter (fun x => ¬ x = v)) → ExM t M M' → K (nI (xs.length - (xs.filter (fun x => ¬ x = v)).length)) M') : lp_X9_strike_37 d M (nI t) v 0 0 K := by
  obtain ⟨h1, h2, h3⟩ := h
  simp only [if_true] at h1
  have vt : vp_in (nI t) 3 := vp_in_nI ht (by decide)
  have key : ∀ (ys zs : List Int32) (N : Mm), zs ++ ys = xs → N.1 50 t = nI xs.length → (∀ i, i < (zs.filter (fun x => ¬ x = v)).length → N.1 51 (12 * t + i) = (zs.filter (fun x => ¬ x = v)).getD i 0) → (∀ i, zs.length ≤ i → i < xs.length → N.1 51 (12 * t + i) = xs.getD i 0) → ExM t M N → lp_X9_strike_37 d N (nI t) v (nI (zs.filter (fun x => ¬ x = v)).length) (nI zs.length) K := by
    intro ys
    induction ys with
    | nil =>
      intro zs N hz g1 g2 g3 g4
      simp only [List.append_nil] at hz
      subst hz
      have hf : (zs.filter (fun x => ¬ x = v)).length ≤ zs.length := List.length_filter_le _ _
      refine z_X9_strike_37 ⟨vt, ?_⟩
      rw [nI_clamp (n := t) (by omega), g1, pk_sub hf]
      refine ⟨fun _ => ⟨vt, vt, hK _ ⟨by simp [rI], by omega, fun i hi => ?_⟩ (g4.tr ExM.s)⟩, fun c => absurd (nI_le (by omega) (by omega)) c⟩
      have := g2 i hi
      simp at this
      simp [rI, this]
    | cons y ys ih =>
      intro zs N hz g1 g2 g3 g4
      have hl : zs.length + (ys.length + 1) = xs.length := by rw [← hz]; simp
      have hf : (zs.filter (fun x => ¬ x = v)).length ≤ zs.length := List.length_filter_le _ _
      refine z_X9_strike_37 ⟨vt, ?_⟩
      have hy : N.1 51 (12 * t + zs.length) = y := by
        rw [g3 _ (Nat.le_refl _) (by omega), ← hz]
        simp
      rw [nI_clamp (n := t) (by omega), g1, m12, nI_add (12 * t) zs.length, nI_add (12 * t) (zs.filter (fun x => ¬ x = v)).length, nI_clamp (n := 12 * t + zs.length) (by omega), nI_clamp (n := 12 * t + (zs.filter (fun x => ¬ x = v)).length) (by omega), hy, nI_1, nI_1]
      refine ⟨fun c => absurd c (nI_ge (by omega) (by omega)), fun _ => ⟨vp_in_nI (by omega) (by decide), fun e => ?_, fun e => ⟨vp_in_nI (by omega) (by decide), vp_in_nI (by omega) (by decide), ?_⟩⟩⟩
      · have := ih (zs ++ [y]) N (by simp [hz]) g1 (by simpa [e] using g2) (fun i q1 q2 => g3 i (by simp at q1; omega) q2) g4
        simpa [e] using this
      · have := ih (zs ++ [y]) (wI N 51 (12 * t + (zs.filter (fun x => ¬ x = v)).length) y) (by simp [hz]) (by simp [rI, g1]) (fun i q => by
            simp [e] at q
            by_cases e2 : i = (zs.filter (fun x => ¬ x = v)).length
            · subst e2
              simp [rI, e]
            · have q2 : i < (zs.filter (fun x => ¬ x = v)).length := by simp at e2 ⊢; omega
              have q3 := g2 i q2
              simp at e2 q2 q3
              simp [rI, e, e2, q3, List.getElem?_append_left q2]) (fun i q1 q2 => by
            simp at q1
            have e2 : ¬ i = (zs.filter (fun x => ¬ x = v)).length := by omega
            have := g3 i (by omega) q2
            simp at e2 this
            simp [rI, e2, this]) (g4.tr (ExM.v (by omega) (by omega)))
        simpa [e] using this
  exact key xs [] M rfl h1 (fun i hi => by simp at hi) (fun i _ hi => h3 i hi) ExM.rf
theorem tp_strike {M : Mm} {v1 v2 : Int32} (h : TapesI M) : PrT X8_strike X9_strike [.int v1, .int v2] M := by
  intro d
  refine w_X8_strike (c_tapeAt (fun t ht e => ⟨fun z => (by cases z), fun a ea => ?_⟩) (fun hb => ⟨fun _ => ?_, fun a z => (by cases z)⟩))
  · cases ea
    have hp : isTp (36 + 2 * t) := by unfold isTp; omega
    obtain ⟨hr, xs, g1, g2, g3, g4⟩ := h t ht
    have vt : vp_in v1 3 := by rw [e]; exact vp_in_nI ht (by decide)
    have et : v1.toNatClampNeg = t := by rw [e]; exact nI_clamp (by omega)
    have bad : ∀ (N : Mm) (K : Int32 → Mm → Prop) (d : Nat), K 1 N → ACi (d + 2) X9_isTape [.int v1] N K := fun N K d hk => c_isTape (fun _ _ _ => hk) (fun hb => absurd hb (fun z => nIlt ht e z))
    refine ⟨hp, c_isNumC (fun h3 => ⟨fun _ => ?_, fun z => absurd z (by decide)⟩) (fun h3 => ⟨fun z => absurd rfl z, fun _ => ?_⟩)⟩
    · have mod : ∀ (N : Mm) (K : Int32 → Mm → Prop) (d : Nat), ((0 ≤ N.1 50 t → lp_X9_strike_37 (d + 6) N v1 v2 0 0 K) ∧ (¬ 0 ≤ N.1 50 t → K (-11) N)) → ACi (d + 7) X9_strike [.ref 42, .int v1, .int v2] N K := by
        intro N K d hk
        refine w_X9_strike (bad _ _ _ ⟨fun _ => c_isNumM (fun _ => ⟨fun _ => ⟨vt, ?_⟩, fun z => absurd z (by decide)⟩) (fun z => absurd h3 z), fun z => absurd z (by decide)⟩)
        rw [et]
        exact hk
      cases hr with
      | false =>
        refine ⟨fun c => absurd g1.1 c, fun _ => mod _ _ _ ?_⟩
        rw [g2.1]
        exact ⟨fun z => absurd z (show ¬ (0 : Int32) ≤ -1 by decide), fun _ => ⟨rfl, h, TpFr.rf⟩⟩
      | true =>
        have hl := g2.2.1
        refine ⟨fun _ => c_removeAll hp g1 (fun M1 hT hE => mod _ _ _ ?_), fun z => absurd z (b1 g1.1)⟩
        have g2' := g2.C (by omega) hE
        rw [g2'.1]
        refine ⟨fun _ => ?_, fun z => absurd (pos_nI (by omega)) z⟩
        rw [e]
        exact c_strikeM ht g2' (fun M2 hT2 hE2 => ⟨rfl, h.upd (hr := true) ht hE hE2 hT hT2 (fun z => by cases z) (fun x hx => g4 x (List.mem_filter.mp hx).1)⟩)
    · exact w_X9_strike (bad _ _ _ ⟨fun _ => c_isNumM (fun z => absurd z h3) (fun _ => ⟨fun z => absurd rfl z, fun _ => ⟨rfl, h, TpFr.rf⟩⟩), fun z => absurd z (by decide)⟩)
  · exact w_X9_strike (c_isTape (fun u hu eu => absurd hb (fun z => nIlt hu eu z)) (fun _ => ⟨fun z => absurd rfl z, fun _ => ⟨rfl, h, TpFr.rf⟩⟩))
