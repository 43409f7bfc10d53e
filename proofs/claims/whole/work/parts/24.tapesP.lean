/-! TAPES: the public calls, both sides. -/
def TapesI (M : Mm) : Prop := ∀ t, t < 3 → ∃ hr xs, TpC M (36 + 2 * t) hr xs ∧ TpM M t hr xs ∧ (hr = false → xs = []) ∧ ∀ x ∈ xs, isNum x
/-- only tapes have changed -/
def TpFr (M M' : Mm) : Prop := M'.2 = M.2 ∧ ∀ q, (q < 36 ∨ 42 ≤ q) → q ≠ 50 → q ≠ 51 → M'.1 q = M.1 q
theorem TpFr.rf {M : Mm} : TpFr M M := ⟨rfl, fun _ _ _ _ => rfl⟩
theorem TpC.of {M M' : Mm} {a : Nat} {hr : Bool} {xs : List Int32} (h : TpC M a hr xs) (e1 : M'.1 a = M.1 a) (e2 : M'.1 (a + 1) = M.1 (a + 1)) : TpC M' a hr xs := by
  unfold TpC at *
  rw [e1, e2]
  exact h
theorem TpM.of {M M' : Mm} {t : Nat} {hr : Bool} {xs : List Int32} (h : TpM M t hr xs) (e1 : M'.1 50 t = M.1 50 t) (e2 : ∀ j, 12 * t ≤ j → j < 12 * t + 12 → M'.1 51 j = M.1 51 j) : TpM M' t hr xs := by
  obtain ⟨h1, h2, h3⟩ := h
  exact ⟨e1.trans h1, h2, fun i hi => (e2 _ (by omega) (by omega)).trans (h3 i hi)⟩
theorem TapesI.upd {M M1 M2 : Mm} {t : Nat} {hr : Bool} {xs : List Int32} (h : TapesI M) (ht : t < 3) (hC : ExC (36 + 2 * t) M M1) (hM : ExM t M1 M2) (h1 : TpC M1 (36 + 2 * t) hr xs) (h2 : TpM M2 t hr xs) (h3 : hr = false → xs = []) (h4 : ∀ x ∈ xs, isNum x) : TapesI M2 ∧ TpFr M M2 := by
  refine ⟨fun u hu => ?_, hM.1.trans hC.1, fun q hq q1 q2 => (hM.2.1 q q1 q2).trans (hC.2 q (by omega) (by omega))⟩
  by_cases e : u = t
  · subst e
    exact ⟨hr, xs, h1.of (hM.2.1 _ (by omega) (by omega)) (hM.2.1 _ (by omega) (by omega)), h2, h3, h4⟩
  · obtain ⟨r, ys, g1, g2, g3, g4⟩ := h u hu
    refine ⟨r, ys, (g1.of (hC.2 _ (by omega) (by omega)) (hC.2 _ (by omega) (by omega))).of (hM.2.1 _ (by omega) (by omega)) (hM.2.1 _ (by omega) (by omega)), (g2.of (by rw [hC.2 50 (by omega) (by omega)]) (fun j _ _ => by rw [hC.2 51 (by omega) (by omega)])).of (hM.2.2.1 u e) (fun j a b => hM.2.2.2 j (by omega)), g3, g4⟩
theorem TpM.C {M M1 : Mm} {t a : Nat} {hr : Bool} {xs : List Int32} (h : TpM M t hr xs) (ha : a < 42) (hC : ExC a M M1) : TpM M1 t hr xs := h.of (by rw [hC.2 50 (by omega) (by omega)]) (fun j _ _ => by rw [hC.2 51 (by omega) (by omega)])
abbrev PrT (X Y : Md) (vs : List Value) (M : Mm) : Prop := ∀ d, ACi (d + 20) X (.ref 0 :: vs) M (fun r M1 => ACi (d + 20) Y (.ref 42 :: vs) M1 (fun r' M2 => r = r' ∧ TapesI M2 ∧ TpFr M M2))
theorem nIlt {t : Nat} {x : Int32} (ht : t < 3) (e : x = nI t) (h : x.toInt < 0 ∨ 2 < x.toInt) : False := by
  rw [e, tN (by omega)] at h
  omega
theorem nIeq {t u : Nat} (ht : t < 3) (hu : u < 3) (e : nI t = nI u) : t = u := (nI_eq (by omega) (by omega)).mp e
theorem tp_tape {M : Mm} {v1 : Int32} (h : TapesI M) : PrT X8_tape X9_tape [.int v1] M := by
  intro d
  refine w_X8_tape (c_tapeAt (fun t ht e => ⟨fun z => (by cases z), fun a ea => ?_⟩) (fun hb => ⟨fun _ => ?_, fun a z => (by cases z)⟩))
  · cases ea
    refine ⟨by unfold isTp; omega, c_tbegin (by unfold isTp; omega) (fun M1 hT hE => ?_)⟩
    refine w_X9_tape (c_isTape (fun u hu eu => ⟨fun _ => ⟨by rw [eu]; exact vp_in_nI hu (by decide), ?_⟩, fun z => absurd z (by decide)⟩) (fun hb => absurd hb (fun z => nIlt ht e z)))
    rw [e, nI_clamp (by omega)]
    refine ⟨rfl, h.upd (xs := []) (hr := true) ht hE ExM.s hT ⟨by simp [rI]; rfl, by simp, fun i hi => by simp at hi⟩ (fun z => by cases z) (fun x hx => by simp at hx)⟩
  · exact w_X9_tape (c_isTape (fun u hu eu => absurd hb (fun z => nIlt hu eu z)) (fun _ => ⟨fun z => absurd rfl z, fun _ => ⟨rfl, h, TpFr.rf⟩⟩))
theorem b1 {x : Int32} (h : x = (if true then 1 else 0)) : ¬ x = 0 := by rw [h]; decide
theorem pos_nI {n : Nat} (h : n < 2147483648) : 0 ≤ nI n := nI_pos' h
theorem tp_drop {M : Mm} {v1 : Int32} (h : TapesI M) : PrT X8_drop X9_drop [.int v1] M := by
  intro d
  refine w_X8_drop (c_tapeAt (fun t ht e => ⟨fun z => (by cases z), fun a ea => ?_⟩) (fun hb => ⟨fun _ => ?_, fun a z => (by cases z)⟩))
  · cases ea
    have hp : isTp (36 + 2 * t) := by unfold isTp; omega
    obtain ⟨hr, xs, g1, g2, g3, g4⟩ := h t ht
    have vt : vp_in v1 3 := by rw [e]; exact vp_in_nI ht (by decide)
    refine ⟨hp, fun c => ?_, fun c => ?_⟩
    · cases hr with
      | false => exact absurd g1.1 c
      | true =>
        refine c_tvanish hp (fun M1 hT hE => ?_)
        have g2' := g2.C (by omega) hE
        refine w_X9_drop (c_isTape (fun u hu eu => ⟨fun _ => ⟨vt, vt, ?_⟩, fun z => absurd z (by decide)⟩) (fun hb => absurd hb (fun z => nIlt ht e z)))
        rw [e, nI_clamp (by omega), g2'.1, g1.2.1]
        have hl := g2.2.1
        refine ⟨fun _ => ⟨by simp, h.upd (xs := []) (hr := false) ht hE ExM.s hT ⟨by simp [rI], by simp, fun i hi => by simp at hi⟩ (fun _ => rfl) (fun x hx => by simp at hx)⟩, fun z => absurd (pos_nI (by omega)) z⟩
    · cases hr with
      | true => exact absurd c (b1 g1.1)
      | false =>
        have hx := g3 rfl
        subst hx
        refine w_X9_drop (c_isTape (fun u hu eu => ⟨fun _ => ⟨vt, vt, ?_⟩, fun z => absurd z (by decide)⟩) (fun hb => absurd hb (fun z => nIlt ht e z)))
        rw [e, nI_clamp (by omega), g2.1]
        exact ⟨fun z => absurd z (by decide), fun _ => ⟨rfl, h.upd (xs := []) (hr := false) ht ExC.rf ExM.s g1 ⟨by simp [rI], by simp, fun i hi => by simp at hi⟩ (fun _ => rfl) (fun x hx => by simp at hx)⟩⟩
  · exact w_X9_drop (c_isTape (fun u hu eu => absurd hb (fun z => nIlt hu eu z)) (fun _ => ⟨fun z => absurd rfl z, fun _ => ⟨rfl, h, TpFr.rf⟩⟩))
theorem tp_put {M : Mm} {v1 v2 v3 : Int32} (h : TapesI M) : PrT X8_put X9_put [.int v1, .int v2, .int v3] M := by
  intro d
  refine w_X8_put (c_tapeAt (fun t ht e => ⟨fun z => (by cases z), fun a ea => ?_⟩) (fun hb => ⟨fun _ => ?_, fun a z => (by cases z)⟩))
  · cases ea
    have hp : isTp (36 + 2 * t) := by unfold isTp; omega
    obtain ⟨hr, xs, g1, g2, g3, g4⟩ := h t ht
    have vt : vp_in v1 3 := by rw [e]; exact vp_in_nI ht (by decide)
    have bad : ∀ (N : Mm) (K : Int32 → Mm → Prop) (d : Nat), K 1 N → ACi (d + 2) X9_isTape [.int v1] N K := fun N K d hk => c_isTape (fun _ _ _ => hk) (fun hb => absurd hb (fun z => nIlt ht e z))
    refine ⟨hp, c_isEnd (fun h2 => ⟨fun z => absurd z (by decide), fun _ => c_isNumC (fun h3 => ⟨fun _ => ?_, fun z => absurd z (by decide)⟩) (fun h3 => ⟨fun z => absurd rfl z, fun _ => ?_⟩)⟩) (fun h2 => ⟨fun _ => ?_, fun z => absurd rfl z⟩)⟩
    · cases hr with
      | false =>
        refine ⟨fun c => absurd g1.1 c, fun _ => ?_⟩
        refine w_X9_put (bad _ _ _ ⟨fun _ => c_in01 (fun _ => ⟨fun z => absurd z (by decide), fun _ => c_isNumM (fun _ => ⟨fun _ => ⟨vt, ?_⟩, fun z => absurd z (by decide)⟩) (fun z => absurd h3 z)⟩) (fun z => absurd h2 z), fun z => absurd z (by decide)⟩)
        rw [e, nI_clamp (by omega), g2.1]
        exact ⟨fun z => absurd z (show ¬ (0 : Int32) ≤ -1 by decide), fun _ => ⟨rfl, h, TpFr.rf⟩⟩
      | true =>
        have hl := g2.2.1
        have h50 : M.1 50 t = nI xs.length := by rw [g2.1]; rfl
        refine ⟨fun _ => ?_, fun z => absurd z (b1 g1.1)⟩
        rw [g1.2.1]
        refine ⟨fun c => ?_, fun c => ?_⟩
        · have hl2 : xs.length < 12 := by
            rcases Nat.lt_or_ge xs.length 12 with q | q
            · exact q
            · exact absurd c (nI_nlt (b := 12) q (by omega))
          have hne : ¬ nI xs.length = 12 := fun z => by
            have := (nI_eq (b := 12) (by omega) (by decide)).mp z
            omega
          refine ⟨fun c2 => c_addBehind hp g1 hl2 (fun M1 hT hE => ?_), fun c2 => c_addInFront hp g1 hl2 (fun M1 hT hE => ?_)⟩
          · have e2 : v2 = 1 := h2.resolve_left c2
            have g2' := g2.C (by omega) hE
            refine w_X9_put (bad _ _ _ ⟨fun _ => c_in01 (fun _ => ⟨fun z => absurd z (by decide), fun _ => c_isNumM (fun _ => ⟨fun _ => ⟨vt, ?_⟩, fun z => absurd z (by decide)⟩) (fun z => absurd h3 z)⟩) (fun z => absurd h2 z), fun z => absurd z (by decide)⟩)
            rw [e, nI_clamp (by omega), g2'.1, e2]
            refine ⟨fun _ => ⟨vp_in_nI ht (by decide), fun _ => c_putB ht g2' hl2 (fun M2 hT2 hE2 => ⟨vp_in_nI ht (by decide), ?_⟩), fun z => absurd z hne⟩, fun z => absurd (pos_nI (by omega)) z⟩
            refine ⟨by rw [hT.2.1, hT2.1]; rfl, h.upd (xs := xs ++ [v3]) (hr := true) ht hE hE2 hT hT2 (fun z => by cases z) (fun x hx => ?_)⟩
            rcases List.mem_append.mp hx with q | q
            · exact g4 x q
            · simp at q; rw [q]; exact h3
          · have g2' := g2.C (by omega) hE
            refine w_X9_put (bad _ _ _ ⟨fun _ => c_in01 (fun _ => ⟨fun z => absurd z (by decide), fun _ => c_isNumM (fun _ => ⟨fun _ => ⟨vt, ?_⟩, fun z => absurd z (by decide)⟩) (fun z => absurd h3 z)⟩) (fun z => absurd h2 z), fun z => absurd z (by decide)⟩)
            rw [e, nI_clamp (by omega), g2'.1, c2]
            refine ⟨fun _ => ⟨vp_in_nI ht (by decide), fun _ => c_putF ht g2' hl2 (fun M2 hT2 hE2 => ⟨vp_in_nI ht (by decide), ?_⟩), fun z => absurd z hne⟩, fun z => absurd (pos_nI (by omega)) z⟩
            refine ⟨by rw [hT.2.1, hT2.1]; rfl, h.upd (xs := v3 :: xs) (hr := true) ht hE hE2 hT hT2 (fun z => by cases z) (fun x hx => ?_)⟩
            rcases List.mem_cons.mp hx with q | q
            · rw [q]; exact h3
            · exact g4 x q
        · have hl2 : xs.length = 12 := by
            rcases Nat.lt_or_ge xs.length 12 with q | q
            · exact absurd (nI_lt (b := 12) q (by decide)) c
            · omega
          refine w_X9_put (bad _ _ _ ⟨fun _ => c_in01 (fun _ => ⟨fun z => absurd z (by decide), fun _ => c_isNumM (fun _ => ⟨fun _ => ⟨vt, ?_⟩, fun z => absurd z (by decide)⟩) (fun z => absurd h3 z)⟩) (fun z => absurd h2 z), fun z => absurd z (by decide)⟩)
          rw [e, nI_clamp (by omega), g2.1, hl2]
          exact ⟨fun _ => ⟨vp_in_nI ht (by decide), fun z => absurd rfl z, fun _ => ⟨rfl, h, TpFr.rf⟩⟩, fun z => absurd (by decide) z⟩
    · exact w_X9_put (bad _ _ _ ⟨fun _ => c_in01 (fun _ => ⟨fun z => absurd z (by decide), fun _ => c_isNumM (fun z => absurd z h3) (fun _ => ⟨fun z => absurd rfl z, fun _ => ⟨rfl, h, TpFr.rf⟩⟩)⟩) (fun z => absurd h2 z), fun z => absurd z (by decide)⟩)
    · exact w_X9_put (bad _ _ _ ⟨fun _ => c_in01 (fun z => absurd z h2) (fun _ => ⟨fun _ => ⟨rfl, h, TpFr.rf⟩, fun z => absurd rfl z⟩), fun z => absurd z (by decide)⟩)
  · exact w_X9_put (c_isTape (fun u hu eu => absurd hb (fun z => nIlt hu eu z)) (fun _ => ⟨fun z => absurd rfl z, fun _ => ⟨rfl, h, TpFr.rf⟩⟩))
theorem tp_draw {M : Mm} {v1 v2 : Int32} (h : TapesI M) : PrT X8_draw X9_draw [.int v1, .int v2] M := by
  intro d
  refine w_X8_draw (c_tapeAt (fun t ht e => ⟨fun z => (by cases z), fun a ea => ?_⟩) (fun hb => ⟨fun _ => ?_, fun a z => (by cases z)⟩))
  · cases ea
    have hp : isTp (36 + 2 * t) := by unfold isTp; omega
    obtain ⟨hr, xs, g1, g2, g3, g4⟩ := h t ht
    have vt : vp_in v1 3 := by rw [e]; exact vp_in_nI ht (by decide)
    have vt2 : vp_in (nI t) 3 := vp_in_nI ht (by decide)
    have bad : ∀ (N : Mm) (K : Int32 → Mm → Prop) (d : Nat), K 1 N → ACi (d + 2) X9_isTape [.int v1] N K := fun N K d hk => c_isTape (fun _ _ _ => hk) (fun hb => absurd hb (fun z => nIlt ht e z))
    refine ⟨hp, c_isEnd (fun h2 => ⟨fun _ => ?_, fun z => absurd z (by decide)⟩) (fun h2 => ⟨fun z => absurd rfl z, fun _ => ?_⟩)⟩
    · have mod : ∀ (N : Mm) (K : Int32 → Mm → Prop) (d : Nat), ((0 ≤ N.1 50 t → vp_in v1 3 ∧ ((¬ N.1 50 t = 0 → ACi (d + 6) X9_drawAt [.ref 42, .int v1, .int v2] N (fun r3 M3 => K (r3 + 50000) M3)) ∧ (N.1 50 t = 0 → K (-12) N))) ∧ (¬ 0 ≤ N.1 50 t → K (-11) N)) → ACi (d + 7) X9_draw [.ref 42, .int v1, .int v2] N K := by
        intro N K d hk
        refine w_X9_draw (bad _ _ _ ⟨fun _ => c_in01 (fun _ => ⟨fun _ => ⟨vt, ?_⟩, fun z => absurd z (by decide)⟩) (fun z => absurd h2 z), fun z => absurd z (by decide)⟩)
        have et : v1.toNatClampNeg = t := by rw [e]; exact nI_clamp (by omega)
        rw [et]
        exact hk
      cases hr with
      | false =>
        refine ⟨fun c => absurd g1.1 c, fun _ => mod _ _ _ ?_⟩
        rw [g2.1]
        exact ⟨fun z => absurd z (show ¬ (0 : Int32) ≤ -1 by decide), fun _ => ⟨rfl, h, TpFr.rf⟩⟩
      | true =>
        have hl := g2.2.1
        refine ⟨fun _ => ?_, fun z => absurd z (b1 g1.1)⟩
        rw [g1.2.1]
        refine ⟨fun c => ?_, fun c => ?_⟩
        · have hne : xs ≠ [] := fun z => by rw [z] at c; exact c rfl
          refine ⟨fun c2 => ?_, fun c2 => ?_⟩
          · have e2 : v2 = 1 := h2.resolve_left c2
            obtain ⟨ys, y, rfl⟩ : ∃ ys y, xs = ys ++ [y] := ⟨xs.dropLast, xs.getLast hne, (List.dropLast_concat_getLast hne).symm⟩
            refine c_takeLast hp g1 (fun M1 hT hE => mod _ _ _ ?_)
            have g2' := g2.C (by omega) hE
            rw [g2'.1, e, e2]
            refine ⟨fun _ => ⟨vt2, fun _ => c_drawB ht g2' (fun M2 hT2 hE2 => ?_), fun z => absurd z c⟩, fun z => absurd (pos_nI (by omega)) z⟩
            exact ⟨rfl, h.upd (xs := ys) (hr := true) ht hE hE2 hT hT2 (fun z => by cases z) (fun x hx => g4 x (List.mem_append_left _ hx))⟩
          · obtain ⟨y, ys, rfl⟩ : ∃ y ys, xs = y :: ys := List.exists_cons_of_ne_nil hne
            refine c_takeFirst hp g1 (fun M1 hT hE => mod _ _ _ ?_)
            have g2' := g2.C (by omega) hE
            rw [g2'.1, e, c2]
            refine ⟨fun _ => ⟨vt2, fun _ => c_drawF ht g2' (fun M2 hT2 hE2 => ?_), fun z => absurd z c⟩, fun z => absurd (pos_nI (by omega)) z⟩
            exact ⟨rfl, h.upd (xs := ys) (hr := true) ht hE hE2 hT hT2 (fun z => by cases z) (fun x hx => g4 x (List.mem_cons_of_mem _ hx))⟩
        · refine mod _ _ _ ?_
          rw [g2.1]
          exact ⟨fun _ => ⟨vt, fun z => absurd c z, fun _ => ⟨rfl, h, TpFr.rf⟩⟩, fun z => absurd (pos_nI (by omega)) z⟩
    · exact w_X9_draw (bad _ _ _ ⟨fun _ => c_in01 (fun z => absurd z h2) (fun _ => ⟨fun z => absurd rfl z, fun _ => ⟨rfl, h, TpFr.rf⟩⟩), fun z => absurd z (by decide)⟩)
  · exact w_X9_draw (c_isTape (fun u hu eu => absurd hb (fun z => nIlt hu eu z)) (fun _ => ⟨fun z => absurd rfl z, fun _ => ⟨rfl, h, TpFr.rf⟩⟩))
/-- n numbers from the front go behind, one by one -/
def rotN : Nat → List Int32 → List Int32
  | 0, xs => xs
  | _ + 1, [] => []
  | n + 1, x :: xs => rotN n (xs ++ [x])
theorem rotN_len : ∀ (n : Nat) (xs : List Int32), (rotN n xs).length = xs.length
  | 0, _ => rfl
  | _ + 1, [] => rfl
  | n + 1, x :: xs => by rw [rotN, rotN_len n]; simp
theorem rotN_mem : ∀ (n : Nat) (xs : List Int32) (x : Int32), x ∈ rotN n xs → x ∈ xs
  | 0, _, _, h => h
  | _ + 1, [], _, h => h
  | n + 1, y :: xs, x, h => by
    have := rotN_mem n (xs ++ [y]) x h
    simp at this ⊢
    exact this.symm
theorem c_turnC {d : Nat} {a n : Nat} {K : Int32 → Mm → Prop} (ha : isTp a) (hn : n < 2147483648) : ∀ (j k : Nat) (M : Mm) (xs : List Int32), k + j = n → xs ≠ [] → TpC M a true xs → (∀ M', TpC M' a true (rotN j xs) → ExC a M M' → K (nI xs.length) M') → lp_X8_turn_49 (d + 1) M (nI n) a (nI k) K := by
  intro j
  induction j with
  | zero =>
    intro k M xs hk hx hT hK
    refine z_X8_turn_49 ha ⟨fun _ => ?_, fun c => absurd (nI_le (by omega) (by omega)) c⟩
    rw [hT.2.1]
    exact hK M hT ExC.rf
  | succ j ih =>
    intro k M xs hk hx hT hK
    obtain ⟨x, ys, rfl⟩ : ∃ y ys, xs = y :: ys := List.exists_cons_of_ne_nil hx
    have hl := hT.2.2.1
    simp only [List.length_cons] at hl
    refine z_X8_turn_49 ha ⟨fun c => absurd c (nI_ge (by omega) (by omega)), fun _ => c_takeFirst ha hT (fun M1 hT1 hE1 => c_addBehind ha hT1 (by omega) (fun M2 hT2 hE2 => ?_))⟩
    rw [nI_1]
    refine ih (k + 1) M2 (ys ++ [x]) (by omega) (by simp) hT2 (fun M3 hT3 hE3 => ?_)
    have := hK M3 hT3 ((hE1.tr hE2).tr hE3)
    simpa using this
theorem c_turnM {d : Nat} {t n : Nat} {K : Int32 → Mm → Prop} (ht : t < 3) (hn : n < 2147483648) : ∀ (j k : Nat) (M : Mm) (xs : List Int32), k + j = n → xs ≠ [] → TpM M t true xs → (∀ M', TpM M' t true (rotN j xs) → ExM t M M' → K (nI xs.length) M') → lp_X9_turn_54 (d + 1) M (nI t) (nI n) (nI k) K := by
  intro j
  induction j with
  | zero =>
    intro k M xs hk hx hT hK
    refine z_X9_turn_54 ⟨fun _ => ⟨vp_in_nI ht (by decide), ?_⟩, fun c => absurd (nI_le (by omega) (by omega)) c⟩
    rw [nI_clamp (by omega), hT.1]
    exact hK M hT ExM.rf
  | succ j ih =>
    intro k M xs hk hx hT hK
    obtain ⟨x, ys, rfl⟩ : ∃ y ys, xs = y :: ys := List.exists_cons_of_ne_nil hx
    have hl := hT.2.1
    simp only [List.length_cons] at hl
    refine z_X9_turn_54 ⟨fun c => absurd c (nI_ge (by omega) (by omega)), fun _ => c_drawF ht hT (fun M1 hT1 hE1 => c_putB ht hT1 (by omega) (fun M2 hT2 hE2 => ?_))⟩
    rw [nI_1]
    refine ih (k + 1) M2 (ys ++ [x]) (by omega) (by simp) hT2 (fun M3 hT3 hE3 => ?_)
    have := hK M3 hT3 ((hE1.tr hE2).tr hE3)
    simpa using this
theorem tp_turn {M : Mm} {v1 v2 : Int32} (h : TapesI M) : PrT X8_turn X9_turn [.int v1, .int v2] M := by
  intro d
  refine w_X8_turn (c_tapeAt (fun t ht e => ⟨fun z => (by cases z), fun a ea => ?_⟩) (fun hb => ⟨fun _ => ?_, fun a z => (by cases z)⟩))
  · cases ea
    have hp : isTp (36 + 2 * t) := by unfold isTp; omega
    obtain ⟨hr, xs, g1, g2, g3, g4⟩ := h t ht
    have vt : vp_in v1 3 := by rw [e]; exact vp_in_nI ht (by decide)
    have et : v1.toNatClampNeg = t := by rw [e]; exact nI_clamp (by omega)
    have bad : ∀ (N : Mm) (K : Int32 → Mm → Prop) (d : Nat), K 1 N → ACi (d + 2) X9_isTape [.int v1] N K := fun N K d hk => c_isTape (fun _ _ _ => hk) (fun hb => absurd hb (fun z => nIlt ht e z))
    have e99 : (99 : Int32).toInt = 99 := by decide
    have out : (v2.toInt < 0 ∨ 99 < v2.toInt) → ∀ (d : Nat), ACi (d + 7) X9_turn [.ref 42, .int v1, .int v2] M (fun r' M2 => -3 = r' ∧ TapesI M2 ∧ TpFr M M2) := fun hz d => w_X9_turn (bad _ _ _ ⟨fun _ => c_in (l := 0) (u := 99) (by decide) (by decide) (fun a b => by omega) (fun _ => ⟨fun z => absurd rfl z, fun _ => ⟨rfl, h, TpFr.rf⟩⟩), fun z => absurd z (by decide)⟩)
    refine ⟨hp, fun c => out (Or.inl (by rw [fa_lt, tI0] at c; exact c)) _, fun c => ⟨fun c2 => ?_, fun c2 => out (Or.inr (by rw [fa_le, e99] at c2; omega)) _⟩⟩
    rw [fa_lt, tI0] at c
    rw [fa_le, e99] at c2
    obtain ⟨n, hn, rfl⟩ := i_of (x := v2) (n := 100) (by omega) (by omega)
    have mod : ∀ (N : Mm) (K : Int32 → Mm → Prop) (d : Nat), ((1 ≤ N.1 50 t → lp_X9_turn_54 (d + 6) N v1 (nI n) 0 K) ∧ (¬ 1 ≤ N.1 50 t → ((0 ≤ N.1 50 t → K (-12) N) ∧ (¬ 0 ≤ N.1 50 t → K (-11) N)))) → ACi (d + 7) X9_turn [.ref 42, .int v1, .int (nI n)] N K := by
      intro N K d hk
      refine w_X9_turn (bad _ _ _ ⟨fun _ => c_in (l := 0) (u := 99) (by decide) (by decide) (fun _ _ => ⟨fun _ => ⟨vt, ?_⟩, fun z => absurd z (by decide)⟩) (fun z => absurd z (by omega)), fun z => absurd z (by decide)⟩)
      rw [et]
      exact ⟨hk.1, fun z => ⟨vt, hk.2 z⟩⟩
    cases hr with
    | false =>
      refine ⟨fun c => absurd g1.1 c, fun _ => mod _ _ _ ?_⟩
      rw [g2.1]
      exact ⟨fun z => absurd z (show ¬ (1 : Int32) ≤ -1 by decide), fun _ => ⟨fun z => absurd z (show ¬ (0 : Int32) ≤ -1 by decide), fun _ => ⟨rfl, h, TpFr.rf⟩⟩⟩
    | true =>
      have hl := g2.2.1
      refine ⟨fun _ => ?_, fun z => absurd z (b1 g1.1)⟩
      rw [g1.2.1]
      refine ⟨fun c => ?_, fun c => ?_⟩
      · have hne : xs ≠ [] := fun z => by rw [z] at c; exact c rfl
        have hpos : 0 < xs.length := List.length_pos_iff.mpr hne
        refine c_turnC hp (n := n) (by omega) n 0 M xs (by omega) hne g1 (fun M1 hT hE => mod _ _ _ ?_)
        have g2' := g2.C (by omega) hE
        rw [g2'.1]
        refine ⟨fun _ => ?_, fun z => absurd (nI_le (a := 1) hpos (by omega)) z⟩
        rw [e]
        refine c_turnM ht (n := n) (by omega) n 0 M1 xs (by omega) hne g2' (fun M2 hT2 hE2 => ⟨rfl, h.upd (xs := rotN n xs) (hr := true) ht hE hE2 hT hT2 (fun z => by cases z) (fun x hx => g4 x (rotN_mem n xs x hx))⟩)
      · have hx : xs = [] := by
          cases xs with
          | nil => rfl
          | cons y ys => exact absurd c (nI_ne0 (by simp) (by simp at hl ⊢; omega))
        subst hx
        refine mod _ _ _ ?_
        rw [g2.1]
        exact ⟨fun z => absurd z (show ¬ (1 : Int32) ≤ nI 0 by decide), fun _ => ⟨fun _ => ⟨rfl, h, TpFr.rf⟩, fun z => absurd (show (0 : Int32) ≤ nI 0 by decide) z⟩⟩
  · exact w_X9_turn (c_isTape (fun u hu eu => absurd hb (fun z => nIlt hu eu z)) (fun _ => ⟨fun z => absurd rfl z, fun _ => ⟨rfl, h, TpFr.rf⟩⟩))
