/-! WATCH, SEE, LEFT: the public calls -/
theorem watch_end {M M1 : Mm} {b w sg nr nl : Nat} {num : Nat → Nat} {u : Nat} {ps : Nat → Nat → Nat} {bs : Nat → Nat → Option Nat} {tp : Nat → Nat} {tb : Nat → Option Nat} (hc : CoI M b w sg nr nl num u ps bs tp tb) (e1 : ∀ q, q ≠ 34 → q ≠ 42 → q ≠ 47 → q ≠ 48 → q ≠ 49 → M1.1 q = M.1 q) (e3 : ∀ j, j ≠ 11 → j ≠ 12 → M1.1 42 j = M.1 42 j) (hw : WatchI M1 b nl (bs u)) : Inv M1 := by
  obtain ⟨⟨a1, a2, a3⟩, ⟨l1, l2⟩, ⟨u1, u2, u3⟩, t, kk, wa, tt, tx, ww⟩ := hc
  have hn := (u3.2 u (Nat.le_refl _)).1
  have f : ∀ q, q < 34 ∨ (34 < q ∧ q < 42) ∨ (42 < q ∧ q < 47) ∨ 49 < q → M1.1 q = M.1 q := fun q c => e1 q (by omega) (by omega) (by omega) (by omega) (by omega)
  refine ⟨b, w, sg, nr, nl, num, u, ps, bs, tp, tb, ⟨a1.of (f 3 (by decide)) (f 4 (by decide)), a2.of (fun j _ _ => e3 j (by omega) (by omega)) (f 44 (by decide)), a3⟩, ⟨l1.of (by rw [f 13 (by decide)]) (f 14 (by decide)) (f 15 (by decide)), l2.of (e3 5 (by decide) (by decide)) (f 43 (by decide))⟩, ⟨u1.of (by rw [f 22 (by decide)]) (f 23 (by decide)) (f 24 (by decide)) (f 25 (by decide)), u2.of (e3 7 (by decide) (by decide)) (f 43 (by decide)), u3⟩, t.of (by rw [f 5 (by decide)]) (f 6 (by decide)) (f 7 (by decide)) hn (fun j _ _ => by rw [f 43 (by decide)]), kk.of (fun q c1 c2 => f q (by omega)) (f 45 (by decide)) hn (fun j _ _ => by rw [f 43 (by decide)]), hw, tt.of (fun q c1 c2 => f q (by omega)) (f 50 (by decide)) (f 51 (by decide)), tx.of (by rw [f 1 (by decide)]) (f 2 (by decide)) (e3 10 (by decide) (by decide)) (f 46 (by decide)), ww.of (fun q c1 c2 => f q (by omega))⟩
theorem b01 {x : Int32} (h : x = 0 ∨ x = 1) : ∃ be : Bool, x = if be then 1 else 0 := by
  rcases h with h | h
  · exact ⟨false, h⟩
  · exact ⟨true, h⟩
theorem q_see {M : Mm} {v1 : Int32} (h : Inv M) : Pr X8_see X9_see [.int v1] M := by
  have h0 := h
  obtain ⟨b, w, sg, nr, nl, num, u, ps, bs, tp, tb, hc⟩ := h
  have hc0 := hc
  obtain ⟨⟨a1, a2, a3⟩, ⟨l1, l2⟩, ⟨u1, u2, u3⟩, -, -, wa, -⟩ := hc
  have hW := u3.2 u (Nat.le_refl _)
  have w2 := a3.2.1
  have e1 : (1 : Int32).toInt = 1 := by decide
  intro d
  have out : (v1.toInt < 0 ∨ 1 < v1.toInt) → ∀ d, ACi (d + 9) X9_see [.ref 42, .int v1] M (fun r' M2 => -3 = r' ∧ Inv M2) := fun hz d => w_X9_see (c_in01 (fun z => absurd z (n01 hz)) (fun _ => ⟨fun z => absurd rfl z, fun _ => ⟨rfl, h0⟩⟩))
  refine w_X8_see ⟨fun c => out (Or.inl (by rw [fa_lt, tI0] at c; exact c)) _, fun c => ⟨fun c2 => ?_, fun c2 => out (Or.inr (by rw [fa_le, e1] at c2; omega)) _⟩⟩
  rw [fa_lt, tI0] at c
  rw [fa_le, e1] at c2
  have h01 := i01 (x := v1) (by omega) (by omega)
  rcases wa with ⟨f1, f2, f3⟩ | ⟨T, lf, ms, f⟩
  · exact ⟨fun z => absurd f1 z, fun _ => w_X9_see (c_in01 (fun _ => ⟨fun _ => ⟨fun z => absurd f3 z, fun _ => ⟨rfl, h0⟩⟩, fun z => absurd z (by decide)⟩) (fun z => absurd h01 z))⟩
  · obtain ⟨g0, g1, g2, g3, g4, g5, g6, g7, g8, g9⟩ := f
    obtain ⟨mi, hmi⟩ := b01 g4
    obtain ⟨be, rfl⟩ := b01 h01
    refine ⟨fun _ => c_flashC a1 a3 l1 hW ?_, fun z => absurd (g1.symm.trans z) (by decide)⟩
    rw [a1.1]
    refine c_takeBeat w2 g0 hmi g5 g6 g7 (fun p hp hl => (g9 p hp hl).2.1) (fun M1 y1 y2 y3 y4 y5 y6 => w_size y5 ?_)
    have hM1 : BkM M1 b w sg nr num := a2.of (fun j _ _ => by rw [y1 42 (by decide)]) (y1 44 (by decide))
    have hL1 : LtM M1 nl (ps u) (bs u) := l2.of (by rw [y1 42 (by decide)]) (y1 43 (by decide))
    have h11 : M1.1 42 11 = 1 := by rw [y1 42 (by decide)]; exact g2
    have h12 : M1.1 42 12 = if mi then 1 else 0 := by rw [y1 42 (by decide), ← g3]; exact hmi
    refine w_X9_see (c_in01 (fun _ => ⟨fun _ => ⟨fun _ => ?_, fun z => absurd (h11.symm.trans z) (by decide)⟩, fun z => absurd z (by decide)⟩) (fun z => absurd h01 z))
    refine c_seeM hM1 a3 hL1 hW g0 h12 h11 (lf := lf) (ms := ms) (fun p hp => by rw [y1 47 (by decide)]; exact g8 p hp) (fun p hp hl => ?_) (fun M2 x1 x2 x3 x4 => ⟨rfl, ?_⟩)
    · obtain ⟨k1, k2, k3, k4, k5⟩ := g9 p hp hl
      exact ⟨k1, k2, k3, by rw [y1 48 (by decide)]; exact k4, by rw [y1 49 (by decide)]; exact k5⟩
    · have hb0 := a3.1
      refine watch_end hc0 (fun q c1 c2 c3 c4 c5 => (x2 q c3 c4 c5).trans (y1 q c1)) (fun j _ _ => by rw [x2 42 (by decide) (by decide) (by decide), y1 42 (by decide)]) (Or.inr ⟨(T + 1) % b, lfN b T (flB b nl num (bs u)) be mi lf ms, msN b T (flB b nl num (bs u)) be mi lf ms, Nat.mod_lt _ (by omega), ?_, ?_, ?_, ?_, ?_, ?_, ?_, x3, fun p hp hl => ?_⟩)
      · rw [x2 34 (by decide) (by decide) (by decide), y2 0 (by decide)]; exact g1
      · rw [x2 42 (by decide) (by decide) (by decide)]; exact h11
      · rw [x2 34 (by decide) (by decide) (by decide), y2 1 (by decide), x2 42 (by decide) (by decide) (by decide), y1 42 (by decide)]; exact g3
      · rw [x2 34 (by decide) (by decide) (by decide), y2 1 (by decide)]; exact g4
      · rw [x2 34 (by decide) (by decide) (by decide)]; exact y3
      · rw [x1]; exact y5
      · rw [x1]; exact y6
      · have hlf : lf p = true := by
          unfold lfN at hl
          rw [Bool.and_eq_true] at hl
          exact hl.1
        obtain ⟨k1, k2, k3, k4, k5⟩ := g9 p hp hlf
        exact ⟨k1, k2, k3, (x4 p hp hl).1, (x4 p hp hl).2⟩
theorem q_watch {M : Mm} {v1 v2 : Int32} (h : Inv M) : Pr X8_watch X9_watch [.int v1, .int v2] M := by
  have h0 := h
  obtain ⟨b, w, sg, nr, nl, num, u, ps, bs, tp, tb, hc⟩ := h
  have hc0 := hc
  obtain ⟨⟨a1, a2, a3⟩, ⟨l1, l2⟩, ⟨u1, u2, u3⟩, -, -, wa, -⟩ := hc
  have hW := u3.2 u (Nat.le_refl _)
  have hb0 := a3.1
  have e1 : (1 : Int32).toInt = 1 := by decide
  intro d
  have out1 : (v1.toInt < 0 ∨ 99 < v1.toInt) → ∀ d, ACi (d + 9) X9_watch [.ref 42, .int v1, .int v2] M (fun r' M2 => -3 = r' ∧ Inv M2) := fun hz d => w_X9_watch (c_in99 (fun v hv e => absurd hz (fun z => out99 hv e z)) (fun _ => ⟨fun _ => ⟨rfl, h0⟩, fun z => absurd rfl z⟩))
  refine w_X8_watch (c_isPlace (fun q hq e => ⟨fun z => absurd z (by decide), fun _ => ?_⟩) (fun z => ⟨fun _ => out1 z _, fun z => absurd rfl z⟩))
  subst e
  have out2 : (v2.toInt < 0 ∨ 1 < v2.toInt) → ∀ d, ACi (d + 9) X9_watch [.ref 42, .int (nI q), .int v2] M (fun r' M2 => -3 = r' ∧ Inv M2) := fun hz d => w_X9_watch (c_in99 (fun v hv e => ⟨fun z => absurd z (by decide), fun _ => c_in01 (fun z => absurd z (n01 hz)) (fun _ => ⟨fun z => absurd rfl z, fun _ => ⟨rfl, h0⟩⟩)⟩) (fun z => absurd z (fun z => out99 hq rfl z)))
  refine ⟨fun c => out2 (Or.inl (by rw [fa_lt, tI0] at c; exact c)) _, fun c => ⟨fun c2 => ?_, fun c2 => out2 (Or.inr (by rw [fa_le, e1] at c2; omega)) _⟩⟩
  rw [fa_lt, tI0] at c
  rw [fa_le, e1] at c2
  have h01 := i01 (x := v2) (by omega) (by omega)
  refine c_seenC a1 a3 l1 hW hq ?_
  have go : v2 = 0 ∨ v2 = 1 → ACv (d + 19) X7_begin [.ref 34, .long (lN (bsN (fsB b sg nl (ps u) (bs u) q) 48)), .int v2] M (fun M3 => ACi (d + 19) X7_size [.ref 34] M3 (fun r4 M4 => ACi (d + 20) X9_watch [.ref 42, .int (nI q), .int v2] M4 (fun r' M2 => r4 = r' ∧ Inv M2))) := by
    intro hv
    refine w_X7_begin ⟨hv, w_size (f := fsB b sg nl (ps u) (bs u) q) (by simp [rI, rL, rI2]) ?_⟩
    generalize hN : wI (wL (wL (wI (wI M 34 0 1) 34 1 v2) 34 2 (lN (bsN (fsB b sg nl (ps u) (bs u) q) 48))) 34 3 0) 34 4 0 = N
    have n1 : ∀ q, q ≠ 34 → N.1 q = M.1 q := fun q' hq' => by
      rw [← hN, wI_ne hq', rL1, rL1, wI_ne hq', wI_ne hq']
    have n0 : N.1 34 0 = 1 := by rw [← hN]; simp [rI, rL1]
    have n2 : N.1 34 1 = v2 := by rw [← hN]; simp [rI, rL1]
    have n3 : N.2 34 2 = lN (bsN (fsB b sg nl (ps u) (bs u) q) 48) := by rw [← hN]; simp [rL, rI2]
    have n4 : N.2 34 3 = 0 := by rw [← hN]; simp [rL, rI2]
    have n5 : N.1 34 4 = 0 := by rw [← hN]; simp [rI]
    have hMN : BkM N b w sg nr num := a2.of (fun j _ _ => by rw [n1 42 (by decide)]) (n1 44 (by decide))
    have hLN : LtM N nl (ps u) (bs u) := l2.of (by rw [n1 42 (by decide)]) (n1 43 (by decide))
    refine w_X9_watch (c_in99 (fun v _ _ => ⟨fun z => absurd z (by decide), fun _ => c_in01 (fun _ => ⟨fun _ => c_firstM hMN a3 hLN hW hq ?_, fun z => absurd z (by decide)⟩) (fun z => absurd h01 z)⟩) (fun z => absurd z (fun z => out99 hq rfl z)))
    have key : ∀ (j k : Nat) (P : Mm), k + j = 48 → P.2 = N.2 → (∀ q, q ≠ 47 → q ≠ 48 → q ≠ 49 → P.1 q = N.1 q) → (∀ p, p < k → P.1 47 p = (if fsB b sg nl (ps u) (bs u) q p then 1 else 0) ∧ P.1 48 p = nI (p % 8) ∧ P.1 49 p = 0) → lp_X9_watch_34 (d + 19) P v2 (lN (bsN (fsB b sg nl (ps u) (bs u) q) 48)) (nI k) (fun r' M2 => nI (fb_ct (fsB b sg nl (ps u) (bs u) q) 48) = r' ∧ Inv M2) := by
      intro j
      induction j with
      | zero =>
        intro k P hk g1 g2 g3
        have : k = 48 := by omega
        subst this
        have fin : ∀ x : Int32, x = v2 → ACi (d + 19) X9_pairsLeft [.ref 42] (wI (wI P 42 11 1) 42 12 x) (fun r1 M1 => nI (fb_ct (fsB b sg nl (ps u) (bs u) q) 48) = r1 ∧ Inv M1) := by
          intro x hx
          have r47 : ∀ a, a ≠ 42 → (wI (wI P 42 11 1) 42 12 x).1 a = P.1 a := fun a ha => by rw [wI_ne ha, wI_ne ha]
          refine c_pairsLeft (f := fsB b sg nl (ps u) (bs u) q) (by simp [rI]) (fun p hp => by rw [r47 47 (by decide)]; exact (g3 p hp).1) ⟨rfl, ?_⟩
          refine watch_end hc0 (fun a c1 c2 c3 c4 c5 => by rw [r47 a c2, g2 a c3 c4 c5, n1 a c1]) (fun j j1 j2 => by simp only [rI, j1, j2]; simp [g2, n1]) (Or.inr ⟨0, fsB b sg nl (ps u) (bs u) q, fun _ => false, by omega, ?_, ?_, ?_, ?_, ?_, ?_, ?_, fun p hp => ?_, fun p hp hl => ?_⟩)
          · rw [r47 34 (by decide), g2 34 (by decide) (by decide) (by decide)]; exact n0
          · simp [rI]
          · rw [r47 34 (by decide), g2 34 (by decide) (by decide) (by decide), n2, ← hx]; simp [rI]
          · rw [r47 34 (by decide), g2 34 (by decide) (by decide) (by decide), n2]; exact hv
          · rw [r47 34 (by decide), g2 34 (by decide) (by decide) (by decide), n5]; rfl
          · rw [rI2, rI2, g1]; exact n3
          · rw [rI2, rI2, g1, n4]; exact (bs_z.mpr (fun _ _ => rfl)).symm
          · rw [r47 47 (by decide)]; exact (g3 p hp).1
          · have hl2 := hl
            unfold fsB at hl2
            have hl3 := of_decide_eq_true hl2
            refine ⟨hl3.1, hl3.2.1, hl3.2.2.1, ?_, ?_⟩
            · rw [r47 48 (by decide), (g3 p hp).2.1, Nat.add_zero, Nat.mod_eq_of_lt hl3.2.1]
            · rw [r47 49 (by decide), (g3 p hp).2.2]; rfl
        refine z_X9_watch_34 ⟨fun _ => ⟨fun c => fin 0 ?_, fun c => fin 1 c.symm⟩, fun c => absurd (by decide) c⟩
        rcases hv with e | e
        · exact e.symm
        · exact absurd e c
      | succ j ih =>
        intro k P hk g1 g2 g3
        have hk48 : k < 48 := by omega
        have vk : vp_in (nI k) 48 := vp_in_nI hk48 (by decide)
        have stp : ∀ x : Int32, (x = if fsB b sg nl (ps u) (bs u) q k then 1 else 0) → lp_X9_watch_34 (d + 19) (wI (wI (wI P 47 k x) 48 k (nI (k % 8))) 49 k 0) v2 (lN (bsN (fsB b sg nl (ps u) (bs u) q) 48)) (nI (k + 1)) (fun r' M2 => nI (fb_ct (fsB b sg nl (ps u) (bs u) q) 48) = r' ∧ Inv M2) := by
          intro x hx
          refine ih (k + 1) _ (by omega) g1 (fun a c1 c2 c3 => by rw [wI_ne c3, wI_ne c2, wI_ne c1, g2 a c1 c2 c3]) (fun p hp => ?_)
          by_cases e : p = k
          · subst e
            simp [rI, hx]
          · simp [rI, e]
            exact g3 p (by omega)
        refine z_X9_watch_34 ⟨fun c => absurd c (nI_ge (b := 48) (by omega) (by omega)), fun _ => ?_⟩
        rw [bs_shr hk48, nI_clamp (by omega), rem8 (by omega), nI_1]
        refine ⟨fun c => ⟨vk, vk, vk, stp 0 ?_⟩, fun c => ⟨vk, vk, vk, stp 1 ?_⟩⟩
        · cases q2 : fsB b sg nl (ps u) (bs u) q k with
          | false => rfl
          | true => exact absurd q2 c
        · rw [c]; rfl
    exact key 48 0 N (by omega) rfl (fun _ _ _ _ => rfl) (fun p hp => absurd hp (by omega))
  rcases h01 with e | e
  · rw [e] at go ⊢
    exact ⟨fun _ => go (Or.inl rfl), fun z => absurd z (by decide)⟩
  · rw [e] at go ⊢
    exact ⟨fun z => absurd rfl z, fun _ => go (Or.inr rfl)⟩

/-! LEFT -/
noncomputable def anK (f : Nat → Bool) (k l : Nat) : Bool := @decide (∃ i, i < k ∧ i / 8 = l ∧ f i = true) (Classical.propDecidable _)
theorem anK_t {f : Nat → Bool} {k l : Nat} : anK f k l = true ↔ ∃ i, i < k ∧ i / 8 = l ∧ f i = true := by unfold anK; exact @decide_eq_true_iff _ (Classical.propDecidable _)
theorem anK_f {f : Nat → Bool} {k l : Nat} : anK f k l = false ↔ ∀ i, i < k → i / 8 = l → f i = false := by
  have h : anK f k l = false ↔ ¬ anK f k l = true := by simp
  rw [h, anK_t]
  constructor
  · intro z i h1 h2
    cases q : f i with
    | false => rfl
    | true => exact absurd ⟨i, h1, h2, q⟩ z
  · rintro z ⟨i, h1, h2, h3⟩
    rw [z i h1 h2] at h3
    exact absurd h3 (by decide)
theorem anK_s {f : Nat → Bool} {k l : Nat} : anK f (k + 1) l = (anK f k l || (decide (l = k / 8) && f k)) := by
  rw [Bool.eq_iff_iff, Bool.or_eq_true, Bool.and_eq_true, anK_t, anK_t, decide_eq_true_iff]
  constructor
  · rintro ⟨i, h1, h2, h3⟩
    by_cases e : i = k
    · subst e; exact Or.inr ⟨h2.symm, h3⟩
    · exact Or.inl ⟨i, by omega, h2, h3⟩
  · rintro (⟨i, h1, h2, h3⟩ | ⟨h1, h2⟩)
    · exact ⟨i, by omega, h2, h3⟩
    · exact ⟨k, by omega, h1.symm, h2⟩
theorem an_or {f : Nat → Bool} {k : Nat} (hk : k < 48) (h : f k = true) : nI (bsN (anK f k) 6) ||| nI (2 ^ (k / 8)) = nI (bsN (anK f (k + 1)) 6) := by
  rw [fa_or]
  congr 1
  refine bs_ext (Nat.or_lt_two_pow (n := 6) (bsN_lt _ _) (Nat.pow_lt_pow_right (by decide) (by omega))) (fun i hi => ?_)
  rw [Nat.testBit_or, bs_tb, tb2, anK_s, h, decide_eq_true hi, Bool.true_and, Bool.and_true]
theorem an_no {f : Nat → Bool} {k : Nat} (h : f k = false) : bsN (anK f (k + 1)) 6 = bsN (anK f k) 6 := bsN_cong (fun i _ => by rw [anK_s, h]; simp)
theorem an_0 {f : Nat → Bool} : bsN (anK f 0) 6 = 0 := (bs_ext (f := anK f 0) (n := 6) (m := 0) (by decide) (fun i _ => by rw [Nat.zero_testBit]; exact (anK_f.mpr (fun i hi => absurd hi (by omega))).symm)).symm
def kth (f : Nat → Bool) (val : Nat → Int32) (n k : Nat) (x : Int32) : Prop := (∃ p, p < n ∧ f p = true ∧ fb_ct f p = k ∧ x = val p) ∨ (x = -1 ∧ ∀ p, p < n → f p = true → fb_ct f p ≠ k)
theorem kth_one {f : Nat → Bool} {val : Nat → Int32} {n k : Nat} {x y : Int32} (hx : kth f val n k x) (hy : kth f val n k y) : x = y := by
  rcases hx with ⟨p, h1, h2, h3, h4⟩ | ⟨h1, h2⟩
  · rcases hy with ⟨p', g1, g2, g3, g4⟩ | ⟨g1, g2⟩
    · rw [h4, g4, fb_ct_kth_one h2 g2 (h3.trans g3.symm)]
    · exact absurd h3 (g2 p h1 h2)
  · rcases hy with ⟨p', g1, g2, g3, g4⟩ | ⟨g1, g2⟩
    · exact absurd g3 (h2 p' g1 g2)
    · rw [h1, g1]
section LF
variable {d : Nat} {M : Mm} {b T : Nat} {lf : Nat → Bool}
theorem c_lightsIn {K : Int32 → Mm → Prop} {f : Nat → Bool} (h : K (nI (bsN (anK f 48) 6)) M) : ACi (d + 1) X8_lightsIn [.long (lN (bsN f 48))] M K := by
  refine w_X8_lightsIn ?_
  have key : ∀ (j k : Nat), k + j = 6 → lp_X8_lightsIn_10 d M (lN (bsN f 48)) 255 (nI (bsN (anK f 48) k)) (nI k) K := by
    intro j
    induction j with
    | zero =>
      intro k hk
      have : k = 6 := by omega
      subst this
      exact z_X8_lightsIn_10 ⟨fun _ => h, fun c => absurd (by decide) c⟩
    | succ j ih =>
      intro k hk
      have st := ih (k + 1) (by omega)
      rw [show bsN (anK f 48) (k + 1) = bsN (anK f 48) k + if anK f 48 k then 2 ^ k else 0 from rfl] at st
      refine z_X8_lightsIn_10 ⟨fun c => absurd c (nI_ge (b := 6) (by omega) (by omega)), fun _ => ?_⟩
      have e : lg_cmp (lN (bsN f 48) &&& ((255 : Int64) <<< ((nI k * 8).toInt64 &&& 63))) 0 = 0 ↔ anK f 48 k = false := by
        rw [show nI k * 8 = nI (k * 8) from pk_mul k 8, show (255 : Int64) = lN 255 from rfl, wb_shl _ (by omega), lgc_eq, bs_andL (g := fun i => f i && decide (i / 8 = k)) (fun i hi => ?_), bs_z, anK_f]
        · constructor
          · intro z i hi e
            have := z i hi
            rw [decide_eq_true e, Bool.and_true] at this
            exact this
          · intro z i hi
            by_cases e : i / 8 = k
            · rw [z i hi e]; rfl
            · rw [decide_eq_false e, Bool.and_false]
        · rw [Nat.mul_comm, Nat.testBit_two_pow_mul, show (255 : Nat) = 2 ^ 8 - 1 from rfl, Nat.testBit_two_pow_sub_one]
          congr 1
          rw [Bool.eq_iff_iff, Bool.and_eq_true, decide_eq_true_iff, decide_eq_true_iff, decide_eq_true_iff]
          omega
      rw [e, nI_1, bit1 k (by omega), bsN_or]
      refine ⟨fun c => ?_, fun c => ?_⟩
      · rw [c, if_neg (by decide), Nat.add_zero] at st; exact st
      · have c2 : anK f 48 k = true := by cases q : anK f 48 k with
          | true => rfl
          | false => exact absurd q c
        rw [c2, if_pos rfl] at st; exact st
  exact key 6 0 (by omega)
theorem c_pairAt {K : Int32 → Mm → Prop} {kk : Nat} (hb : b ≤ 8) (hT : T < b) (h4 : M.1 34 4 = nI T) (h2 : M.2 34 2 = lN (bsN lf 48)) (hkk : kk < 2147483648) (hlf : ∀ p, p < 48 → lf p = true → p % 8 < b) (h : ∀ x, kth lf (fun p => nI (10 * (p / 8) + (p % 8 + T) % b)) 48 kk x → K x M) : ACi (d + 2) X7_pairAt [.ref 34, .int (nI kk), .int (nI b)] M K := by
  refine w_X7_pairAt ?_
  have key : ∀ (j k : Nat), k + j = 48 → fb_ct lf k ≤ kk → (∀ p, p < k → lf p = true → fb_ct lf p ≠ kk) → lp_X7_pairAt_5 (d + 1) M (nI b) (nI (kk - fb_ct lf k)) (nI k) K := by
    intro j
    induction j with
    | zero =>
      intro k hk hl hn
      have : k = 48 := by omega
      subst this
      exact z_X7_pairAt_5 ⟨fun _ => h (-1) (Or.inr ⟨rfl, hn⟩), fun c => absurd (by decide) c⟩
    | succ j ih =>
      intro k hk hl hn
      have hk48 : k < 48 := by omega
      refine z_X7_pairAt_5 ⟨fun c => absurd c (nI_ge (b := 48) (by omega) (by omega)), fun _ => ?_⟩
      rw [h2, bs_shr hk48, nz (by omega), nI_1]
      refine ⟨fun c => ?_, fun c => ⟨fun c2 => ?_, fun c2 => c_shift hT hb h4 hk48 ?_⟩⟩
      · have e : fb_ct lf (k + 1) = fb_ct lf k := by
          rw [fb_ct_succ]
          cases q : lf k with
          | true => exact absurd q c
          | false => rfl
        have st := ih (k + 1) (by omega) (by omega) (fun p hp hp2 => by
          by_cases y : p = k
          · subst y; exact absurd hp2 c
          · exact hn p (by omega) hp2)
        rw [e] at st
        exact st
      · have e : fb_ct lf (k + 1) = fb_ct lf k + 1 := by rw [fb_ct_succ, c]; rfl
        have st := ih (k + 1) (by omega) (by omega) (fun p hp hp2 => by
          by_cases y : p = k
          · subst y; omega
          · exact hn p (by omega) hp2)
        rw [show nI (kk - fb_ct lf k) + (-1) = nI (kk - fb_ct lf (k + 1)) by
          rw [e, show kk - fb_ct lf k = (kk - (fb_ct lf k + 1)) + 1 by omega]
          exact (Int32.sub_eq_add_neg _ 1).symm.trans (nI_pred _)]
        exact st
      · rw [div8 (by omega), show nI (k / 8) * 10 = nI (k / 8 * 10) from pk_mul _ 10, nI_add, shN_m hT (hlf k hk48 c), Nat.mul_comm]
        exact h _ (Or.inl ⟨k, hk48, c, by omega, rfl⟩)
  exact key 48 0 (by omega) (Nat.zero_le _) (fun p hp => absurd hp (by omega))
theorem c_leftM {K : Int32 → Mm → Prop} {v1 : Int32} {kk : Nat} (hkk : kk < 2147483648) (h47 : ∀ p, p < 48 → M.1 47 p = if lf p then 1 else 0) (h48 : ∀ p, p < 48 → lf p = true → M.1 48 p = nI ((p % 8 + T) % b)) (h1 : ∀ x, ¬ v1 = 0 → kth lf (fun p => nI (10 * (p / 8) + (p % 8 + T) % b)) 48 kk x → K x M) (h0 : v1 = 0 → K (nI (bsN (anK lf 48) 6)) M) : lp_X9_left_38 d M v1 (nI kk) 0 0 (-1) 0 K := by
  have key : ∀ (j k : Nat) (x : Int32), k + j = 48 → kth lf (fun p => nI (10 * (p / 8) + (p % 8 + T) % b)) k kk x → lp_X9_left_38 d M v1 (nI kk) (nI (bsN (anK lf k) 6)) (nI (fb_ct lf k)) x (nI k) K := by
    intro j
    induction j with
    | zero =>
      intro k x hk hx
      have : k = 48 := by omega
      subst this
      exact z_X9_left_38 ⟨fun _ => ⟨fun c => h1 x c hx, fun c => h0 c⟩, fun c => absurd (by decide) c⟩
    | succ j ih =>
      intro k x hk hx
      have hk48 : k < 48 := by omega
      have hct := fb_ct_le lf k
      refine z_X9_left_38 ⟨fun c => absurd c (nI_ge (b := 48) (by omega) (by omega)), fun _ => ⟨vp_in_nI hk48 (by decide), ?_⟩⟩
      rw [nI_clamp (by omega), h47 k hk48, nI_1 k, nI_1 (fb_ct lf k), nI_eq (by omega) (by omega), div8 (by omega), bit1 _ (by omega)]
      cases q : lf k with
      | false =>
        refine ⟨fun _ => ?_, fun z => absurd rfl z⟩
        have e : fb_ct lf (k + 1) = fb_ct lf k := by rw [fb_ct_succ, q]; rfl
        have st := ih (k + 1) x (by omega) (by
          rcases hx with ⟨p, y1, y2, y3, y4⟩ | ⟨y1, y2⟩
          · exact Or.inl ⟨p, by omega, y2, y3, y4⟩
          · refine Or.inr ⟨y1, fun p hp hp2 => ?_⟩
            by_cases e : p = k
            · subst e; rw [q] at hp2; exact absurd hp2 (by decide)
            · exact y2 p (by omega) hp2)
        rw [e, an_no q] at st
        exact st
      | true =>
        refine ⟨fun z => absurd z (by decide), fun _ => ?_⟩
        have e : fb_ct lf (k + 1) = fb_ct lf k + 1 := by rw [fb_ct_succ, q]; rfl
        rw [an_or hk48 q]
        refine ⟨fun c => ?_, fun c => ⟨vp_in_nI hk48 (by decide), ?_⟩⟩
        · have st := ih (k + 1) x (by omega) (by
            rcases hx with ⟨p, y1, y2, y3, y4⟩ | ⟨y1, y2⟩
            · exact Or.inl ⟨p, by omega, y2, y3, y4⟩
            · refine Or.inr ⟨y1, fun p hp hp2 => ?_⟩
              by_cases e : p = k
              · subst e; exact c
              · exact y2 p (by omega) hp2)
          rw [e] at st
          exact st
        · have st := ih (k + 1) (nI (10 * (k / 8) + (k % 8 + T) % b)) (by omega) (Or.inl ⟨k, by omega, q, c, rfl⟩)
          rw [e] at st
          rw [h48 k hk48 q, show (10 : Int32) * nI (k / 8) = nI (10 * (k / 8)) from pk_mul 10 _, nI_add]
          exact st
  have := key 48 0 (-1) (by omega) (Or.inr ⟨rfl, fun p hp => absurd hp (by omega)⟩)
  rw [an_0] at this
  exact this
end LF
theorem q_left {M : Mm} {v1 v2 : Int32} (h : Inv M) : Pr X8_left X9_left [.int v1, .int v2] M := by
  have h0 := h
  obtain ⟨b, w, sg, nr, nl, num, u, ps, bs, tp, tb, hc⟩ := h
  obtain ⟨⟨a1, a2, a3⟩, -, -, -, -, wa, -⟩ := hc
  have w2 := a3.2.1
  have e1 : (1 : Int32).toInt = 1 := by decide
  intro d
  have out : (v1.toInt < 0 ∨ 1 < v1.toInt) → ∀ d, ACi (d + 9) X9_left [.ref 42, .int v1, .int v2] M (fun r' M2 => -3 = r' ∧ Inv M2) := fun hz d => w_X9_left (c_in01 (fun z => absurd z (n01 hz)) (fun _ => ⟨fun _ => ⟨rfl, h0⟩, fun z => absurd rfl z⟩))
  refine w_X8_left ⟨fun c => out (Or.inl (by rw [fa_lt, tI0] at c; exact c)) _, fun c => ⟨fun c2 => out (Or.inr (by rw [fa_lt, e1] at c2; exact c2)) _, fun c2 => ?_⟩⟩
  rw [fa_lt, tI0] at c
  rw [fa_lt, e1] at c2
  have h01 := i01 (x := v1) (by omega) (by omega)
  have go : ∀ (N : Mm) (K : Int32 → Mm → Prop) (d : Nat), ((0 ≤ v2 → ((¬ (N.1 42 11) = 0 → (lp_X9_left_38 (d + 8) N v1 v2 0 0 (-1) 0 K)) ∧ ((N.1 42 11) = 0 → (K (-4) N)))) ∧ (¬ 0 ≤ v2 → (K (-3) N))) → ACi (d + 9) X9_left [.ref 42, .int v1, .int v2] N K := fun N K d hk => w_X9_left (c_in01 (fun _ => ⟨fun z => absurd z (by decide), fun _ => hk⟩) (fun z => absurd h01 z))
  refine ⟨fun c3 => ?_, fun c3 => go _ _ _ ⟨fun z => absurd z c3, fun _ => ⟨rfl, h0⟩⟩⟩
  obtain ⟨kk, hkk, rfl⟩ := nI_of (x := v2) (by rw [fa_lt, tI0]; rw [fa_le, tI0] at c3; omega)
  rcases wa with ⟨f1, f2, f3⟩ | ⟨T, lf, ms, f⟩
  · exact ⟨fun z => absurd f1 z, fun _ => go _ _ _ ⟨fun _ => ⟨fun z => absurd f3 z, fun _ => ⟨rfl, h0⟩⟩, fun z => absurd c3 z⟩⟩
  · obtain ⟨g0, g1, g2, g3, g4, g5, g6, g7, g8, g9⟩ := f
    refine ⟨fun _ => ⟨fun cv => ?_, fun cv => ?_⟩, fun z => absurd (g1.symm.trans z) (by decide)⟩
    · rw [a1.1]
      refine c_pairAt w2 g0 g5 g6 hkk (fun p hp hl => (g9 p hp hl).2.1) (fun x hx => go _ _ _ ⟨fun _ => ⟨fun _ => ?_, fun z => absurd (g2.symm.trans z) (by decide)⟩, fun z => absurd c3 z⟩)
      exact c_leftM hkk g8 (fun p hp hl => (g9 p hp hl).2.2.2.1) (fun y _ hy => ⟨kth_one hx hy, h0⟩) (fun z => absurd z cv)
    · refine w_X7_lights ?_
      rw [g6]
      refine c_lightsIn (go _ _ _ ⟨fun _ => ⟨fun _ => ?_, fun z => absurd (g2.symm.trans z) (by decide)⟩, fun z => absurd c3 z⟩)
      exact c_leftM hkk g8 (fun p hp hl => (g9 p hp hl).2.2.2.1) (fun y z hy => absurd cv z) (fun _ => ⟨rfl, h0⟩)
