/-! MOST: the rhythms that are such, as bits; the greatest set. -/
noncomputable def sbN (b w s nr : Nat) (num : Nat → Nat) (r : Nat) : Nat := bsN (fun o => lkB b w (num r) (num o) s) nr
theorem andnot {a c : Nat} (ha : a < 256) (hc : c < 256) : nI c &&& (nI a ^^^ -1) = nI (c &&& (a ^^^ 255)) := by
  rw [show (-1 : Int32) = nI 4294967295 by decide, fb_xorI, fa_and, and255 a ha c hc]
theorem nz {x : Nat} (h : x < 2147483648) : nI x = 0 ↔ x = 0 := nI_eq (b := 0) h (by decide)
def ulP (sb : Nat → Nat) (S r : Nat) : Prop := S / 2 ^ r % 2 = 1 → sb r &&& (S &&& (2 ^ r ^^^ 255)) = 0
def ulA (sb : Nat → Nat) (nr S : Nat) : Prop := ∀ r, r < nr → ulP sb S r
noncomputable def gF (P : Nat → Prop) : Nat → Nat
  | 0 => 0
  | k + 1 => @ite _ (P (k + 1) ∧ pc8 (gF P k) < pc8 (k + 1)) (Classical.propDecidable _) (k + 1) (gF P k)
theorem gF_le (P : Nat → Prop) : ∀ k, gF P k ≤ k
  | 0 => Nat.le_refl _
  | k + 1 => by
    have := gF_le P k
    rw [gF]
    split <;> omega
theorem drop_bit {S r : Nat} (hr : r < 8) (hS : S < 256) : (S &&& (2 ^ r ^^^ 255) = S) ↔ ¬ S / 2 ^ r % 2 = 1 := by
  rw [bit_eq]
  constructor
  · intro h
    have := congrArg (fun z => Nat.testBit z r) h
    simp only [Nat.testBit_and, Nat.testBit_xor, Nat.testBit_two_pow_self, (b255 r hr).1] at this
    cases q : S.testBit r
    · decide
    · rw [q] at this; exact absurd this (by decide)
  · intro h
    apply Nat.eq_of_testBit_eq
    intro i
    rw [Nat.testBit_and, Nat.testBit_xor]
    by_cases hi : i < 8
    · rw [(b255 i hi).1]
      by_cases e : i = r
      · subst e
        cases q : S.testBit i
        · rfl
        · rw [q] at h; exact absurd rfl h
      · rw [Nat.testBit_two_pow_of_ne (Ne.symm e)]
        cases S.testBit i <;> rfl
    · have e : S.testBit i = false := Nat.testBit_lt_two_pow (Nat.lt_of_lt_of_le hS (show 2 ^ 8 ≤ 2 ^ i from Nat.pow_le_pow_right (by decide) (by omega)))
      rw [e, Bool.false_and]
/-- only the planner's cells (the model's: 59, 60, 61) have changed -/
def ScC (M M1 : Mm) : Prop := (∀ q, q < 26 ∨ 30 < q → M1.1 q = M.1 q) ∧ M1.2 = M.2
def ScM (M M1 : Mm) : Prop := (∀ q, q < 59 ∨ 61 < q → M1.1 q = M.1 q) ∧ M1.2 = M.2
theorem ScC.tr {M M1 M2 : Mm} (h : ScC M M1) (h2 : ScC M1 M2) : ScC M M2 := ⟨fun q c => (h2.1 q c).trans (h.1 q c), h2.2.trans h.2⟩
theorem ScM.tr {M M1 M2 : Mm} (h : ScM M M1) (h2 : ScM M1 M2) : ScM M M2 := ⟨fun q c => (h2.1 q c).trans (h.1 q c), h2.2.trans h.2⟩
section MO
variable {d : Nat} {M : Mm} {b w sg nr s : Nat} {num : Nat → Nat}
theorem sb256 {r : Nat} (h : nr ≤ 8) : sbN b w s nr num r < 256 := bsN_small h
theorem c_suchOnes {K : Int32 → Mm → Prop} {r : Nat} (hC : BkC M b w sg nr num) (hB : BkW b w sg nr num) (hs : s < 2) (hr : r < nr) (h : K (nI (sbN b w s nr num r)) M) : ACi (d + 4) X0_suchOnes [.ref 3, .int (nI r), .int (nI s)] M K := by
  have w7 := hB.2.2.2.2.2.2.1
  refine w_X0_suchOnes ?_
  have key : ∀ (j k : Nat), k + j = nr → lp_X0_suchOnes_5 (d + 3) M (nI r) (nI s) (nI (bsN (fun o => lkB b w (num r) (num o) s) k)) (nI k) K := by
    intro j
    induction j with
    | zero =>
      intro k hk
      have : k = nr := by omega
      subst this
      refine z_X0_suchOnes_5 ?_
      rw [hC.2.2.2.1]
      exact ⟨fun _ => h, fun c => absurd (nI_le (by omega) (by omega)) c⟩
    | succ j ih =>
      intro k hk
      have st := ih (k + 1) (by omega)
      rw [bsN] at st
      refine z_X0_suchOnes_5 ?_
      rw [hC.2.2.2.1, nI_1, bit1 k (by omega), bsN_or]
      refine ⟨fun c => absurd c (nI_ge (by omega) (by omega)), fun _ => c_areSuch hC hB hs (fun r' o' hr' ho' e1 e2 q => ⟨fun z => absurd z (by decide), fun _ => ?_⟩) (fun q => ⟨fun _ => ?_, fun z => absurd rfl z⟩)⟩
      · have q1 : r = r' := (nI_eq (by omega) (by omega)).mp e1
        have q2 : k = o' := (nI_eq (by omega) (by omega)).mp e2
        subst q1; subst q2
        rw [if_pos (lkB_t.mpr q)] at st
        exact st
      · have := q r k hr (by omega) rfl rfl
        rw [lkB_f.mpr this, if_neg (by decide), Nat.add_zero] at st
        exact st
  exact key nr 0 (by omega)
theorem c_compare {K : Mm → Prop} (hC : BkC M b w sg nr num) (hB : BkW b w sg nr num) (hs : s < 2) (hK : ∀ M1, ScC M M1 → M1.1 26 3 = nI nr → (∀ r, r < nr → M1.1 30 r = nI (sbN b w s nr num r)) → K M1) : ACv (d + 5) X4_compareRhythms [.ref 26, .ref 3, .int (nI s)] M K := by
  have w7 := hB.2.2.2.2.2.2.1
  refine w_X4_compareRhythms ?_
  rw [hC.2.2.2.1]
  have key : ∀ (j k : Nat) (N : Mm), k + j = nr → ScC M N → N.1 26 3 = nI nr → (∀ r, r < k → N.1 30 r = nI (sbN b w s nr num r)) → lp_X4_compareRhythms_10 (d + 4) N (nI s) (nI k) K := by
    intro j
    induction j with
    | zero =>
      intro k N hk g1 g2 g3
      refine z_X4_compareRhythms_10 ?_
      rw [g2]
      exact ⟨fun _ => hK N g1 g2 (fun r hr => g3 r (by omega)), fun c => absurd (nI_le (by omega) (by omega)) c⟩
    | succ j ih =>
      intro k N hk g1 g2 g3
      have hC' : BkC N b w sg nr num := hC.of (g1.1 3 (by decide)) (g1.1 4 (by decide))
      refine z_X4_compareRhythms_10 ?_
      rw [g2]
      refine ⟨fun c => absurd c (nI_ge (by omega) (by omega)), fun _ => c_suchOnes hC' hB hs (by omega) ⟨vp_in_nI (by omega) (by decide), ?_⟩⟩
      rw [nI_clamp (by omega), nI_1]
      refine ih (k + 1) _ (by omega) (g1.tr ⟨fun q c => wI_ne (by omega), rfl⟩) (by simpa [rI] using g2) (fun r hr => ?_)
      by_cases e : r = k
      · subst e; simp [rI]
      · simpa [rI, e] using g3 r (by omega)
  exact key nr 0 _ (by omega) ⟨fun q c => wI_ne (by omega), rfl⟩ (by simp [rI]) (fun r hr => absurd hr (by omega))
theorem c_layBars {K : Mm → Prop} (hM : BkM M b w sg nr num) (hB : BkW b w sg nr num) (hs : s < 2) (hK : ∀ M1, ScM M M1 → (∀ r, r < nr → M1.1 59 r = nI (sbN b w s nr num r)) → K M1) : ACv (d + 4) X9_layBars [.ref 42, .int (nI s)] M K := by
  have w4 := hB.2.2.2.1
  have w7 := hB.2.2.2.2.2.2.1
  refine w_X9_layBars ?_
  have key : ∀ (j k : Nat) (N : Mm), k + j = nr → ScM M N → (∀ r, r < k → N.1 59 r = nI (sbN b w s nr num r)) → lp_X9_layBars_2 (d + 3) N (nI s) (nI k) K := by
    intro j
    induction j with
    | zero =>
      intro k N hk g1 g3
      have h4 : N.1 42 4 = nI nr := by rw [g1.1 42 (by decide)]; exact hM.2.2.2.1
      refine z_X9_layBars_2 ?_
      rw [h4]
      exact ⟨fun _ => hK N g1 (fun r hr => g3 r (by omega)), fun c => absurd (nI_le (by omega) (by omega)) c⟩
    | succ j ih =>
      intro k N hk g1 g3
      have h4 : N.1 42 4 = nI nr := by rw [g1.1 42 (by decide)]; exact hM.2.2.2.1
      refine z_X9_layBars_2 ?_
      rw [h4]
      refine ⟨fun c => absurd c (nI_ge (by omega) (by omega)), fun _ => ⟨vp_in_nI (by omega) (by decide), ?_⟩⟩
      rw [nI_clamp (by omega)]
      have inner : ∀ (j2 k2 : Nat) (N2 : Mm), k2 + j2 = nr → ScM M N2 → (∀ r, r < k → N2.1 59 r = nI (sbN b w s nr num r)) → N2.1 59 k = nI (bsN (fun o => lkB b w (num k) (num o) s) k2) → lp_X9_layBars_19 (d + 3) N2 (nI s) (nI k) (nI k2) K := by
        intro j2
        induction j2 with
        | zero =>
          intro k2 N2 hk2 f1 f3 f4
          have : k2 = nr := by omega
          subst this
          have h4 : N2.1 42 4 = nI k2 := by rw [f1.1 42 (by decide)]; exact hM.2.2.2.1
          refine z_X9_layBars_19 ?_
          rw [h4, nI_1]
          refine ⟨fun _ => ih (k + 1) N2 (by omega) f1 (fun r hr => ?_), fun c => absurd (nI_le (by omega) (by omega)) c⟩
          by_cases e : r = k
          · subst e; exact f4
          · exact f3 r (by omega)
        | succ j2 ih2 =>
          intro k2 N2 hk2 f1 f3 f4
          have hM2 : BkM N2 b w sg nr num := hM.of (fun j _ _ => by rw [f1.1 42 (by decide)]) (f1.1 44 (by decide))
          have vk : vp_in (nI k) 8 := vp_in_nI (by omega) (by decide)
          refine z_X9_layBars_19 ?_
          rw [hM2.2.2.2.1, hM2.2.1, nI_1 k2, bit1 k2 (by omega), nI_clamp (by omega), f4, bsN_or, or0]
          refine ⟨fun c => absurd c (nI_ge (by omega) (by omega)), fun _ => ⟨vk, c_areLike hM2 hB (by omega) (by omega) w4 hs (fun l => ⟨fun z => absurd z (by decide), fun _ => ⟨vk, ?_⟩⟩) (fun l => ⟨fun _ => ⟨vk, ?_⟩, fun z => absurd rfl z⟩)⟩⟩
          · refine ih2 (k2 + 1) _ (by omega) (f1.tr ⟨fun q c => wI_ne (show q ≠ 59 by omega), rfl⟩) (fun r hr => ?_) ?_
            · have : ¬ r = k := by omega
              simpa [rI, this] using f3 r hr
            · simp [rI, bsN, lkB_t.mpr l]
          · refine ih2 (k2 + 1) _ (by omega) (f1.tr ⟨fun q c => wI_ne (show q ≠ 59 by omega), rfl⟩) (fun r hr => ?_) ?_
            · have : ¬ r = k := by omega
              simpa [rI, this] using f3 r hr
            · simp [rI, bsN, lkB_f.mpr l]
      refine inner nr 0 _ (by omega) (g1.tr ⟨fun q c => wI_ne (by omega), rfl⟩) (fun r hr => ?_) (by simp [rI, bsN]; rfl)
      have : ¬ r = k := by omega
      simpa [rI, this] using g3 r hr
  exact key nr 0 M (by omega) ⟨fun _ _ => rfl, rfl⟩ (fun r hr => absurd hr (by omega))
theorem c_isUnlike {K : Int32 → Mm → Prop} {S : Nat} {sb : Nat → Nat} (hn : nr ≤ 8) (h3 : M.1 26 3 = nI nr) (hb : ∀ r, r < nr → M.1 30 r = nI (sb r)) (hS : S < 256) (hsb : ∀ r, sb r < 256) (h1 : ulA sb nr S → K 1 M) (h0 : ¬ ulA sb nr S → K 0 M) : ACi (d + 1) X4_isUnlike [.ref 26, .int (nI S)] M K := by
  refine w_X4_isUnlike ?_
  have key : ∀ (j k : Nat), k + j = nr → (∀ r, r < k → ulP sb S r) → lp_X4_isUnlike_2 d M (nI S) (nI k) K := by
    intro j
    induction j with
    | zero =>
      intro k hk hu
      refine z_X4_isUnlike_2 ?_
      rw [h3]
      exact ⟨fun _ => h1 (fun r hr => hu r (by omega)), fun c => absurd (nI_le (by omega) (by omega)) c⟩
    | succ j ih =>
      intro k hk hu
      have hp : 2 ^ k < 256 := by have : 2 ^ k ≤ 2 ^ 7 := Nat.pow_le_pow_right (by decide) (by omega); omega
      have la : S &&& (2 ^ k ^^^ 255) < 256 := by have := Nat.and_le_left (n := S) (m := 2 ^ k ^^^ 255); omega
      have lb : sb k &&& (S &&& (2 ^ k ^^^ 255)) < 256 := by have := Nat.and_le_right (n := sb k) (m := S &&& (2 ^ k ^^^ 255)); omega
      refine z_X4_isUnlike_2 ?_
      rw [h3, nI_1, bit1 k (by omega), andnot hp hS, nI_eq (by omega) (by omega), nI_clamp (by omega), hb k (by omega), fa_and, drop_bit (by omega) hS, nz (by omega)]
      refine ⟨fun c => absurd c (nI_ge (by omega) (by omega)), fun _ => ⟨fun c => ih (k + 1) (by omega) (fun r hr => ?_), fun c => ⟨vp_in_nI (by omega) (by decide), fun c2 => ih (k + 1) (by omega) (fun r hr => ?_), fun c2 => h0 (fun z => c2 (z k (by omega) (Classical.not_not.mp c)))⟩⟩⟩
      · by_cases e : r = k
        · subst e; exact fun z => absurd z c
        · exact hu r (by omega)
      · by_cases e : r = k
        · subst e; exact fun _ => c2
        · exact hu r (by omega)
  exact key nr 0 (by omega) (fun r hr => absurd hr (by omega))
theorem c_has {K : Int32 → Mm → Prop} {S k : Nat} (hS : S < 2147483648) (hk : k < 32) (h1 : S / 2 ^ k % 2 = 1 → K 1 M) (h0 : ¬ S / 2 ^ k % 2 = 1 → K 0 M) : ACi (d + 1) X9_has [.int (nI S), .int (nI k)] M K := by
  refine w_X9_has ?_
  have := Nat.mod_lt (S / 2 ^ k) (show 2 > 0 by decide)
  rw [shr1 hS hk, show (1 : Int32) = nI 1 from rfl, nI_eq (by omega) (by decide)]
  exact ⟨h0, h1⟩
theorem pw256 {n : Nat} (h : n ≤ 8) : 2 ^ n ≤ 256 := p2le h
theorem c_mostC {K : Int32 → Mm → Prop} (hC : BkC M b w sg nr num) (hB : BkW b w sg nr num) (hs : s < 2) (hK : ∀ M1, ScC M M1 → K (nI (gF (ulA (sbN b w s nr num) nr) (2 ^ nr - 1))) M1) : ACi (d + 6) X4_greatestUnlikeSet [.ref 26, .ref 3, .int (nI s)] M K := by
  have w7 := hB.2.2.2.2.2.2.1
  have hp := pw256 w7
  have hpos := Nat.two_pow_pos nr
  refine w_X4_greatestUnlikeSet (c_compare hC hB hs (fun M1 g1 g2 g3 => ?_))
  have key : ∀ (j k : Nat), k + j = 2 ^ nr - 1 → lp_X4_greatestUnlikeSet_11 (d + 5) M1 (nI (gF (ulA (sbN b w s nr num) nr) k)) (nI (k + 1)) K := by
    intro j
    induction j with
    | zero =>
      intro k hk
      have : k = 2 ^ nr - 1 := by omega
      subst this
      refine z_X4_greatestUnlikeSet_11 ?_
      rw [g2, bit1 nr (by omega)]
      exact ⟨fun _ => hK M1 g1, fun c => absurd (nI_le (by omega) (by omega)) c⟩
    | succ j ih =>
      intro k hk
      have st := ih (k + 1) (by omega)
      rw [gF] at st
      have hle := gF_le (ulA (sbN b w s nr num) nr) k
      refine z_X4_greatestUnlikeSet_11 ?_
      rw [g2, bit1 nr (by omega), nI_1]
      have p1 : pc8 (k + 1) < 100 := by unfold pc8; omega
      have p2 : pc8 (gF (ulA (sbN b w s nr num) nr) k) < 100 := by unfold pc8; omega
      refine ⟨fun c => absurd c (nI_ge (by omega) (by omega)), fun _ => w_bc32 _ (by omega) _ _ _ (w_bc32 _ (by omega) _ _ _ ?_)⟩
      rw [nI_leI (by omega) (by omega)]
      refine ⟨fun c => ?_, fun c => c_isUnlike w7 g2 g3 (by omega) (fun r => sb256 w7) (fun q => ⟨fun z => absurd z (by decide), fun _ => ?_⟩) (fun q => ⟨fun _ => ?_, fun z => absurd rfl z⟩)⟩
      · rw [if_neg (fun z => by omega)] at st; exact st
      · rw [if_pos ⟨q, by omega⟩] at st; exact st
      · rw [if_neg (fun z => q z.1)] at st; exact st
  exact key (2 ^ nr - 1) 0 (by omega)
theorem c_mostM {K : Int32 → Mm → Prop} (hM : M.1 42 4 = nI nr) (hn : nr ≤ 8) {sb : Nat → Nat} (hb : ∀ r, r < nr → M.1 59 r = nI (sb r)) (hsb : ∀ r, sb r < 256) (hK : K (nI (gF (ulA sb nr) (2 ^ nr - 1))) M) : lp_X9_most_31 (d + 1) M 0 1 K := by
  have hp := pw256 hn
  have hpos := Nat.two_pow_pos nr
  have key : ∀ (j k : Nat), k + j = 2 ^ nr - 1 → lp_X9_most_31 (d + 1) M (nI (gF (ulA sb nr) k)) (nI (k + 1)) K := by
    intro j
    induction j with
    | zero =>
      intro k hk
      have : k = 2 ^ nr - 1 := by omega
      subst this
      refine z_X9_most_31 ?_
      rw [hM, bit1 nr (by omega)]
      exact ⟨fun _ => hK, fun c => absurd (nI_le (by omega) (by omega)) c⟩
    | succ j ih =>
      intro k hk
      have st := ih (k + 1) (by omega)
      rw [gF] at st
      have hle := gF_le (ulA sb nr) k
      have p1 : pc8 (k + 1) < 100 := by unfold pc8; omega
      have p2 : pc8 (gF (ulA sb nr) k) < 100 := by unfold pc8; omega
      refine z_X9_most_31 ?_
      rw [hM, bit1 nr (by omega)]
      refine ⟨fun c => absurd c (nI_ge (by omega) (by omega)), fun _ => ?_⟩
      have inner : ∀ (j2 r : Nat) (v : Int32), r + j2 = nr → ((v = 1 ∧ ∀ r', r' < r → ulP sb (k + 1) r') ∨ (v = 0 ∧ ¬ ulA sb nr (k + 1))) → lp_X9_most_47 (d + 1) M (nI (gF (ulA sb nr) k)) (nI (k + 1)) v (nI r) K := by
        intro j2
        induction j2 with
        | zero =>
          intro r v hr hv
          refine z_X9_most_47 ?_
          rw [hM, nI_1]
          refine ⟨fun _ => ⟨fun c => ?_, fun c => c_ones (by omega) (c_ones (by omega) ?_)⟩, fun c => absurd (nI_le (by omega) (by omega)) c⟩
          · rcases hv with ⟨e, -⟩ | ⟨-, q⟩
            · rw [e] at c; exact absurd c (by decide)
            · rw [if_neg (fun z => q z.1)] at st; exact st
          · rcases hv with ⟨-, q⟩ | ⟨e, -⟩
            · rw [nI_leI (by omega) (by omega)]
              refine ⟨fun c2 => ?_, fun c2 => ?_⟩
              · rw [if_neg (fun z => by omega)] at st; exact st
              · rw [if_pos ⟨fun r' hr' => q r' (by omega), by omega⟩] at st; exact st
            · exact absurd e c
        | succ j2 ih2 =>
          intro r v hr hv
          refine z_X9_most_47 ?_
          rw [hM, nI_1 r]
          refine ⟨fun c => absurd c (nI_ge (by omega) (by omega)), fun _ => ⟨fun c => ?_, fun c => ?_⟩⟩
          · rcases hv with ⟨e, -⟩ | ⟨-, q⟩
            · rw [e] at c; exact absurd c (by decide)
            · exact ih2 (r + 1) 0 (by omega) (Or.inr ⟨rfl, q⟩)
          · have q : ∀ r', r' < r → ulP sb (k + 1) r' := by
              rcases hv with ⟨-, q⟩ | ⟨e, -⟩
              · exact q
              · exact absurd e c
            have hp2 : 2 ^ r < 256 := by have : 2 ^ r ≤ 2 ^ 7 := Nat.pow_le_pow_right (by decide) (by omega); omega
            have hsr := hsb r
            have lx : sb r &&& (k + 1) < 256 := by have := Nat.and_le_left (n := sb r) (m := k + 1); omega
            have ly : (sb r &&& (k + 1)) &&& (2 ^ r ^^^ 255) < 256 := by have := Nat.and_le_left (n := sb r &&& (k + 1)) (m := 2 ^ r ^^^ 255); omega
            refine c_has (by omega) (by omega) (fun q1 => ⟨fun z => absurd z (by decide), fun _ => ⟨vp_in_nI (by omega) (by decide), ?_⟩⟩) (fun q1 => ⟨fun _ => ih2 (r + 1) 1 (by omega) (Or.inl ⟨rfl, fun r' hr' => ?_⟩), fun z => absurd rfl z⟩)
            · rw [nI_clamp (by omega), hb r (by omega), fa_and, bit1 r (by omega), andnot hp2 lx, nz (by omega), Nat.and_assoc]
              refine ⟨fun q2 => ih2 (r + 1) 0 (by omega) (Or.inr ⟨rfl, fun z => q2 (z r (by omega) q1)⟩), fun q2 => ih2 (r + 1) 1 (by omega) (Or.inl ⟨rfl, fun r' hr' => ?_⟩)⟩
              by_cases e : r' = r
              · subst e; exact fun _ => q2
              · exact q r' (by omega)
            · by_cases e : r' = r
              · subst e; exact fun z => absurd z q1
              · exact q r' (by omega)
      exact inner nr 0 1 (by omega) (Or.inl ⟨rfl, fun r' hr' => absurd hr' (by omega)⟩)
  exact key (2 ^ nr - 1) 0 (by omega)
end MO
/-- scratch cells of both sides: what the invariant doesn't speak of -/
theorem Inv.scr {M M1 : Mm} (h : Inv M) (e1 : ∀ q, q ≠ 1 → (q < 8 ∨ 12 < q) → (q < 26 ∨ 33 < q) → q ≠ 42 → q ≠ 52 → (q < 59 ∨ 64 < q) → M1.1 q = M.1 q) (e2 : M1.2 34 = M.2 34) (e3 : M1.1 1 0 = M.1 1 0) (e4 : ∀ j, j < 18 → M1.1 42 j = M.1 42 j) : Inv M1 := by
  obtain ⟨b, w, sg, nr, nl, num, u, ps, bs, tp, tb, hc⟩ := h
  obtain ⟨⟨a1, a2, a3⟩, ⟨l1, l2⟩, ⟨u1, u2, u3⟩, t, kk, wa, tt, tx, ww⟩ := hc
  have hn := (u3.2 u (Nat.le_refl _)).1
  have f : ∀ q, (2 ≤ q ∧ q < 8) ∨ (13 ≤ q ∧ q < 26) ∨ (34 ≤ q ∧ q < 42) ∨ (43 ≤ q ∧ q < 52) ∨ (53 ≤ q ∧ q < 59) → M1.1 q = M.1 q := fun q c => e1 q (by omega) (by omega) (by omega) (by omega) (by omega) (by omega)
  refine ⟨b, w, sg, nr, nl, num, u, ps, bs, tp, tb, ⟨a1.of (f 3 (by decide)) (f 4 (by decide)), a2.of (fun j _ _ => e4 j (by omega)) (f 44 (by decide)), a3⟩, ⟨l1.of (by rw [f 13 (by decide)]) (f 14 (by decide)) (f 15 (by decide)), l2.of (e4 5 (by decide)) (f 43 (by decide))⟩, ⟨u1.of (by rw [f 22 (by decide)]) (f 23 (by decide)) (f 24 (by decide)) (f 25 (by decide)), u2.of (e4 7 (by decide)) (f 43 (by decide)), u3⟩, t.of (by rw [f 5 (by decide)]) (f 6 (by decide)) (f 7 (by decide)) hn (fun j _ _ => by rw [f 43 (by decide)]), kk.of (fun q c1 c2 => f q (by omega)) (f 45 (by decide)) hn (fun j _ _ => by rw [f 43 (by decide)]), wa.of (f 34 (by decide)) e2 (e4 11 (by decide)) (e4 12 (by decide)) (f 47 (by decide)) (f 48 (by decide)) (f 49 (by decide)), tt.of (fun q c1 c2 => f q (by omega)) (f 50 (by decide)) (f 51 (by decide)), tx.of e3 (f 2 (by decide)) (e4 10 (by decide)) (f 46 (by decide)), ww.of (fun q c1 c2 => f q (by omega))⟩
theorem q_most {M : Mm} {v1 : Int32} (h : Inv M) : Pr X8_most X9_most [.int v1] M := by
  have h0 := h
  obtain ⟨b, w, sg, nr, nl, num, u, ps, bs, tp, tb, hc⟩ := h
  obtain ⟨⟨a1, a2, a3⟩, -⟩ := hc
  have w7 := a3.2.2.2.2.2.2.1
  have e1 : (1 : Int32).toInt = 1 := by decide
  intro d
  have out : (v1.toInt < 0 ∨ 1 < v1.toInt) → ∀ d, ACi (d + 9) X9_most [.ref 42, .int v1] M (fun r' M2 => -3 = r' ∧ Inv M2) := fun hz d => w_X9_most (c_in01 (fun z => absurd z (n01 hz)) (fun _ => ⟨fun z => absurd rfl z, fun _ => ⟨rfl, h0⟩⟩))
  refine w_X8_most ⟨fun c => out (Or.inl (by rw [fa_lt, tI0] at c; exact c)) _, fun c => ⟨fun c2 => ?_, fun c2 => out (Or.inr (by rw [fa_le, e1] at c2; omega)) _⟩⟩
  rw [fa_lt, tI0] at c
  rw [fa_le, e1] at c2
  obtain ⟨s, hs, rfl⟩ := i_of (x := v1) (n := 2) (by omega) (by omega)
  refine c_mostC a1 a3 hs (fun M1 g1 => ?_)
  have hM1 : BkM M1 b w sg nr num := a2.of (fun j _ _ => by rw [g1.1 42 (by decide)]) (g1.1 44 (by decide))
  have fin : ∀ M2, ScM M1 M2 → Inv M2 := fun M2 f => h0.scr (fun q b1 b2 b3 b4 b5 b6 => (f.1 q (by omega)).trans (g1.1 q (by omega))) (by rw [f.2, g1.2]) (by rw [f.1 1 (by decide), g1.1 1 (by decide)]) (fun j _ => by rw [f.1 42 (by decide), g1.1 42 (by decide)])
  have go : ∀ d, ACv (d + 4) X9_layBars [.ref 42, .int (nI s)] M1 (fun M2 => lp_X9_most_31 (d + 4) M2 0 1 (fun r' M2 => nI (gF (ulA (sbN b w s nr num) nr) (2 ^ nr - 1)) = r' ∧ Inv M2)) := fun d => c_layBars hM1 a3 hs (fun M2 f1 f2 => c_mostM (by rw [f1.1 42 (by decide)]; exact hM1.2.2.2.1) w7 f2 (fun r => sb256 w7) ⟨rfl, fin M2 f1⟩)
  match s, hs with
  | 0, _ => exact w_X9_most (c_in01 (fun _ => ⟨fun _ => ⟨fun _ => go _, fun z => absurd z (by decide)⟩, fun z => absurd z (by decide)⟩) (fun z => absurd (Or.inl rfl) z))
  | 1, _ => exact w_X9_most (c_in01 (fun _ => ⟨fun _ => ⟨fun z => absurd rfl z, fun _ => go _⟩, fun z => absurd z (by decide)⟩) (fun z => absurd (Or.inr rfl) z))
