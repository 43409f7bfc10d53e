/-! PLAN: both sides find the first of the plans with the fewest rhythms. -/
def plS (nb lk : Nat → Nat → Bool) (nr nl : Nat) (g : Nat → Nat) : Prop := plP nb lk nr nl g ∧ (∀ h, plP nb lk nr nl h → pc8 (orb g nl) ≤ pc8 (orb h nl)) ∧ ∀ h, plP nb lk nr nl h → lexlt nl h g → pc8 (orb g nl) < pc8 (orb h nl)
theorem plS_one {nb lk : Nat → Nat → Bool} {nr nl : Nat} {g h : Nat → Nat} (hg : plS nb lk nr nl g) (hh : plS nb lk nr nl h) : ∀ i, i < nl → g i = h i := by
  rcases lex_tri (nl := nl) (g := g) (h := h) with q | q | q
  · exact q
  · have h1 := hh.2.2 g hg.1 q
    have h2 := hg.2.1 h hh.1
    omega
  · have h1 := hg.2.2 h hh.1 q
    have h2 := hh.2.1 g hg.1
    omega
def dg (nr nl x l : Nat) : Nat := x / nr ^ (nl - 1 - l) % nr
theorem dg_suc {nr nl x l : Nat} (hl : l < nl) : x / nr ^ (nl - 1 - l) = x / nr ^ (nl - l) * nr + dg nr nl x l := by
  have e : nl - l = (nl - 1 - l) + 1 := by omega
  rw [e, Nat.pow_succ, ← Nat.div_div_eq_div_mul]
  unfold dg
  have := Nat.div_add_mod (x / nr ^ (nl - 1 - l)) nr
  rw [Nat.mul_comm] at this
  exact this.symm
theorem dg_lex {nr nl x y : Nat} (hx : x < nr ^ nl) (hy : y < nr ^ nl) (h : lexlt nl (dg nr nl x) (dg nr nl y)) : x < y := by
  obtain ⟨l, hl, hp, hlt⟩ := h
  have pre : ∀ k, k ≤ l → x / nr ^ (nl - k) = y / nr ^ (nl - k) := by
    intro k
    induction k with
    | zero => intro _; rw [Nat.sub_zero, Nat.div_eq_of_lt hx, Nat.div_eq_of_lt hy]
    | succ k ih =>
      intro hk
      rw [show nl - (k + 1) = nl - 1 - k by omega, dg_suc (by omega), dg_suc (x := y) (by omega), ih (by omega), hp k (by omega)]
  have e := pre l (Nat.le_refl _)
  have e1 := dg_suc (nr := nr) (x := x) hl
  have e2 := dg_suc (nr := nr) (x := y) hl
  rw [e] at e1
  apply Classical.byContradiction
  intro z
  have := Nat.div_le_div_right (c := nr ^ (nl - 1 - l)) (show y ≤ x by omega)
  omega
theorem dg_all (nr : Nat) : ∀ (nl : Nat) (h : Nat → Nat), (∀ l, l < nl → h l < nr) → ∃ x, x < nr ^ nl ∧ ∀ l, l < nl → dg nr nl x l = h l
  | 0, h, _ => ⟨0, by simp, fun l hl => absurd hl (by omega)⟩
  | n + 1, h, hh => by
    obtain ⟨x, hx, hd⟩ := dg_all nr n h (fun l hl => hh l (by omega))
    have hn := hh n (by omega)
    refine ⟨x * nr + h n, ?_, fun l hl => ?_⟩
    · rw [Nat.pow_succ]
      have := Nat.mul_le_mul_right nr (show x + 1 ≤ nr ^ n by omega)
      rw [Nat.succ_mul] at this
      omega
    · have hdiv : (x * nr + h n) / nr = x := by
        rw [Nat.mul_comm, Nat.mul_add_div (by omega), Nat.div_eq_of_lt hn, Nat.add_zero]
      have hmod : (x * nr + h n) % nr = h n := by
        rw [Nat.mul_comm, Nat.mul_add_mod, Nat.mod_eq_of_lt hn]
      by_cases e : l = n
      · subst e
        unfold dg
        rw [show l + 1 - 1 - l = 0 by omega, Nat.pow_zero, Nat.div_one, hmod]
      · rw [← hd l (by omega)]
        unfold dg
        rw [show n + 1 - 1 - l = (n - 1 - l) + 1 by omega, Nat.pow_succ, Nat.mul_comm (nr ^ (n - 1 - l)) nr, ← Nat.div_div_eq_div_mul, hdiv]
theorem plP_cong {nb lk : Nat → Nat → Bool} {nr nl : Nat} {g h : Nat → Nat} (e : ∀ l, l < nl → g l = h l) (hg : plP nb lk nr nl g) : plP nb lk nr nl h := ⟨fun l hl => by rw [← e l hl]; exact hg.1 l hl, fun a ha c hc q => by rw [← e a ha, ← e c (by omega)]; exact hg.2 a ha c hc q⟩
/-- the ways tried so far -/
def WI (pP : Nat → Prop) (pc : Nat → Nat) (g : Nat → Nat → Nat) (nl k : Nat) (v : Int32) (f : Nat → Int32) : Prop := (v = -1 ∧ ∀ x, x < k → ¬ pP x) ∨ ∃ x0, x0 < k ∧ pP x0 ∧ v = nI (pc x0) ∧ (∀ l, l < nl → f l = nI (g x0 l)) ∧ ∀ x, x < k → pP x → pc x0 ≤ pc x ∧ (x < x0 → pc x0 < pc x)
theorem WI.skip {pP : Nat → Prop} {pc : Nat → Nat} {g : Nat → Nat → Nat} {nl k : Nat} {v : Int32} {f : Nat → Int32} (hpc : ∀ x, pc x < 100) (h : WI pP pc g nl k v f) (hs : ¬ pP k ∨ (¬ v = -1 ∧ v ≤ nI (pc k))) : WI pP pc g nl (k + 1) v f := by
  rcases h with ⟨h1, h2⟩ | ⟨x0, h1, h2, h3, h4, h5⟩
  · refine Or.inl ⟨h1, fun x hx => ?_⟩
    by_cases e : x = k
    · subst e
      rcases hs with q | q
      · exact q
      · exact absurd h1 q.1
    · exact h2 x (by omega)
  · refine Or.inr ⟨x0, by omega, h2, h3, h4, fun x hx hp => ?_⟩
    by_cases e : x = k
    · subst e
      rcases hs with q | q
      · exact absurd hp q
      · have := hpc x
        have := hpc x0
        have q2 := q.2
        rw [h3, nI_leI (by omega) (by omega)] at q2
        exact ⟨q2, fun z => absurd z (by omega)⟩
    · exact h5 x (by omega) hp
theorem WI.take {pP : Nat → Prop} {pc : Nat → Nat} {g : Nat → Nat → Nat} {nl k : Nat} {v : Int32} {f f2 : Nat → Int32} (hpc : ∀ x, pc x < 100) (h : WI pP pc g nl k v f) (hp : pP k) (hs : v = -1 ∨ ¬ v ≤ nI (pc k)) (hf : ∀ l, l < nl → f2 l = nI (g k l)) : WI pP pc g nl (k + 1) (nI (pc k)) f2 := by
  refine Or.inr ⟨k, by omega, hp, rfl, hf, fun x hx hx2 => ?_⟩
  by_cases e : x = k
  · subst e; exact ⟨Nat.le_refl _, fun z => absurd z (by omega)⟩
  · rcases h with ⟨h1, h2⟩ | ⟨x0, h1, h2, h3, h4, h5⟩
    · exact absurd hx2 (h2 x (by omega))
    · have a1 := hpc k
      have a2 := hpc x0
      have a3 := (h5 x (by omega) hx2).1
      rcases hs with q | q
      · rw [h3] at q
        have := congrArg Int32.toInt q
        rw [tN (by omega), show (-1 : Int32).toInt = -1 by decide] at this
        omega
      · rw [h3, nI_leI (by omega) (by omega)] at q
        exact ⟨by omega, fun _ => by omega⟩
theorem lkB_sym {b w n1 n2 s : Nat} : lkB b w n1 n2 s = lkB b w n2 n1 s := by
  have : lkP b w n1 n2 s ↔ lkP b w n2 n1 s := by
    constructor <;> (rintro ⟨i, hi, j, hj, h⟩; exact ⟨j, hj, i, hi, by rw [Nat.xor_comm]; exact h⟩)
  cases q : lkB b w n2 n1 s with
  | true => exact lkB_t.mpr (this.mpr (lkB_t.mp q))
  | false => exact lkB_f.mpr (fun z => lkB_f.mp q (this.mp z))
section PLM
variable {d : Nat} {M : Mm} {b w sg nr nl s : Nat} {num pl : Nat → Nat} {bo : Nat → Option Nat}
noncomputable abbrev lkS (b w s : Nat) (num : Nat → Nat) : Nat → Nat → Bool := fun r o => lkB b w (num r) (num o) s
theorem c_isPlan {K : Int32 → Mm → Prop} {g : Nat → Nat} (hL : LtM M nl pl bo) (hW : LtW nr nl pl bo) (hs : M.1 42 3 = nI sg) (hs2 : sg ≤ 99) (hr : nr ≤ 8) (hg : ∀ l, l < nl → g l < nr ∧ M.1 60 l = nI (g l)) (hb : ∀ r, r < nr → M.1 59 r = nI (sbN b w s nr num r)) (h1 : plP (nbB sg pl) (lkS b w s num) nr nl g → K 1 M) (h0 : ¬ plP (nbB sg pl) (lkS b w s num) nr nl g → K 0 M) : ACi (d + 3) X9_isPlan [.ref 42] M K := by
  have hn := hW.1
  refine w_X9_isPlan ?_
  have key : ∀ (j a : Nat), a + j = nl → (∀ a', a' < a → ∀ c, c < a' → nbB sg pl a' c = true → lkS b w s num (g a') (g c) = false) → lp_X9_isPlan_2 (d + 2) M (nI a) K := by
    intro j
    induction j with
    | zero =>
      intro a ha hq
      refine z_X9_isPlan_2 ?_
      rw [hL.1]
      exact ⟨fun _ => h1 ⟨fun l hl => (hg l hl).1, fun a' ha' => hq a' (by omega)⟩, fun c => absurd (nI_le (by omega) (by omega)) c⟩
    | succ j ih =>
      intro a ha hq
      refine z_X9_isPlan_2 ?_
      rw [hL.1]
      refine ⟨fun c => absurd c (nI_ge (by omega) (by omega)), fun _ => ?_⟩
      have inner : ∀ (j2 c : Nat), c + j2 = a → (∀ c', c' < c → nbB sg pl a c' = true → lkS b w s num (g a) (g c') = false) → lp_X9_isPlan_12 (d + 2) M (nI a) (nI c) K := by
        intro j2
        induction j2 with
        | zero =>
          intro c hc hq2
          refine z_X9_isPlan_12 ⟨fun _ => ?_, fun z => absurd (nI_le (by omega) (by omega)) z⟩
          rw [nI_1]
          refine ih (a + 1) (by omega) (fun a' ha' c' hc' => ?_)
          by_cases e : a' = a
          · subst e; exact hq2 c' (by omega)
          · exact hq a' (by omega) c' hc'
        | succ j2 ih2 =>
          intro c hc hq2
          have hga := hg a (by omega)
          have hgc := hg c (by omega)
          refine z_X9_isPlan_12 ⟨fun z => absurd z (nI_ge (by omega) (by omega)), fun _ => ?_⟩
          rw [nI_1 c]
          refine c_neighM hL hW hs hs2 (by omega) (by omega) (fun q => ⟨fun z => absurd z (by decide), fun _ => ⟨vp_in_nI (by omega) (by decide), ?_⟩⟩) (fun q => ⟨fun _ => ih2 (c + 1) (by omega) (fun c' hc' => ?_), fun z => absurd rfl z⟩)
          · rw [nI_clamp (n := a) (by omega), nI_clamp (n := c) (by omega), hga.2, hgc.2, nI_clamp (n := g a) (by omega), hb _ hga.1]
            have hb2 : sbN b w s nr num (g a) < 256 := sb256 hr
            refine ⟨vp_in_nI (by omega) (by decide), vp_in_nI (by omega) (by decide), c_has (by omega) (by omega) (fun q2 => ⟨fun z => absurd z (by decide), fun _ => h0 (fun z => ?_)⟩) (fun q2 => ⟨fun _ => ih2 (c + 1) (by omega) (fun c' hc' => ?_), fun z => absurd rfl z⟩)⟩
            · have := z.2 a (by omega) c (by omega) q
              unfold sbN at q2
              rw [bsN_bit, if_neg (fun y => by have y2 := y.2; dsimp only [lkS] at this; rw [this] at y2; exact absurd y2 (by decide))] at q2
              exact absurd q2 (by decide)
            · by_cases e : c' = c
              · subst e
                intro _
                unfold sbN at q2
                rw [bsN_bit] at q2
                dsimp only [lkS]
                cases y : lkB b w (num (g a)) (num (g c')) s with
                | false => rfl
                | true => rw [if_pos ⟨hgc.1, y⟩] at q2; exact absurd rfl q2
              · exact hq2 c' (by omega)
          · by_cases e : c' = c
            · subst e; intro y; rw [q] at y; exact absurd y (by decide)
            · exact hq2 c' (by omega)
      exact inner a 0 (by omega) (fun c' hc' => absurd hc' (by omega))
  exact key nl 0 (by omega) (fun a' ha' => absurd ha' (by omega))
theorem c_layPlan {K : Int32 → Mm → Prop} (hM : BkM M b w sg nr num) (hB : BkW b w sg nr num) (hL : LtM M nl pl bo) (hW : LtW nr nl pl bo) (hs : s < 2) (hK : ∀ F M1, ScM M M1 → ((F = -1 ∧ ∀ g, ¬ plP (nbB sg pl) (lkS b w s num) nr nl g) ∨ (∃ g, plS (nbB sg pl) (lkS b w s num) nr nl g ∧ F = nI (pc8 (orb g nl)) ∧ ∀ l, l < nl → M1.1 61 l = nI (g l))) → K F M1) : ACi (d + 5) X9_layPlan [.ref 42, .int (nI s)] M K := by
  have hn := hW.1
  have w6 := hB.2.2.2.2.2.1
  have w7 := hB.2.2.2.2.2.2.1
  have hall : ∀ k, k ≤ nl → nr ^ k ≤ 262144 := fun k hk => Nat.le_trans (Nat.pow_le_pow_left w7 k) (show 8 ^ k ≤ 8 ^ 6 from Nat.pow_le_pow_right (by decide) (by omega))
  have hp100 : ∀ x, pc8 x < 100 := fun x => by unfold pc8; omega
  refine w_X9_layPlan (c_layBars hM hB hs (fun M0 f1 f2 => ?_))
  have hN4 : ∀ N, ScM M N → N.1 42 4 = nI nr := fun N h => by rw [h.1 42 (by decide)]; exact hM.2.2.2.1
  have hN5 : ∀ N, ScM M N → N.1 42 5 = nI nl := fun N h => by rw [h.1 42 (by decide)]; exact hL.1
  -- the ways
  have ways : ∀ (j k : Nat) (v : Int32) (N : Mm), k + j = nr ^ nl → ScM M N → (∀ r, r < nr → N.1 59 r = nI (sbN b w s nr num r)) → WI (fun x => plP (nbB sg pl) (lkS b w s num) nr nl (dg nr nl x)) (fun x => pc8 (orb (dg nr nl x) nl)) (dg nr nl) nl k v (N.1 61) → lp_X9_layPlan_35 (d + 4) N (nI (nr ^ nl)) v (nI k) K := by
    intro j
    induction j with
    | zero =>
      intro k v N hk g1 g2 g3
      have hk2 : k = nr ^ nl := by omega
      subst hk2
      have := hall nl (Nat.le_refl _)
      refine z_X9_layPlan_35 ⟨fun _ => hK v N g1 ?_, fun c => absurd (nI_le (by omega) (by omega)) c⟩
      rcases g3 with ⟨q1, q2⟩ | ⟨x0, q1, q2, q3, q4, q5⟩
      · refine Or.inl ⟨q1, fun g hg => ?_⟩
        obtain ⟨x, hx, hd⟩ := dg_all nr nl g hg.1
        exact q2 x hx (plP_cong (fun l hl => (hd l hl).symm) hg)
      · refine Or.inr ⟨dg nr nl x0, ⟨q2, fun h hh => ?_, fun h hh hlh => ?_⟩, q3, q4⟩
        · obtain ⟨x, hx, hd⟩ := dg_all nr nl h hh.1
          have := (q5 x hx (plP_cong (fun l hl => (hd l hl).symm) hh)).1
          dsimp only at this
          rw [orb_cong (g := dg nr nl x) (h := h) hd] at this
          exact this
        · obtain ⟨x, hx, hd⟩ := dg_all nr nl h hh.1
          have hlx : lexlt nl (dg nr nl x) (dg nr nl x0) := by
            obtain ⟨l, a1, a2, a3⟩ := hlh
            exact ⟨l, a1, fun i hi => (hd i (by omega)).trans (a2 i hi), by rw [hd l a1]; exact a3⟩
          have := (q5 x hx (plP_cong (fun l hl => (hd l hl).symm) hh)).2 (dg_lex hx q1 hlx)
          dsimp only at this
          rw [orb_cong (g := dg nr nl x) (h := h) hd] at this
          exact this
    | succ j ih =>
      intro k v N hk g1 g2 g3
      have hal := hall nl (Nat.le_refl _)
      refine z_X9_layPlan_35 ⟨fun c => absurd c (nI_ge (by omega) (by omega)), fun _ => ?_⟩
      rw [hN5 N g1]
      -- the digits
      have digs : ∀ (j2 U : Nat) (N2 : Mm), j2 ≤ nl → ScM M N2 → N2.1 59 = N.1 59 → N2.1 61 = N.1 61 → (∀ l, j2 ≤ l → l < nl → N2.1 60 l = nI (dg nr nl k l)) → (0 < nl → 0 < nr) → U ||| orb (dg nr nl k) j2 = orb (dg nr nl k) nl → lp_X9_layPlan_56 (d + 4) N2 (nI (nr ^ nl)) v (nI k) (nI (k / nr ^ (nl - j2))) (nI U) (nI j2 - 1) K := by
        intro j2
        induction j2 with
        | zero =>
          intro U N2 _ e1 e2 e3 e4 hr0 eU
          have eU2 : U = orb (dg nr nl k) nl := by
            have h0 : orb (dg nr nl k) 0 = 0 := rfl
            rw [h0, Nat.or_zero] at eU
            exact eU
          have hdl : ∀ l, l < nl → dg nr nl k l < nr := fun l hl => Nat.mod_lt _ (hr0 (by omega))
          have hol : orb (dg nr nl k) nl < 256 := orb_lt w7 hdl
          have hL2 : LtM N2 nl pl bo := hL.of (by rw [e1.1 42 (by decide)]) (e1.1 43 (by decide))
          have hs3 : N2.1 42 3 = nI sg := by rw [e1.1 42 (by decide)]; exact hM.2.2.1
          have hb2 : ∀ r, r < nr → N2.1 59 r = nI (sbN b w s nr num r) := fun r hr => by rw [e2]; exact g2 r hr
          have hg2 : ∀ l, l < nl → dg nr nl k l < nr ∧ N2.1 60 l = nI (dg nr nl k l) := fun l hl => ⟨hdl l hl, e4 l (by omega) hl⟩
          have g32 : WI (fun x => plP (nbB sg pl) (lkS b w s num) nr nl (dg nr nl x)) (fun x => pc8 (orb (dg nr nl x) nl)) (dg nr nl) nl k v (N2.1 61) := by rw [e3]; exact g3
          have skip : (¬ plP (nbB sg pl) (lkS b w s num) nr nl (dg nr nl k) ∨ (¬ v = -1 ∧ v ≤ nI (pc8 (orb (dg nr nl k) nl)))) → lp_X9_layPlan_35 (d + 4) N2 (nI (nr ^ nl)) v (nI (k + 1)) K := fun z => ih (k + 1) v N2 (by omega) e1 hb2 (g32.skip (fun x => hp100 _) z)
          have take : plP (nbB sg pl) (lkS b w s num) nr nl (dg nr nl k) → (v = -1 ∨ ¬ v ≤ nI (pc8 (orb (dg nr nl k) nl))) → lp_X9_layPlan_135 (d + 4) N2 (nI (nr ^ nl)) (nI (pc8 (orb (dg nr nl k) nl))) (nI k) 0 K := by
            intro z1 z2
            have cp : ∀ (j3 l : Nat) (N3 : Mm), l + j3 = nl → ScM M N3 → N3.1 59 = N2.1 59 → N3.1 60 = N2.1 60 → (∀ i, i < l → N3.1 61 i = nI (dg nr nl k i)) → lp_X9_layPlan_135 (d + 4) N3 (nI (nr ^ nl)) (nI (pc8 (orb (dg nr nl k) nl))) (nI k) (nI l) K := by
              intro j3
              induction j3 with
              | zero =>
                intro l N3 hl y1 y2 y3 y4
                refine z_X9_layPlan_135 ?_
                rw [hN5 N3 y1, nI_1 k]
                exact ⟨fun _ => ih (k + 1) _ N3 (by omega) y1 (fun r hr => by rw [y2]; exact hb2 r hr) (g32.take (fun x => hp100 _) z1 z2 (fun i hi => y4 i (by omega))), fun c => absurd (nI_le (by omega) (by omega)) c⟩
              | succ j3 ih3 =>
                intro l N3 hl y1 y2 y3 y4
                refine z_X9_layPlan_135 ?_
                rw [hN5 N3 y1, nI_1 l, nI_clamp (by omega), y3, (hg2 l (by omega)).2]
                refine ⟨fun c => absurd c (nI_ge (by omega) (by omega)), fun _ => ⟨vp_in_nI (by omega) (by decide), vp_in_nI (by omega) (by decide), ih3 (l + 1) _ (by omega) (y1.tr ⟨fun q c => wI_ne (show q ≠ 61 by omega), rfl⟩) ?_ ?_ (fun i hi => ?_)⟩⟩
                · rw [wI_ne (by decide)]; exact y2
                · rw [wI_ne (by decide)]; exact y3
                · by_cases e : i = l
                  · subst e; simp [rI]
                  · simp [rI, e, y4 i (by omega)]
            exact cp nl 0 N2 (by omega) e1 rfl rfl (fun i hi => absurd hi (by omega))
          refine z_X9_layPlan_56 ⟨fun _ => ?_, fun c => absurd (by decide) c⟩
          rw [eU2, nI_1 k]
          refine c_ones (by omega) ⟨fun c => c_isPlan hL2 hW hs3 w6 w7 hg2 hb2 (fun q => ⟨fun z => absurd z (by decide), fun _ => take q (Or.inl c)⟩) (fun q => ⟨fun _ => skip (Or.inl q), fun z => absurd rfl z⟩), fun c => ⟨fun c2 => skip (Or.inr ⟨c, c2⟩), fun c2 => c_isPlan hL2 hW hs3 w6 w7 hg2 hb2 (fun q => ⟨fun z => absurd z (by decide), fun _ => take q (Or.inr c2)⟩) (fun q => ⟨fun _ => skip (Or.inl q), fun z => absurd rfl z⟩)⟩⟩
        | succ j2 ih2 =>
          intro U N2 hj e1 e2 e3 e4 hr0 eU
          have hr1 := hr0 (by omega)
          have hq : k / nr ^ (nl - (j2 + 1)) < 2147483648 := by
            have := Nat.div_le_self k (nr ^ (nl - (j2 + 1)))
            omega
          have ed : k / nr ^ (nl - (j2 + 1)) % nr = dg nr nl k j2 := by unfold dg; rw [show nl - (j2 + 1) = nl - 1 - j2 by omega]
          have eq : k / nr ^ (nl - (j2 + 1)) / nr = k / nr ^ (nl - j2) := by
            rw [Nat.div_div_eq_div_mul, ← Nat.pow_succ, show (nl - (j2 + 1)).succ = nl - j2 by omega]
          have hdl : dg nr nl k j2 < nr := Nat.mod_lt _ hr1
          have st := ih2 (U ||| 2 ^ dg nr nl k j2) (wI N2 60 j2 (nI (dg nr nl k j2))) (by omega) (e1.tr ⟨fun q c => wI_ne (show q ≠ 60 by omega), rfl⟩) ((wI_ne (by decide)).trans e2) ((wI_ne (by decide)).trans e3) (fun l h1 h2 => by
            by_cases e : l = j2
            · subst e; simp [rI]
            · simp [rI, e, e4 l (by omega) h2]) hr0 (by
            rw [← eU, orb, Nat.or_assoc, Nat.or_comm (2 ^ dg nr nl k j2)])
          refine z_X9_layPlan_56 ?_
          rw [nI_pred, hN4 N2 e1, pk_rem hq hr1 (by omega), pk_div hq hr1 (by omega), ed, eq, nI_clamp (by omega), bit1 _ (by omega), fa_or]
          have hz : ¬ nI nr = 0 := nI_ne0 (by omega) (by omega)
          have em : nI j2 + (-1) = nI j2 - 1 := (Int32.sub_eq_add_neg (nI j2) 1).symm
          rw [em]
          have hv6 : vp_in (nI j2) 6 := vp_in_nI (by omega) (by decide)
          refine ⟨fun c => absurd c (nI_pos (by omega)), fun _ => ⟨hz, hv6, hz, hv6, st⟩⟩
      have hr0 : 0 < nl → 0 < nr := by
        intro z
        cases nr with
        | zero => rw [Nat.zero_pow z] at hk; omega
        | succ _ => omega
      have := digs nl 0 N (Nat.le_refl _) g1 rfl rfl (fun l h1 h2 => absurd h2 (by omega)) hr0 (by rw [Nat.zero_or])
      rw [Nat.sub_self, Nat.pow_zero, Nat.div_one] at this
      exact this
  have pw : ∀ (j k : Nat), k + j = nl → lp_X9_layPlan_9 (d + 4) M0 (nI (nr ^ k)) (nI k) K := by
    intro j
    induction j with
    | zero =>
      intro k hk
      have : k = nl := by omega
      subst this
      refine z_X9_layPlan_9 ?_
      rw [hN5 M0 f1]
      exact ⟨fun _ => ways (nr ^ k) 0 (-1) M0 (by omega) f1 f2 (Or.inl ⟨rfl, fun x hx => absurd hx (by omega)⟩), fun c => absurd (nI_le (by omega) (by omega)) c⟩
    | succ j ih =>
      intro k hk
      refine z_X9_layPlan_9 ?_
      rw [hN5 M0 f1, hN4 M0 f1, pk_mul, ← Nat.pow_succ, nI_1]
      exact ⟨fun c => absurd c (nI_ge (by omega) (by omega)), fun _ => ih (k + 1) (by omega)⟩
  exact pw nl 0 (by omega)
theorem c_makePlan {K : Int32 → Mm → Prop} (hC : BkC M b w sg nr num) (hB : BkW b w sg nr num) (hL : LtC M nl pl bo) (hW : LtW nr nl pl bo) (hs : s < 2) (hK : ∀ F r M1, ScC M M1 → M1.1 26 0 = nI F → ((r = 0 ∧ ∀ g, ¬ plP (nbB sg pl) (lkS b w s num) nr nl g) ∨ (r = 1 ∧ ∃ g, plS (nbB sg pl) (lkS b w s num) nr nl g ∧ F = pc8 (orb g nl) ∧ ∀ l, l < nl → M1.1 27 l = nI (g l))) → K r M1) : ACi (d + 10) X4_makePlan [.ref 26, .ref 3, .ref 13, .int (nI s)] M K := by
  have hn := hW.1
  have w6 := hB.2.2.2.2.2.1
  have w7 := hB.2.2.2.2.2.2.1
  have hp8 : ∀ x, pc8 x ≤ 8 := fun x => by unfold pc8; omega
  refine w_X4_makePlan (c_compare hC hB hs (fun M0 f1 f2 f3 => ?_))
  have h13 : M0.1 13 0 = nI nl := by rw [f1.1 13 (by decide)]; exact hL.1
  rw [h13]
  have key : ∀ (j k : Nat) (N : Mm), k + j = nl → ScC M N → N.1 26 2 = nI nl → N.1 26 3 = nI nr → (∀ r, r < nr → N.1 30 r = nI (sbN b w s nr num r)) → (∀ l, l < k → N.1 29 l = nI (bsN (nbB sg pl l) nl)) → lp_X4_makePlan_17 (d + 9) N (nI k) K := by
    intro j
    induction j with
    | zero =>
      intro k N hk g1 g2 g3 g4 g5
      have : k = nl := by omega
      subst this
      refine z_X4_makePlan_17 ?_
      rw [g2]
      refine ⟨fun _ => ?_, fun c => absurd (nI_le (by omega) (by omega)) c⟩
      have call := c_choose (nl := k) (nr := nr) (nb := nbB sg pl) (lk := lkS b w s num) (nbs := fun l => bsN (nbB sg pl l) k) (sb := sbN b w s nr num) hn w7 (fun r => sb256 w7) (fun l => Nat.lt_of_lt_of_le (bsN_lt _ _) (show 2 ^ k ≤ 2 ^ 6 from Nat.pow_le_pow_right (by decide) hn)) (fun a c ha hc => by
        unfold bitT
        rw [bsN_bit]
        constructor
        · intro z
          cases q : nbB sg pl a c with
          | true => rfl
          | false => rw [if_neg (fun y => by rw [q] at y; exact absurd y.2 (by decide))] at z; exact absurd z (by decide)
        · intro z; rw [if_pos ⟨hc, z⟩]) (fun r o hr ho => by
        unfold bitT sbN
        rw [bsN_bit]
        dsimp only [lkS]
        constructor
        · intro z
          cases q : lkB b w (num r) (num o) s with
          | true => rfl
          | false => rw [if_neg (fun y => by rw [q] at y; exact absurd y.2 (by decide))] at z; exact absurd z (by decide)
        · intro z; rw [if_pos ⟨ho, z⟩]) (fun r o _ _ => lkB_sym) k 0 (by omega) (d + 9 - (k + 2)) (wI N 26 0 9) (fun _ => 0) 9
      rw [show d + 9 - (k + 2) + k + 2 = d + 9 by omega] at call
      refine call _ ⟨by simp [rI, g2], by simp [rI, g3], fun l hl => by simp [rI, g5 l hl], fun r hr => by simp [rI, g4 r hr]⟩ (by simp [rI]; rfl) (by decide) (by decide) (fun l hl => absurd hl (by omega)) (fun a ha => absurd ha (by omega)) (fun B F' M1 hf hR => ?_)
      obtain ⟨r1, r2, r3, r4, r5, r6⟩ := hR
      have hsc : ScC M M1 := g1.tr ⟨fun q c => (hf.2.1 q (by omega) (by omega) (by omega)).trans (wI_ne (show q ≠ 26 by omega)), hf.1⟩
      rw [r3, show (8 : Int32) = nI 8 from rfl, nI_ltI (by decide) (by omega)]
      refine ⟨fun c => hK F' 0 M1 hsc r3 (Or.inl ⟨rfl, fun g hg => ?_⟩), fun c => hK F' 1 M1 hsc r3 (Or.inr ⟨rfl, ?_⟩)⟩
      · have := r4 g hg (fun l hl => absurd hl (by omega))
        have := hp8 (orb g k)
        omega
      · obtain ⟨g, a1, a2, a3, a4, a5⟩ := r6 (by omega)
        exact ⟨g, ⟨a1, fun h hh => by rw [a3]; exact r4 h hh (fun l hl => absurd hl (by omega)), fun h hh hx => by rw [a3]; exact a5 h hh (fun l hl => absurd hl (by omega)) hx⟩, a3.symm, a4⟩
    | succ j ih =>
      intro k N hk g1 g2 g3 g4 g5
      have hL2 : LtC N nl pl bo := hL.of (by rw [g1.1 13 (by decide)]) (g1.1 14 (by decide)) (g1.1 15 (by decide))
      have h3 : N.1 3 2 = nI sg := by rw [g1.1 3 (by decide)]; exact hC.2.2.1
      refine z_X4_makePlan_17 ?_
      rw [g2, h3, nI_1]
      refine ⟨fun c => absurd c (nI_ge (by omega) (by omega)), fun _ => c_neighC hL2 hW w6 (by omega) ⟨vp_in_nI (by omega) (by decide), ?_⟩⟩
      rw [nI_clamp (by omega)]
      refine ih (k + 1) _ (by omega) (g1.tr ⟨fun q c => wI_ne (show q ≠ 29 by omega), rfl⟩) (by simp [rI, g2]) (by simp [rI, g3]) (fun r hr => by simp [rI, g4 r hr]) (fun l hl => ?_)
      by_cases e : l = k
      · subst e; simp [rI]
      · simp [rI, e, g5 l (by omega)]
  exact key nl 0 _ (by omega) (f1.tr ⟨fun q c => wI_ne (show q ≠ 26 by omega), rfl⟩) (by simp [rI]) (by simp [rI, f2]) (fun r hr => by simp [rI, f3 r hr]) (fun l hl => absurd hl (by omega))
end PLM
theorem q_plan {M : Mm} {v1 v2 : Int32} (h : Inv M) : Pr X8_plan X9_plan [.int v1, .int v2] M := by
  have h0 := h
  obtain ⟨b, w, sg, nr, nl, num, u, ps, bs, tp, tb, hc⟩ := h
  obtain ⟨⟨a1, a2, a3⟩, ⟨l1, l2⟩, ⟨-, -, u3⟩, -⟩ := hc
  have hW := u3.2 u (Nat.le_refl _)
  have hn := hW.1
  have w7 := a3.2.2.2.2.2.2.1
  have e1 : (1 : Int32).toInt = 1 := by decide
  have hm1 : ∀ n, n < 100 → ¬ nI n = -1 := fun n hn z => by
    have := congrArg Int32.toInt z
    rw [tN (by omega), show (-1 : Int32).toInt = -1 by decide] at this
    omega
  intro d
  -- the model's answer, behind the class's
  have mid : ∀ s, s < 2 → (v2 = -1 ∨ ∃ l, l < nl ∧ v2 = nI l) → v1 = nI s → ∀ (F : Nat) (r : Int32) M1, ScC M M1 → M1.1 26 0 = nI F → ((r = 0 ∧ ∀ g, ¬ plP (nbB sg (ps u)) (lkS b w s num) nr nl g) ∨ (r = 1 ∧ ∃ g, plS (nbB sg (ps u)) (lkS b w s num) nr nl g ∧ F = pc8 (orb g nl) ∧ ∀ l, l < nl → M1.1 27 l = nI (g l))) → (¬ r = 0 → ((¬ v2 = (-1) → (vp_in v2 6 ∧ ACi (d + 20) X9_plan [.ref 42, .int v1, .int v2] M1 (fun r' M2 => M1.1 27 v2.toNatClampNeg = r' ∧ Inv M2))) ∧ (v2 = (-1) → ACi (d + 20) X9_plan [.ref 42, .int v1, .int v2] M1 (fun r' M2 => M1.1 26 0 = r' ∧ Inv M2)))) ∧ (r = 0 → ACi (d + 20) X9_plan [.ref 42, .int v1, .int v2] M1 (fun r' M2 => -1 = r' ∧ Inv M2)) := by
    intro s hs hv hv1 F r M1 g1 g2 g3
    have hM1 : BkM M1 b w sg nr num := a2.of (fun j _ _ => by rw [g1.1 42 (by decide)]) (g1.1 44 (by decide))
    have hL1 : LtM M1 nl (ps u) (bs u) := l2.of (by rw [g1.1 42 (by decide)]) (g1.1 43 (by decide))
    have fin : ∀ M2, ScM M1 M2 → Inv M2 := fun M2 f => h0.scr (fun q b1 b2 b3 b4 b5 b6 => (f.1 q (by omega)).trans (g1.1 q (by omega))) (by rw [f.2, g1.2]) (by rw [f.1 1 (by decide), g1.1 1 (by decide)]) (fun j _ => by rw [f.1 42 (by decide), g1.1 42 (by decide)])
    -- the model, with what it must find
    have call : ∀ (A : Int32), (∀ (F2 : Int32) (M2 : Mm), ((F2 = -1 ∧ ∀ g, ¬ plP (nbB sg (ps u)) (lkS b w s num) nr nl g) ∨ (∃ g, plS (nbB sg (ps u)) (lkS b w s num) nr nl g ∧ F2 = nI (pc8 (orb g nl)) ∧ ∀ l, l < nl → M2.1 61 l = nI (g l))) → (v2 = (-1) → A = F2) ∧ (¬ v2 = (-1) → ((¬ F2 = (-1) → (vp_in v2 6 ∧ A = M2.1 61 v2.toNatClampNeg)) ∧ (F2 = (-1) → A = F2)))) → ACi (d + 20) X9_plan [.ref 42, .int v1, .int v2] M1 (fun r' M2 => A = r' ∧ Inv M2) := by
      intro A hA
      have lay : ∀ d, ACi (d + 5) X9_layPlan [.ref 42, .int (nI s)] M1 (fun F2 M2 => (v2 = (-1) → (A = F2 ∧ Inv M2)) ∧ (¬ v2 = (-1) → ((¬ F2 = (-1) → (vp_in v2 6 ∧ (A = M2.1 61 v2.toNatClampNeg ∧ Inv M2))) ∧ (F2 = (-1) → (A = F2 ∧ Inv M2))))) := by
        intro d
        refine c_layPlan hM1 a3 hL1 hW hs (fun F2 M2 f1 f2 => ?_)
        have z := hA F2 M2 f2
        have i := fin M2 f1
        exact ⟨fun y => ⟨z.1 y, i⟩, fun y => ⟨fun x => ⟨((z.2 y).1 x).1, ((z.2 y).1 x).2, i⟩, fun x => ⟨(z.2 y).2 x, i⟩⟩⟩
      have at16 : ∀ d, lp_X9_plan_16 (d + 5) M1 v1 v2 (fun r' M2 => A = r' ∧ Inv M2) := by
        intro d
        subst hv1
        match s, hs with
        | 0, _ => exact z_X9_plan_16 (c_in01 (fun _ => ⟨fun _ => ⟨fun _ => lay d, fun z => absurd z (by decide)⟩, fun z => absurd z (by decide)⟩) (fun z => absurd (Or.inl rfl) z))
        | 1, _ => exact z_X9_plan_16 (c_in01 (fun _ => ⟨fun _ => ⟨fun z => absurd rfl z, fun _ => lay d⟩, fun z => absurd z (by decide)⟩) (fun z => absurd (Or.inr rfl) z))
      refine w_X9_plan ⟨fun _ => at16 _, fun c => c_isLight hL1 hn (fun l hl e => ⟨fun _ => at16 _, fun z => absurd z (by decide)⟩) (fun z => ?_)⟩
      rcases hv with q | ⟨l, hl, q⟩
      · exact absurd q c
      · exact absurd q (z l hl)
    rcases g3 with ⟨q1, q2⟩ | ⟨q1, g, q2, q3, q4⟩
    · refine ⟨fun z => absurd q1 z, fun _ => call (-1) (fun F2 M2 f => ?_)⟩
      have e : F2 = -1 := by
        rcases f with ⟨f1, -⟩ | ⟨g, f1, -⟩
        · exact f1
        · exact absurd f1.1 (q2 g)
      exact ⟨fun _ => e.symm, fun _ => ⟨fun z => absurd e z, fun _ => e.symm⟩⟩
    · have same : ∀ (F2 : Int32) (M2 : Mm), ((F2 = -1 ∧ ∀ g, ¬ plP (nbB sg (ps u)) (lkS b w s num) nr nl g) ∨ (∃ g, plS (nbB sg (ps u)) (lkS b w s num) nr nl g ∧ F2 = nI (pc8 (orb g nl)) ∧ ∀ l, l < nl → M2.1 61 l = nI (g l))) → F2 = nI F ∧ ∀ l, l < nl → M2.1 61 l = nI (g l) := by
        rintro F2 M2 (⟨f1, f2⟩ | ⟨g2, f1, f2, f3⟩)
        · exact absurd q2.1 (f2 g)
        · have e := plS_one q2 f1
          rw [f2, q3, orb_cong (g := g) (h := g2) e]
          exact ⟨rfl, fun l hl => by rw [e l hl]; exact f3 l hl⟩
      have hF : F < 100 := by rw [q3]; unfold pc8; omega
      refine ⟨fun _ => ⟨fun c => ?_, fun c => call _ (fun F2 M2 f => ⟨fun _ => by rw [g2]; exact (same F2 M2 f).1.symm, fun z => absurd c z⟩)⟩, fun z => absurd (q1.symm.trans z) (by decide)⟩
      rcases hv with q | ⟨l, hl, rfl⟩
      · exact absurd q c
      · refine ⟨vp_in_nI (by omega) (by decide), ?_⟩
        rw [nI_clamp (by omega), q4 l hl]
        refine call _ (fun F2 M2 f => ⟨fun z => absurd z c, fun _ => ⟨fun _ => ⟨vp_in_nI (by omega) (by decide), ?_⟩, fun z => ?_⟩⟩)
        · rw [nI_clamp (by omega)]; exact ((same F2 M2 f).2 l hl).symm
        · rw [(same F2 M2 f).1] at z; exact absurd z (hm1 F hF)
  have out : (v1.toInt < 0 ∨ 1 < v1.toInt) → (v2 = -1 ∨ ∃ l, l < nl ∧ v2 = nI l) → ∀ d, ACi (d + 9) X9_plan [.ref 42, .int v1, .int v2] M (fun r' M2 => -3 = r' ∧ Inv M2) := by
    intro hz hv d
    have at16 : ∀ d, lp_X9_plan_16 (d + 5) M v1 v2 (fun r' M2 => -3 = r' ∧ Inv M2) := fun d => z_X9_plan_16 (c_in01 (fun z => absurd z (n01 hz)) (fun _ => ⟨fun z => absurd rfl z, fun _ => ⟨rfl, h0⟩⟩))
    refine w_X9_plan ⟨fun _ => at16 _, fun c => c_isLight l2 hn (fun l hl e => ⟨fun _ => at16 _, fun z => absurd z (by decide)⟩) (fun z => ?_)⟩
    rcases hv with q | ⟨l, hl, q⟩
    · exact absurd q c
    · exact absurd q (z l hl)
  refine w_X8_plan ⟨fun cl => ⟨fun c => out (Or.inl (by rw [fa_lt, tI0] at c; exact c)) (Or.inl cl) _, fun c => ⟨fun c2 => ?_, fun c2 => out (Or.inr (by rw [fa_le, e1] at c2; omega)) (Or.inl cl) _⟩⟩, fun cl => c_hasLight l1 hn (fun l hl e => ⟨fun _ => ⟨fun c => out (Or.inl (by rw [fa_lt, tI0] at c; exact c)) (Or.inr ⟨l, hl, e⟩) _, fun c => ⟨fun c2 => ?_, fun c2 => out (Or.inr (by rw [fa_le, e1] at c2; omega)) (Or.inr ⟨l, hl, e⟩) _⟩⟩, fun z => absurd z (by decide)⟩) (fun z => ⟨fun y => absurd rfl y, fun _ => ?_⟩)⟩
  · rw [fa_lt, tI0] at c
    rw [fa_le, e1] at c2
    obtain ⟨s, hs, e⟩ := i_of (x := v1) (n := 2) (by omega) (by omega)
    have m := mid s hs (Or.inl cl) e
    rw [e]
    rw [e] at m
    exact c_makePlan a1 a3 l1 hW hs m
  · rw [fa_lt, tI0] at c
    rw [fa_le, e1] at c2
    obtain ⟨s, hs, e3⟩ := i_of (x := v1) (n := 2) (by omega) (by omega)
    have m := mid s hs (Or.inr ⟨l, hl, e⟩) e3
    rw [e3]
    rw [e3] at m
    exact c_makePlan a1 a3 l1 hW hs m
  · refine w_X9_plan ⟨fun y => absurd y cl, fun _ => c_isLight l2 hn (fun l hl e => absurd e (z l hl)) (fun _ => ⟨fun y => absurd rfl y, fun _ => ⟨rfl, h0⟩⟩)⟩
