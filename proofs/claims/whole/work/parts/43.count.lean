/-! COUNT -/
theorem clB_sym (b w sg : Nat) (num pl : Nat → Nat) (bo : Nat → Option Nat) (l k : Nat) : clB b w sg num pl bo l k = clB b w sg num pl bo k l := by
  unfold clB
  have e : nbB sg pl l k = nbB sg pl k l := by
    unfold nbB
    by_cases h : l ≠ k ∧ pl l ≤ pl k + sg ∧ pl k ≤ pl l + sg
    · rw [decide_eq_true h, decide_eq_true ⟨Ne.symm h.1, h.2.2, h.2.1⟩]
    · rw [decide_eq_false h, decide_eq_false (fun z => h ⟨Ne.symm z.1, z.2.2, z.2.1⟩)]
  rw [e]
  cases bo l with
  | none => cases bo k <;> rfl
  | some r =>
    cases bo k with
    | none => rfl
    | some o => dsimp only; rw [lkB_sym]
theorem clB_irr (b w sg : Nat) (num pl : Nat → Nat) (bo : Nat → Option Nat) (l : Nat) : clB b w sg num pl bo l l = false := by
  unfold clB
  rw [show nbB sg pl l l = false by unfold nbB; simp]
  rfl
theorem both_ends {c : Nat → Nat → Bool} (hs : ∀ l k, c l k = c k l) (hi : ∀ l, c l l = false) : ∀ n, fb_sm (fun l => fb_ct (c l) n) n = 2 * fb_sm (fun a => fb_ct (c a) a) n
  | 0 => rfl
  | n + 1 => by
    have ih := both_ends hs hi n
    have e1 : fb_sm (fun l => fb_ct (c l) (n + 1)) n = fb_sm (fun l => fb_ct (c l) n) n + fb_sm (fun l => if c l n then 1 else 0) n := by
      rw [← fb_sm_add]
      exact fb_sm_cong (fun k hk => rfl)
    have e2 : ∀ m, fb_sm (fun l => if c l n then 1 else 0) m = fb_ct (c n) m := by
      intro m
      induction m with
      | zero => rfl
      | succ m ihm => rw [fb_sm_succ, fb_ct_succ, ihm, hs m n]
    rw [fb_sm_succ, fb_sm_succ, e1, e2, ih, fb_ct_succ, hi n]
    simp
    omega
section CN
variable {d : Nat} {M : Mm} {b w sg nr nl : Nat} {num pl : Nat → Nat} {bo : Nat → Option Nat}
theorem c_clashesC {K : Int32 → Mm → Prop} (hC : BkC M b w sg nr num) (hB : BkW b w sg nr num) (hL : LtC M nl pl bo) (hW : LtW nr nl pl bo) (h : K (nI (fb_sm (fun a => fb_ct (clB b w sg num pl bo a) a) nl)) M) : ACi (d + 6) X8_clashes [.ref 0] M K := by
  have hn := hW.1
  refine w_X8_clashes ?_
  have sl : ∀ k, fb_sm (fun l => fb_ct (clB b w sg num pl bo l) nl) k ≤ k * nl := fun k => fb_sm_bound (fun i _ => fb_ct_le _ _)
  have key : ∀ (j k : Nat), k + j = nl → lp_X8_clashes_4 (d + 5) M (nI (fb_sm (fun l => fb_ct (clB b w sg num pl bo l) nl) k)) (nI k) K := by
    intro j
    induction j with
    | zero =>
      intro k hk
      have : k = nl := by omega
      subst this
      refine z_X8_clashes_4 ?_
      have l : fb_sm (fun l => fb_ct (clB b w sg num pl bo l) k) k < 100 := by
        have := sl k
        have : k * k ≤ 6 * 6 := Nat.mul_le_mul hn hn
        omega
      have e := both_ends (clB_sym b w sg num pl bo) (clB_irr b w sg num pl bo) k
      rw [hL.1, show (1 : Int32) = nI 1 from rfl, shrN (by omega) (by decide), e, show 2 * fb_sm (fun a => fb_ct (clB b w sg num pl bo a) a) k / 2 ^ 1 = fb_sm (fun a => fb_ct (clB b w sg num pl bo a) a) k by omega]
      exact ⟨fun _ => h, fun c => absurd (nI_le (by omega) (by omega)) c⟩
    | succ j ih =>
      intro k hk
      have st := ih (k + 1) (by omega)
      rw [fb_sm_succ] at st
      refine z_X8_clashes_4 ?_
      rw [hL.1, nI_1]
      refine ⟨fun c => absurd c (nI_ge (by omega) (by omega)), fun _ => c_clashC hC hB hL hW (by omega) (w_bc32 _ (bsN_small (by omega)) _ _ _ ?_)⟩
      rw [pc8_ct _ (by omega), nI_add]
      exact st
  exact key nl 0 (by omega)
theorem c_clashesM {K : Int32 → Mm → Prop} (hM : BkM M b w sg nr num) (hB : BkW b w sg nr num) (hL : LtM M nl pl bo) (hW : LtW nr nl pl bo) (h : K (nI (fb_sm (fun a => fb_ct (clB b w sg num pl bo a) a) nl)) M) : ACi (d + 5) X9_clashes [.ref 42] M K := by
  have hn := hW.1
  refine w_X9_clashes ?_
  have key : ∀ (j k : Nat), k + j = nl → lp_X9_clashes_4 (d + 4) M (nI (fb_sm (fun a => fb_ct (clB b w sg num pl bo a) a) k)) (nI k) K := by
    intro j
    induction j with
    | zero =>
      intro k hk
      have : k = nl := by omega
      subst this
      refine z_X9_clashes_4 ?_
      rw [hL.1]
      exact ⟨fun _ => h, fun c => absurd (nI_le (by omega) (by omega)) c⟩
    | succ j ih =>
      intro k hk
      have st := ih (k + 1) (by omega)
      rw [fb_sm_succ] at st
      refine z_X9_clashes_4 ?_
      rw [hL.1]
      refine ⟨fun c => absurd c (nI_ge (by omega) (by omega)), fun _ => ?_⟩
      have inner : ∀ (j2 c : Nat), c + j2 = k → lp_X9_clashes_14 (d + 4) M (nI (fb_sm (fun a => fb_ct (clB b w sg num pl bo a) a) k + fb_ct (clB b w sg num pl bo k) c)) (nI k) (nI c) K := by
        intro j2
        induction j2 with
        | zero =>
          intro c hc
          have : c = k := by omega
          subst this
          refine z_X9_clashes_14 ⟨fun _ => ?_, fun z => absurd (nI_le (by omega) (by omega)) z⟩
          rw [nI_1]
          exact st
        | succ j2 ih2 =>
          intro c hc
          have st2 := ih2 (c + 1) (by omega)
          rw [fb_ct_succ] at st2
          refine z_X9_clashes_14 ⟨fun z => absurd z (nI_ge (by omega) (by omega)), fun _ => ?_⟩
          rw [nI_1 c, nI_1 (fb_sm _ _ + _), show ∀ n, nI n + 0 = nI n from fun n => nI_add n 0]
          refine c_doClash hM hB hL hW (by omega) (by omega) (fun q => ⟨fun z => absurd z (by decide), fun _ => ?_⟩) (fun q => ⟨fun _ => ?_, fun z => absurd rfl z⟩)
          · rw [q, if_pos rfl, ← Nat.add_assoc] at st2; exact st2
          · rw [q, if_neg (by decide), Nat.add_zero] at st2; exact st2
      exact inner k 0 (by omega)
  exact key nl 0 (by omega)
theorem c_pairsLeft {K : Int32 → Mm → Prop} {f : Nat → Bool} (h1 : M.1 42 11 = 1) (h2 : ∀ p, p < 48 → M.1 47 p = (if f p then 1 else 0)) (h : K (nI (fb_ct f 48)) M) : ACi (d + 1) X9_pairsLeft [.ref 42] M K := by
  refine w_X9_pairsLeft ?_
  have key : ∀ (j k : Nat), k + j = 48 → lp_X9_pairsLeft_4 d M (nI (fb_ct f k)) (nI k) K := by
    intro j
    induction j with
    | zero =>
      intro k hk
      have : k = 48 := by omega
      subst this
      exact z_X9_pairsLeft_4 ⟨fun _ => h, fun c => absurd (by decide) c⟩
    | succ j ih =>
      intro k hk
      have st := ih (k + 1) (by omega)
      rw [fb_ct_succ] at st
      refine z_X9_pairsLeft_4 ⟨fun c => absurd c (nI_ge (b := 48) (by omega) (by omega)), fun _ => ⟨fun c => absurd (h1.symm.trans c) (by decide), fun _ => ⟨vp_in_nI (by omega) (by decide), ?_⟩⟩⟩
      rw [nI_clamp (by omega), h2 k (by omega), nI_1 k, nI_1 (fb_ct f k), show ∀ n, nI n + 0 = nI n from fun n => nI_add n 0]
      cases q : f k with
      | true => rw [q] at st; exact ⟨fun z => absurd z (by decide), fun _ => st⟩
      | false => rw [q] at st; exact ⟨fun _ => st, fun z => absurd rfl z⟩
  exact key 48 0 (by omega)
theorem c_pairsLeft0 {K : Int32 → Mm → Prop} (h1 : M.1 42 11 = 0) (h : K 0 M) : ACi (d + 1) X9_pairsLeft [.ref 42] M K := by
  refine w_X9_pairsLeft ?_
  have key : ∀ (j k : Nat), k + j = 48 → lp_X9_pairsLeft_4 d M 0 (nI k) K := by
    intro j
    induction j with
    | zero =>
      intro k hk
      have : k = 48 := by omega
      subst this
      exact z_X9_pairsLeft_4 ⟨fun _ => h, fun c => absurd (by decide) c⟩
    | succ j ih =>
      intro k hk
      have st := ih (k + 1) (by omega)
      refine z_X9_pairsLeft_4 ⟨fun c => absurd c (nI_ge (b := 48) (by omega) (by omega)), fun _ => ⟨fun _ => ?_, fun c => absurd h1 c⟩⟩
      rw [nI_1]
      exact st
  exact key 48 0 (by omega)
/-- the watch's number of pairs, both sides -/
theorem watch_n (h : WatchI M b nl bo) : ∃ n, (∀ (d : Nat) (K : Int32 → Mm → Prop), K (nI n) M → ACi (d + 2) X7_size [.ref 34] M K) ∧ ∀ (d : Nat) (K : Int32 → Mm → Prop), K (nI n) M → ACi (d + 1) X9_pairsLeft [.ref 42] M K := by
  rcases h with ⟨h1, h2, h3⟩ | ⟨T, lf, ms, h⟩
  · refine ⟨0, fun d K hk => w_size (f := fun _ => false) (by rw [h2]; decide) ?_, fun d K hk => c_pairsLeft0 h3 hk⟩
    have : fb_ct (fun _ => false) 48 = 0 := by decide
    rw [this]; exact hk
  · obtain ⟨h0, h1, h2, h3, h4, h5, h6, h7, h8, h9⟩ := h
    exact ⟨fb_ct lf 48, fun d K hk => w_size h6 hk, fun d K hk => c_pairsLeft h2 h8 hk⟩
theorem tapes_n (h : TapesI M) : ∃ n, (∀ (d : Nat) (K : Int32 → Mm → Prop), K n M → ACi (d + 2) X8_numbersOnTapes [.ref 0] M K) ∧ ∀ (d : Nat) (K : Int32 → Mm → Prop), K n M → ACi (d + 1) X9_allNumbers [.ref 42] M K := by
  have sz : ∀ t, t < 3 → ∃ m, m ≤ 12 ∧ M.1 (36 + 2 * t) 1 = nI m ∧ ((0 ≤ M.1 50 t ∧ M.1 50 t = nI m) ∨ (¬ 0 ≤ M.1 50 t ∧ m = 0)) := by
    intro t ht
    obtain ⟨hr, xs, h1, h2, h3, -⟩ := h t ht
    refine ⟨xs.length, h1.2.2.1, h1.2.1, ?_⟩
    have := h2.1
    have h12 := h1.2.2.1
    cases hr with
    | true => rw [if_pos rfl] at this; refine Or.inl ⟨?_, this⟩; rw [this, fa_le, tI0, tN (by omega)]; omega
    | false => rw [if_neg (by decide)] at this; refine Or.inr ⟨?_, by rw [h3 rfl]; rfl⟩; rw [this]; decide
  obtain ⟨m0, a1, a2, a3⟩ := sz 0 (by decide)
  obtain ⟨m1, b1, b2, b3⟩ := sz 1 (by decide)
  obtain ⟨m2, c1, c2, c3⟩ := sz 2 (by decide)
  have ms : ∀ t, t < 3 → ∃ m, (t = 0 → m = m0) ∧ (t = 1 → m = m1) ∧ (t = 2 → m = m2) ∧ M.1 (36 + 2 * t) 1 = nI m ∧ ((0 ≤ M.1 50 t ∧ M.1 50 t = nI m) ∨ (¬ 0 ≤ M.1 50 t ∧ m = 0)) := by
    intro t ht
    match t, ht with
    | 0, _ => exact ⟨m0, fun _ => rfl, fun z => absurd z (by decide), fun z => absurd z (by decide), a2, a3⟩
    | 1, _ => exact ⟨m1, fun z => absurd z (by decide), fun _ => rfl, fun z => absurd z (by decide), b2, b3⟩
    | 2, _ => exact ⟨m2, fun z => absurd z (by decide), fun z => absurd z (by decide), fun _ => rfl, c2, c3⟩
  have tp : ∀ t, t < 3 → isTp (36 + 2 * t) := by
    intro t ht
    match t, ht with
    | 0, _ => exact Or.inl rfl
    | 1, _ => exact Or.inr (Or.inl rfl)
    | 2, _ => exact Or.inr (Or.inr rfl)
  refine ⟨nI (m0 + m1 + m2), fun d K hk => ?_, fun d K hk => ?_⟩
  · refine w_X8_numbersOnTapes ?_
    have stp : ∀ t v, t < 3 → (∀ m, (t = 0 → m = m0) → (t = 1 → m = m1) → (t = 2 → m = m2) → lp_X8_numbersOnTapes_4 (d + 1) M (nI (v + m)) (nI (t + 1)) K) → lp_X8_numbersOnTapes_4 (d + 1) M (nI v) (nI t) K := by
      intro t v ht hh
      obtain ⟨m, x0, x1, x2, x3, -⟩ := ms t ht
      refine z_X8_numbersOnTapes_4 ⟨fun c => absurd c (nI_ge (b := 3) (by omega) (by omega)), fun _ => c_tapeAt (fun t' ht' e => ⟨fun z => absurd z (by simp), fun a ha => ?_⟩) (fun z => ?_)⟩
      · have : t = t' := (nI_eq (by omega) (by omega)).mp e
        subst this
        cases ha
        rw [x3, nI_add, nI_1]
        exact ⟨tp t ht, hh m x0 x1 x2⟩
      · rw [tN (by omega)] at z; omega
    refine stp 0 0 (by decide) (fun m z0 _ _ => stp 1 _ (by decide) (fun m' _ z1 _ => stp 2 _ (by decide) (fun m'' _ _ z2 => z_X8_numbersOnTapes_4 ⟨fun _ => ?_, fun c => absurd (by decide) c⟩)))
    rw [z0 rfl, z1 rfl, z2 rfl, Nat.zero_add]
    exact hk
  · refine w_X9_allNumbers ?_
    have stp : ∀ t v, t < 3 → (∀ m, (t = 0 → m = m0) → (t = 1 → m = m1) → (t = 2 → m = m2) → lp_X9_allNumbers_4 d M (nI (v + m)) (nI (t + 1)) K) → lp_X9_allNumbers_4 d M (nI v) (nI t) K := by
      intro t v ht hh
      obtain ⟨m, x0, x1, x2, -, x3⟩ := ms t ht
      refine z_X9_allNumbers_4 ⟨fun c => absurd c (nI_ge (b := 3) (by omega) (by omega)), fun _ => ⟨vp_in_nI (by omega) (by decide), ?_⟩⟩
      rw [nI_clamp (by omega), nI_1]
      rcases x3 with ⟨q1, q2⟩ | ⟨q1, q2⟩
      · refine ⟨fun _ => ⟨vp_in_nI (by omega) (by decide), ?_⟩, fun z => absurd q1 z⟩
        rw [q2, nI_add]
        exact hh m x0 x1 x2
      · refine ⟨fun z => absurd z q1, fun _ => ?_⟩
        rw [show nI v + 0 = nI (v + 0) from nI_add v 0]
        have := hh m x0 x1 x2
        rw [q2] at this
        exact this
    refine stp 0 0 (by decide) (fun m z0 _ _ => stp 1 _ (by decide) (fun m' _ z1 _ => stp 2 _ (by decide) (fun m'' _ _ z2 => z_X9_allNumbers_4 ⟨fun _ => ?_, fun c => absurd (by decide) c⟩)))
    rw [z0 rfl, z1 rfl, z2 rfl, Nat.zero_add]
    exact hk
end CN
theorem q_count {M : Mm} {v1 : Int32} (h : Inv M) : Pr X8_count X9_count [.int v1] M := by
  have h0 := h
  obtain ⟨b, w, sg, nr, nl, num, u, ps, bs, tp, tb, hc⟩ := h
  obtain ⟨⟨a1, a2, a3⟩, ⟨l1, l2⟩, ⟨u1, u2, u3⟩, -, -, wa, tt, tx, -⟩ := hc
  obtain ⟨n, tx, t1, t2, t3, -⟩ := tx
  have hW := u3.2 u (Nat.le_refl _)
  have w7 := a3.2.2.2.2.2.2.1
  obtain ⟨wn, wn1, wn2⟩ := watch_n wa
  obtain ⟨tn, tn1, tn2⟩ := tapes_n tt
  have ex : ∃ y : Int32, (v1 = 0 → y = nI b) ∧ (v1 = 1 → y = nI w) ∧ (v1 = 2 → y = nI sg) ∧ (v1 = 3 → y = nI nr) ∧ (v1 = 4 → y = nI nl) ∧ (v1 = 5 → y = nI (bsN (ltB (bs u)) nl)) ∧ (v1 = 6 → y = nI (fb_sm (fun a => fb_ct (clB b w sg num (ps u) (bs u) a) a) nl)) ∧ (v1 = 7 → y = nI wn) ∧ (v1 = 8 → y = tn) ∧ (v1 = 9 → y = nI u) ∧ (v1 = 10 → y = nI n) ∧ (v1 < 0 ∨ nI 10 < v1 → y = -3) := by
    refine ⟨if v1 = 0 then nI b else if v1 = 1 then nI w else if v1 = 2 then nI sg else if v1 = 3 then nI nr else if v1 = 4 then nI nl else if v1 = 5 then nI (bsN (ltB (bs u)) nl) else if v1 = 6 then nI (fb_sm (fun a => fb_ct (clB b w sg num (ps u) (bs u) a) a) nl) else if v1 = 7 then nI wn else if v1 = 8 then tn else if v1 = 9 then nI u else if v1 = 10 then nI n else -3, ?_⟩
    refine ⟨fun e => by subst e; rfl, fun e => by subst e; rfl, fun e => by subst e; rfl, fun e => by subst e; rfl, fun e => by subst e; rfl, fun e => by subst e; rfl, fun e => by subst e; rfl, fun e => by subst e; rfl, fun e => by subst e; rfl, fun e => by subst e; rfl, fun e => by subst e; rfl, fun hz => ?_⟩
    have ng : ∀ x : Int32, ¬ (x < 0 ∨ nI 10 < x) → ¬ v1 = x := fun x hx e => hx (e ▸ hz)
    rw [if_neg (ng 0 (by decide)), if_neg (ng 1 (by decide)), if_neg (ng 2 (by decide)), if_neg (ng 3 (by decide)), if_neg (ng 4 (by decide)), if_neg (ng 5 (by decide)), if_neg (ng 6 (by decide)), if_neg (ng 7 (by decide)), if_neg (ng 8 (by decide)), if_neg (ng 9 (by decide)), if_neg (ng 10 (by decide))]
  obtain ⟨y, y0, y1, y2, y3, y4, y5, y6, y7, y8, y9, y10, yo⟩ := ex
  have modl : ∀ d, ACi (d + 9) X9_count [.ref 42, .int v1] M (fun r' M2 => y = r' ∧ Inv M2) := by
    intro d
    refine w_X9_count ⟨fun e => ⟨(y0 e).trans a2.1.symm, h0⟩, fun e => ⟨(y1 e).trans a2.2.1.symm, h0⟩, fun e => ⟨(y2 e).trans a2.2.2.1.symm, h0⟩, fun e => ⟨(y3 e).trans a2.2.2.2.1.symm, h0⟩, fun e => ⟨(y4 e).trans l2.1.symm, h0⟩, fun e => c_litM l2 hW w7 ⟨y5 e, h0⟩, fun e => c_clashesM a2 a3 l2 hW ⟨y6 e, h0⟩, fun e => wn2 _ _ ⟨y7 e, h0⟩, fun e => tn2 _ _ ⟨y8 e, h0⟩, fun e => ⟨(y9 e).trans u2.1.symm, h0⟩, fun e => ⟨(y10 e).trans t3.symm, h0⟩, fun e => ⟨yo e, h0⟩⟩
  intro d
  have fin : ∀ x, x = y → ACi (d + 20) X9_count [.ref 42, .int v1] M (fun r' M2 => x = r' ∧ Inv M2) := fun x e => by rw [e]; exact modl _
  refine w_X8_count ⟨fun e => fin _ (a1.1.trans (y0 e).symm), fun e => fin _ (a1.2.1.trans (y1 e).symm), fun e => fin _ (a1.2.2.1.trans (y2 e).symm), fun e => fin _ (a1.2.2.2.1.trans (y3 e).symm), fun e => fin _ (l1.1.trans (y4 e).symm), fun e => c_litC l1 hW w7 (fin _ (y5 e).symm), fun e => c_clashesC a1 a3 l1 hW (fin _ (y6 e).symm), fun e => wn1 _ _ (fin _ (y7 e).symm), fun e => tn1 _ _ (fin _ (y8 e).symm), fun e => fin _ (u1.1.trans (y9 e).symm), fun e => fin _ (t2.trans (y10 e).symm), fun e => fin _ (yo e).symm⟩
