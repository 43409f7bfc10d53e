/-! LIGHTS: neighbours, clashes, those that are lit. -/
def oi : Option Nat → Int32
  | none => -1
  | some r => nI r
def LtC (M : Mm) (nl : Nat) (pl : Nat → Nat) (bo : Nat → Option Nat) : Prop := M.1 13 0 = nI nl ∧ ∀ i, i < nl → M.1 14 i = nI (pl i) ∧ M.1 15 i = oi (bo i)
def LtM (M : Mm) (nl : Nat) (pl : Nat → Nat) (bo : Nat → Option Nat) : Prop := M.1 42 5 = nI nl ∧ ∀ i, i < nl → M.1 43 i = nI (pl i) ∧ M.1 43 (6 + i) = oi (bo i)
def LtW (nr nl : Nat) (pl : Nat → Nat) (bo : Nat → Option Nat) : Prop := nl ≤ 6 ∧ ∀ i, i < nl → pl i ≤ 99 ∧ ∀ r, bo i = some r → r < nr
def nbB (sg : Nat) (pl : Nat → Nat) (l k : Nat) : Bool := decide (l ≠ k ∧ pl l ≤ pl k + sg ∧ pl k ≤ pl l + sg)
noncomputable def clB (b w sg : Nat) (num : Nat → Nat) (pl : Nat → Nat) (bo : Nat → Option Nat) (l k : Nat) : Bool := nbB sg pl l k && (match bo l, bo k with
  | some r, some o => lkB b w (num r) (num o) 0
  | _, _ => false)
theorem oi_none {o : Option Nat} (h : ∀ r, o = some r → r < 8) : oi o = -1 ↔ o = none := by
  cases o with
  | none => exact ⟨fun _ => rfl, fun _ => rfl⟩
  | some r =>
    have hr := h r rfl
    refine ⟨fun z => ?_, fun z => by cases z⟩
    have := congrArg Int32.toInt z
    rw [oi, tN (by omega), show (-1 : Int32).toInt = -1 by decide] at this
    omega
theorem absI {a c sg : Nat} (ha : a ≤ 99) (hc : c ≤ 99) (hs : sg ≤ 99) : (nI sg < (if 0 ≤ nI a - nI c then nI a - nI c else 0 - (nI a - nI c))) ↔ ¬ (a ≤ c + sg ∧ c ≤ a + sg) := by
  have e : (nI a - nI c).toInt = (a : Int) - c := pk_sub_toInt (by omega) (by omega)
  have e0 : (0 - (nI a - nI c)).toInt = -((a : Int) - c) := by rw [fb_subI (by rw [e, tI0]; omega) (by rw [e, tI0]; omega), e, tI0]; omega
  rw [fa_lt, tN (by omega)]
  split
  · rename_i h
    rw [fa_le, tI0, e] at h
    rw [e]; omega
  · rename_i h
    rw [fa_le, tI0, e] at h
    rw [e0]; omega
theorem or0 (x : Int32) : x ||| 0 = x := by simp
section LT
variable {d : Nat} {M : Mm} {b w sg nr nl : Nat} {num pl : Nat → Nat} {bo : Nat → Option Nat}
theorem c_hasLight {K : Int32 → Mm → Prop} {x : Int32} (hL : LtC M nl pl bo) (hn : nl ≤ 6) (h1 : ∀ r, r < nl → x = nI r → K 1 M) (h0 : (∀ r, r < nl → ¬ x = nI r) → K 0 M) : ACi (d + 1) X2_hasLight [.ref 13, .int x] M K := by
  refine w_X2_hasLight ?_
  rw [hL.1]
  have tn : (nI nl).toInt = nl := tN (by omega)
  refine ⟨fun c => h0 (fun r hr e => ?_), fun c => ⟨fun c2 => h0 (fun r hr e => ?_), fun c2 => ?_⟩⟩
  · rw [e] at c; exact nI_pos (by omega) c
  · rw [e] at c2; exact nI_ge hr (by omega) c2
  · rw [fa_lt, tI0] at c
    rw [fa_le, tn] at c2
    obtain ⟨r, hr, e⟩ := i_of (x := x) (n := nl) (by omega) (by omega)
    exact h1 r hr e
theorem c_isLight {K : Int32 → Mm → Prop} {x : Int32} (hL : LtM M nl pl bo) (hn : nl ≤ 6) (h1 : ∀ r, r < nl → x = nI r → K 1 M) (h0 : (∀ r, r < nl → ¬ x = nI r) → K 0 M) : ACi (d + 2) X9_isLight [.ref 42, .int x] M K := by
  refine w_X9_isLight ?_
  rw [hL.1]
  have e : (nI nl - 1).toInt64.toInt = (nl : Int) - 1 := by
    rw [Int32.toInt_toInt64, show (1 : Int32) = nI 1 from rfl, pk_sub_toInt (by omega) (by decide)]; rfl
  refine c_in (l := 0) (u := (nl : Int) - 1) (by decide) e (fun a b => ⟨Or.inr rfl, ?_⟩) (fun a => ⟨Or.inl rfl, h0 (fun r hr e => ?_)⟩)
  · obtain ⟨r, hr, e⟩ := i_of (x := x) (n := nl) a (by omega)
    exact h1 r hr e
  · rw [e, tN (by omega)] at a
    omega
theorem c_neighC {K : Int32 → Mm → Prop} {l : Nat} (hL : LtC M nl pl bo) (hW : LtW nr nl pl bo) (hs : sg ≤ 99) (hl : l < nl) (h : K (nI (bsN (nbB sg pl l) nl)) M) : ACi (d + 1) X2_neighbours [.ref 13, .int (nI l), .int (nI sg)] M K := by
  have hn := hW.1
  refine w_X2_neighbours ?_
  have key : ∀ (j k : Nat), k + j = nl → lp_X2_neighbours_5 d M (nI l) (nI sg) (nI (bsN (nbB sg pl l) k)) (nI k) K := by
    intro j
    induction j with
    | zero =>
      intro k hk
      have : k = nl := by omega
      subst this
      refine z_X2_neighbours_5 ?_
      rw [hL.1]
      exact ⟨fun _ => h, fun c => absurd (nI_le (by omega) (by omega)) c⟩
    | succ j ih =>
      intro k hk
      have st := ih (k + 1) (by omega)
      rw [bsN] at st
      refine z_X2_neighbours_5 ?_
      rw [hL.1, nI_1]
      refine ⟨fun c => absurd c (nI_ge (by omega) (by omega)), fun _ => ?_⟩
      rw [nI_eq (by omega) (by omega)]
      refine ⟨fun e => ?_, fun e => ⟨vp_in_nI (by omega) (by decide), vp_in_nI (by omega) (by decide), ?_⟩⟩
      · rw [show nbB sg pl l k = false by unfold nbB; simp [e], if_neg (by decide), Nat.add_zero] at st
        exact st
      · rw [nI_clamp (by omega), nI_clamp (by omega), (hL.2 k (by omega)).1, (hL.2 l hl).1, absI (hW.2 k (by omega)).1 (hW.2 l hl).1 hs, bit1 k (by omega), bsN_or]
        refine ⟨fun q => ?_, fun q => ?_⟩
        · rw [show nbB sg pl l k = false by unfold nbB; exact decide_eq_false (fun z => q ⟨z.2.2, z.2.1⟩), if_neg (by decide), Nat.add_zero] at st
          exact st
        · have q := Classical.not_not.mp q
          rw [show nbB sg pl l k = true by unfold nbB; exact decide_eq_true ⟨fun z => e z.symm, q.2, q.1⟩, if_pos rfl] at st
          exact st
  exact key nl 0 (by omega)
theorem z0 (x : Int32) : 0 + x = x := by simp
theorem c_neighM {K : Int32 → Mm → Prop} {l k : Nat} (hL : LtM M nl pl bo) (hW : LtW nr nl pl bo) (hs : M.1 42 3 = nI sg) (hs2 : sg ≤ 99) (hl : l < nl) (hk : k < nl) (h1 : nbB sg pl l k = true → K 1 M) (h0 : nbB sg pl l k = false → K 0 M) : ACi (d + 2) X9_areNeighbours [.ref 42, .int (nI l), .int (nI k)] M K := by
  have hn := hW.1
  refine w_X9_areNeighbours ?_
  rw [nI_eq (by omega) (by omega), z0, z0, nI_clamp (by omega), nI_clamp (by omega), (hL.2 k hk).1, (hL.2 l hl).1, hs]
  refine ⟨fun e => h0 (by unfold nbB; simp [e]), fun e => ⟨vp_in_nI (by omega) (by decide), vp_in_nI (by omega) (by decide), ?_⟩⟩
  have ha := (hW.2 l hl).1
  have hb := (hW.2 k hk).1
  have ex : (nI (pl l) - nI (pl k)).toInt = (pl l : Int) - pl k := pk_sub_toInt (by omega) (by omega)
  have e1 : (-(nI sg)).toInt64.toInt = -(sg : Int) := by rw [Int32.toInt_toInt64, fb_negI (by rw [tN (by omega)]; omega), tN (by omega)]
  have e2 : (nI sg).toInt64.toInt = (sg : Int) := by rw [Int32.toInt_toInt64, tN (by omega)]
  refine c_in (l := -(sg : Int)) (u := sg) e1 e2 (fun a b => ⟨fun z => absurd z (by decide), fun _ => h1 ?_⟩) (fun a => ⟨fun _ => h0 ?_, fun z => absurd rfl z⟩)
  · rw [ex] at a b
    unfold nbB
    exact decide_eq_true ⟨e, by omega, by omega⟩
  · rw [ex] at a
    unfold nbB
    exact decide_eq_false (fun z => by omega)
theorem c_clashC {K : Int32 → Mm → Prop} {l : Nat} (hC : BkC M b w sg nr num) (hB : BkW b w sg nr num) (hL : LtC M nl pl bo) (hW : LtW nr nl pl bo) (hl : l < nl) (h : K (nI (bsN (clB b w sg num pl bo l) nl)) M) : ACi (d + 5) X8_clashing [.ref 0, .int (nI l)] M K := by
  have hn := hW.1
  have w6 := hB.2.2.2.2.2.1
  have w7 := hB.2.2.2.2.2.2.1
  refine w_X8_clashing ?_
  rw [hC.2.2.1]
  refine c_neighC hL hW w6 hl ?_
  have hsm : bsN (nbB sg pl l) nl < 256 := bsN_small (by omega)
  have key : ∀ (j k : Nat), k + j = nl → lp_X8_clashing_21 (d + 4) M (nI l) (nI (bsN (nbB sg pl l) nl)) (nI (bsN (clB b w sg num pl bo l) k)) (nI k) K := by
    intro j
    induction j with
    | zero =>
      intro k hk
      have : k = nl := by omega
      subst this
      refine z_X8_clashing_21 ?_
      rw [hL.1]
      exact ⟨fun _ => h, fun c => absurd (nI_le (by omega) (by omega)) c⟩
    | succ j ih =>
      intro k hk
      have st := ih (k + 1) (by omega)
      rw [bsN] at st
      refine z_X8_clashing_21 ?_
      rw [hL.1, nI_1, shr1 (by omega) (by omega), bsN_bit]
      refine ⟨fun c => absurd c (nI_ge (by omega) (by omega)), fun _ => ⟨fun c => ?_, fun c => ⟨vp_in_nI (by omega) (by decide), vp_in_nI (by omega) (by decide), ?_⟩⟩⟩
      · have hf : nbB sg pl l k = false := by
          cases q : nbB sg pl l k with
          | false => rfl
          | true => rw [if_pos ⟨by omega, q⟩] at c; exact absurd rfl c
        rw [show clB b w sg num pl bo l k = false by unfold clB; rw [hf]; rfl, if_neg (by decide), Nat.add_zero] at st
        exact st
      · have ht : nbB sg pl l k = true := by
          cases q : nbB sg pl l k with
          | true => rfl
          | false => rw [if_neg (fun z => by rw [q] at z; exact absurd z.2 (by decide))] at c; exact absurd c (by decide)
        rw [nI_clamp (by omega), nI_clamp (by omega), (hL.2 l hl).2, (hL.2 k (by omega)).2, bit1 k (by omega), bsN_or]
        have hbl := (hW.2 l hl).2
        have hbk := (hW.2 k (by omega)).2
        refine c_areSuch (s := 0) hC hB (by decide) (fun r o hr ho e1 e2 q => ⟨fun z => absurd z (by decide), fun _ => ?_⟩) (fun q => ⟨fun _ => ?_, fun z => absurd rfl z⟩)
        · have g1 : bo l = some r := by
            cases q1 : bo l with
            | none => rw [q1] at e1; exact absurd ((oi_none (o := some r) (fun r' hr' => by cases hr'; omega)).mp e1.symm) (by simp)
            | some r' => rw [q1] at e1; have := hbl r' q1; rw [(nI_eq (by omega) (by omega)).mp e1]
          have g2 : bo k = some o := by
            cases q1 : bo k with
            | none => rw [q1] at e2; exact absurd ((oi_none (o := some o) (fun r' hr' => by cases hr'; omega)).mp e2.symm) (by simp)
            | some r' => rw [q1] at e2; have := hbk r' q1; rw [(nI_eq (by omega) (by omega)).mp e2]
          rw [show clB b w sg num pl bo l k = true by unfold clB; rw [ht, g1, g2]; simp only [Bool.true_and]; exact lkB_t.mpr q, if_pos rfl] at st
          exact st
        · have hf : clB b w sg num pl bo l k = false := by
            unfold clB
            rw [ht]
            cases q1 : bo l with
            | none => rfl
            | some r =>
              cases q2 : bo k with
              | none => rfl
              | some o =>
                have := q r o (hbl r q1) (hbk o q2) (by rw [q1]; rfl) (by rw [q2]; rfl)
                simp only [Bool.true_and]
                exact lkB_f.mpr this
          rw [hf, if_neg (by decide), Nat.add_zero] at st
          exact st
  exact key nl 0 (by omega)
theorem c_doClash {K : Int32 → Mm → Prop} {l k : Nat} (hM : BkM M b w sg nr num) (hB : BkW b w sg nr num) (hL : LtM M nl pl bo) (hW : LtW nr nl pl bo) (hl : l < nl) (hk : k < nl) (h1 : clB b w sg num pl bo l k = true → K 1 M) (h0 : clB b w sg num pl bo l k = false → K 0 M) : ACi (d + 4) X9_doClash [.ref 42, .int (nI l), .int (nI k)] M K := by
  have hn := hW.1
  have w4 := hB.2.2.2.1
  have w6 := hB.2.2.2.2.2.1
  have w7 := hB.2.2.2.2.2.2.1
  have hbl := (hW.2 l hl).2
  have hbk := (hW.2 k hk).2
  have e6 : ∀ n : Nat, (6 : Int32) + nI n = nI (6 + n) := fun n => nI_add 6 n
  refine w_X9_doClash (c_neighM hL hW hM.2.2.1 w6 hl hk (fun ht => ⟨fun z => absurd z (by decide), fun _ => ?_⟩) (fun hf => ⟨fun _ => h0 (by unfold clB; rw [hf]; rfl), fun z => absurd rfl z⟩))
  rw [e6, e6, nI_clamp (by omega), nI_clamp (by omega), (hL.2 l hl).2, (hL.2 k hk).2, oi_none (fun r hr => by have := hbl r hr; omega), oi_none (fun r hr => by have := hbk r hr; omega)]
  refine ⟨vp_in_nI (by omega) (by decide), fun z => h0 (by unfold clB; rw [z]; simp), fun z => ⟨vp_in_nI (by omega) (by decide), fun z2 => h0 (by unfold clB; rw [z2]; cases bo l <;> simp), fun z2 => ⟨vp_in_nI (by omega) (by decide), vp_in_nI (by omega) (by decide), ?_⟩⟩⟩
  obtain ⟨r, hr⟩ := Option.ne_none_iff_exists'.mp z
  obtain ⟨o, ho⟩ := Option.ne_none_iff_exists'.mp z2
  rw [hr, ho, hM.2.1]
  have cl : clB b w sg num pl bo l k = lkB b w (num r) (num o) 0 := by unfold clB; rw [ht, hr, ho]; simp
  refine c_areLike (s := 0) hM hB (hbl r hr) (hbk o ho) w4 (by decide) (fun q => ⟨fun z => absurd z (by decide), fun _ => h1 (by rw [cl]; exact lkB_t.mpr q)⟩) (fun q => ⟨fun _ => h0 (by rw [cl]; exact lkB_f.mpr q), fun z => absurd rfl z⟩)
theorem c_thoseN {K : Int32 → Mm → Prop} {l : Nat} (hM : BkM M b w sg nr num) (hB : BkW b w sg nr num) (hL : LtM M nl pl bo) (hW : LtW nr nl pl bo) (hl : l < nl) (h : K (nI (bsN (nbB sg pl l) nl)) M) : ACi (d + 3) X9_thoseOf [.ref 42, .int (nI l), .int 0] M K := by
  have hn := hW.1
  have w6 := hB.2.2.2.2.2.1
  refine w_X9_thoseOf ?_
  have key : ∀ (j k : Nat), k + j = nl → lp_X9_thoseOf_5 (d + 2) M (nI l) 0 (nI (bsN (nbB sg pl l) k)) (nI k) K := by
    intro j
    induction j with
    | zero =>
      intro k hk
      have : k = nl := by omega
      subst this
      refine z_X9_thoseOf_5 ?_
      rw [hL.1]
      exact ⟨fun _ => h, fun c => absurd (nI_le (by omega) (by omega)) c⟩
    | succ j ih =>
      intro k hk
      have st := ih (k + 1) (by omega)
      rw [bsN] at st
      refine z_X9_thoseOf_5 ?_
      rw [hL.1, nI_1, bit1 k (by omega), bsN_or, or0]
      refine ⟨fun c => absurd c (nI_ge (by omega) (by omega)), fun _ => ⟨fun _ => c_neighM hL hW hM.2.2.1 w6 hl (by omega) (fun q => ⟨fun z => absurd z (by decide), fun _ => ?_⟩) (fun q => ⟨fun _ => ?_, fun z => absurd rfl z⟩), fun z => absurd rfl z⟩⟩
      · rw [q, if_pos rfl] at st; exact st
      · rw [q, if_neg (by decide), Nat.add_zero] at st; exact st
  exact key nl 0 (by omega)
theorem c_thoseC {K : Int32 → Mm → Prop} {l : Nat} (hM : BkM M b w sg nr num) (hB : BkW b w sg nr num) (hL : LtM M nl pl bo) (hW : LtW nr nl pl bo) (hl : l < nl) (h : K (nI (bsN (clB b w sg num pl bo l) nl)) M) : ACi (d + 5) X9_thoseOf [.ref 42, .int (nI l), .int 1] M K := by
  have hn := hW.1
  refine w_X9_thoseOf ?_
  have key : ∀ (j k : Nat), k + j = nl → lp_X9_thoseOf_5 (d + 4) M (nI l) 1 (nI (bsN (clB b w sg num pl bo l) k)) (nI k) K := by
    intro j
    induction j with
    | zero =>
      intro k hk
      have : k = nl := by omega
      subst this
      refine z_X9_thoseOf_5 ?_
      rw [hL.1]
      exact ⟨fun _ => h, fun c => absurd (nI_le (by omega) (by omega)) c⟩
    | succ j ih =>
      intro k hk
      have st := ih (k + 1) (by omega)
      rw [bsN] at st
      refine z_X9_thoseOf_5 ?_
      rw [hL.1, nI_1, bit1 k (by omega), bsN_or, or0]
      refine ⟨fun c => absurd c (nI_ge (by omega) (by omega)), fun _ => ⟨fun z => absurd z (by decide), fun _ => c_doClash hM hB hL hW hl (by omega) (fun q => ⟨fun z => absurd z (by decide), fun _ => ?_⟩) (fun q => ⟨fun _ => ?_, fun z => absurd rfl z⟩)⟩⟩
      · rw [q, if_pos rfl] at st; exact st
      · rw [q, if_neg (by decide), Nat.add_zero] at st; exact st
  exact key nl 0 (by omega)
def ltB (bo : Nat → Option Nat) (i : Nat) : Bool := (bo i).isSome
theorem c_litC {K : Int32 → Mm → Prop} (hL : LtC M nl pl bo) (hW : LtW nr nl pl bo) (hr8 : nr ≤ 8) (h : K (nI (bsN (ltB bo) nl)) M) : ACi (d + 1) X2_litOnes [.ref 13] M K := by
  have hn := hW.1
  refine w_X2_litOnes ?_
  have key : ∀ (j k : Nat), k + j = nl → lp_X2_litOnes_4 d M (nI (bsN (ltB bo) k)) (nI k) K := by
    intro j
    induction j with
    | zero =>
      intro k hk
      have : k = nl := by omega
      subst this
      refine z_X2_litOnes_4 ?_
      rw [hL.1]
      exact ⟨fun _ => h, fun c => absurd (nI_le (by omega) (by omega)) c⟩
    | succ j ih =>
      intro k hk
      have st := ih (k + 1) (by omega)
      rw [bsN] at st
      refine z_X2_litOnes_4 ?_
      rw [hL.1, nI_1, bit1 k (by omega), bsN_or, nI_clamp (by omega), (hL.2 k (by omega)).2, oi_none (fun r hr => by have := (hW.2 k (by omega)).2 r hr; omega)]
      refine ⟨fun c => absurd c (nI_ge (by omega) (by omega)), fun _ => ⟨vp_in_nI (by omega) (by decide), fun q => ?_, fun q => ?_⟩⟩
      · rw [show ltB bo k = false by unfold ltB; rw [q]; rfl, if_neg (by decide), Nat.add_zero] at st; exact st
      · rw [show ltB bo k = true by unfold ltB; exact Option.isSome_iff_ne_none.mpr q, if_pos rfl] at st; exact st
  exact key nl 0 (by omega)
theorem c_litM {K : Int32 → Mm → Prop} (hL : LtM M nl pl bo) (hW : LtW nr nl pl bo) (hr8 : nr ≤ 8) (h : K (nI (bsN (ltB bo) nl)) M) : ACi (d + 1) X9_litOnes [.ref 42] M K := by
  have hn := hW.1
  have e6 : ∀ n : Nat, (6 : Int32) + nI n = nI (6 + n) := fun n => nI_add 6 n
  refine w_X9_litOnes ?_
  have key : ∀ (j k : Nat), k + j = nl → lp_X9_litOnes_4 d M (nI (bsN (ltB bo) k)) (nI k) K := by
    intro j
    induction j with
    | zero =>
      intro k hk
      have : k = nl := by omega
      subst this
      refine z_X9_litOnes_4 ?_
      rw [hL.1]
      exact ⟨fun _ => h, fun c => absurd (nI_le (by omega) (by omega)) c⟩
    | succ j ih =>
      intro k hk
      have st := ih (k + 1) (by omega)
      rw [bsN] at st
      refine z_X9_litOnes_4 ?_
      rw [hL.1, nI_1, bit1 k (by omega), bsN_or, or0, e6, nI_clamp (by omega), (hL.2 k (by omega)).2, oi_none (fun r hr => by have := (hW.2 k (by omega)).2 r hr; omega)]
      refine ⟨fun c => absurd c (nI_ge (by omega) (by omega)), fun _ => ⟨vp_in_nI (by omega) (by decide), fun q => ?_, fun q => ?_⟩⟩
      · rw [show ltB bo k = true by unfold ltB; exact Option.isSome_iff_ne_none.mpr q, if_pos rfl] at st; exact st
      · rw [show ltB bo k = false by unfold ltB; rw [q]; rfl, if_neg (by decide), Nat.add_zero] at st; exact st
  exact key nl 0 (by omega)
theorem p_light {v1 v2 : Int32} (hC : BkC M b w sg nr num) (hM : BkM M b w sg nr num) (hB : BkW b w sg nr num) (hLC : LtC M nl pl bo) (hLM : LtM M nl pl bo) (hW : LtW nr nl pl bo) : Pr0 X8_light X9_light [.int v1, .int v2] M := by
  have hn := hW.1
  have w6 := hB.2.2.2.2.2.1
  have e6 : ∀ n : Nat, (6 : Int32) + nI n = nI (6 + n) := fun n => nI_add 6 n
  intro d
  refine w_X8_light (c_hasLight hLC hn (fun l hl e => ⟨fun _ => ?_, fun z => absurd z (by decide)⟩) (fun hno => ⟨fun z => absurd rfl z, fun _ => ?_⟩))
  · subst e
    have ec : (nI l).toNatClampNeg = l := nI_clamp (by omega)
    have mod : ∀ (K : Int32 → Mm → Prop) (d : Nat), ((v2 = 0 → K (nI (pl l)) M) ∧ (v2 = 1 → K (oi (bo l)) M) ∧ (v2 = 2 → K (nI (bsN (nbB sg pl l) nl)) M) ∧ (v2 = 3 → K (nI (bsN (clB b w sg num pl bo l) nl)) M) ∧ (v2 < 0 ∨ nI 3 < v2 → K (-3) M)) → ACi (d + 9) X9_light [.ref 42, .int (nI l), .int v2] M K := by
      intro K d hk
      obtain ⟨k0, k1, k2, k3, k4⟩ := hk
      refine w_X9_light (c_isLight hLM hn (fun _ _ _ => ⟨fun _ => ⟨fun z => ⟨?_, ?_⟩, fun z => ⟨?_, ?_⟩, fun z => c_thoseN hM hB hLM hW hl (k2 z), fun z => c_thoseC hM hB hLM hW hl (k3 z), k4⟩, fun z => absurd z (by decide)⟩) (fun hno => absurd rfl (hno l hl)))
      · rw [z0]; exact vp_in_nI (by omega) (by decide)
      · rw [z0, ec, (hLM.2 l hl).1]; exact k0 z
      · rw [e6]; exact vp_in_nI (by omega) (by decide)
      · rw [e6, nI_clamp (by omega), (hLM.2 l hl).2]; exact k1 z
    have sw : ∀ (i : Int32) (j : Nat), i = nI j → j ≤ 3 → v2 = i → ¬ (v2 < 0 ∨ nI 3 < v2) := by
      intro i j ei hj e z
      rw [e, ei] at z
      rcases z with z | z
      · exact nI_pos (by omega) z
      · exact absurd ((nI_ltI (a := 3) (by decide) (by omega)).mp z) (by omega)
    have n5 : ∀ {i j : Int32}, v2 = i → ¬ i = j → ¬ v2 = j := fun e1 e2 e3 => e2 (e1.symm.trans e3)
    have vi : vp_in (nI l) 6 := vp_in_nI (by omega) (by decide)
    refine ⟨fun z => ⟨vi, ?_⟩, fun z => ⟨vi, ?_⟩, fun z => ?_, fun z => c_clashC hC hB hLC hW hl (mod _ _ ⟨fun y => absurd y (n5 z (by decide)), fun y => absurd y (n5 z (by decide)), fun y => absurd y (n5 z (by decide)), fun _ => ⟨rfl, rfl⟩, fun y => absurd y (sw 3 3 rfl (by decide) z)⟩), fun z => ?_⟩
    · rw [ec, (hLC.2 l hl).1]
      exact mod _ _ ⟨fun _ => ⟨rfl, rfl⟩, fun y => absurd y (n5 z (by decide)), fun y => absurd y (n5 z (by decide)), fun y => absurd y (n5 z (by decide)), fun y => absurd y (sw 0 0 rfl (by decide) z)⟩
    · rw [ec, (hLC.2 l hl).2]
      exact mod _ _ ⟨fun y => absurd y (n5 z (by decide)), fun _ => ⟨rfl, rfl⟩, fun y => absurd y (n5 z (by decide)), fun y => absurd y (n5 z (by decide)), fun y => absurd y (sw 1 1 rfl (by decide) z)⟩
    · rw [hC.2.2.1]
      exact c_neighC hLC hW w6 hl (mod _ _ ⟨fun y => absurd y (n5 z (by decide)), fun y => absurd y (n5 z (by decide)), fun _ => ⟨rfl, rfl⟩, fun y => absurd y (n5 z (by decide)), fun y => absurd y (sw 2 2 rfl (by decide) z)⟩)
    · exact mod _ _ ⟨fun y => absurd z (sw 0 0 rfl (by decide) y), fun y => absurd z (sw 1 1 rfl (by decide) y), fun y => absurd z (sw 2 2 rfl (by decide) y), fun y => absurd z (sw 3 3 rfl (by decide) y), fun _ => ⟨rfl, rfl⟩⟩
  · exact w_X9_light (c_isLight hLM hn (fun r hr e => absurd e (hno r hr)) (fun _ => ⟨fun z => absurd rfl z, fun _ => ⟨rfl, rfl⟩⟩))
end LT
