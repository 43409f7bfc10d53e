/-! MACHINE: the public call -/
def FrX (M M1 : Mm) : Prop := (∀ q, q ≠ 31 → M1.1 q = M.1 q) ∧ (∀ j, j ≠ 2 → M1.1 31 j = M.1 31 j) ∧ ∀ q, q ≠ 32 → q ≠ 33 → M1.2 q = M.2 q
theorem FrX.rf {M : Mm} : FrX M M := ⟨fun _ _ => rfl, fun _ _ => rfl, fun _ _ _ => rfl⟩
theorem FrX.tr {M M1 M2 : Mm} (h : FrX M M1) (h2 : FrX M1 M2) : FrX M M2 := ⟨fun q a => (h2.1 q a).trans (h.1 q a), fun j a => (h2.2.1 j a).trans (h.2.1 j a), fun q a c => (h2.2.2 q a c).trans (h.2.2 q a c)⟩
theorem MchC.fr {M M1 : Mm} {b : Nat} {G : Nat → Bool} (h : MchC M b G) (f : FrX M M1) : MchC M1 b G := ⟨(f.2.1 3 (by decide)).trans h.1, by rw [f.2.2 31 (by decide) (by decide)]; exact h.2.1, by rw [f.2.2 31 (by decide) (by decide)]; exact h.2.2⟩
def ClC (M : Mm) (st : Nat × (Nat → Nat)) : Prop := M.1 31 2 = nI st.1 ∧ ∀ i, i < st.1 → M.2 32 i = lN (st.2 i)
section MQ
variable {d : Nat} {M : Mm} {b w sg nr nl : Nat} {num pl : Nat → Nat} {bo : Nat → Option Nat} {S G : Nat → Bool} {nm : Nat → Nat}
theorem lN_ne {x y : Nat} (hx : x < 281474976710656) (hy : y < 281474976710656) : lg_cmp (lN x) (lN y) = 0 ↔ x = y := by rw [lgc_eq, pk_lEQ (by omega) (by omega)]
theorem lN_z {x : Nat} (hx : x < 281474976710656) : lg_cmp (lN x) 0 = 0 ↔ x = 0 := lN_ne (y := 0) hx (by decide)
theorem c_add {K : Mm → Prop} {st : Nat × (Nat → Nat)} {x : Nat} (hs : SG b S G nm) (hst : GS b nm S st) (hx : x < 281474976710656) (hc : ClC M st) (hK : ∀ M1, FrX M M1 → ClC M1 (addS st x) → K M1) : ACv (d + 1) X3_addIfNew [.ref 31, .long (lN x)] M K := by
  have l207 := few hs.2.1 hst.1 hst.2
  refine w_X3_addIfNew ?_
  rw [lN_z hx, hc.1, show (256 : Int32) = nI 256 from rfl, nI_ltI (by omega) (by decide)]
  refine ⟨fun z => hK M FrX.rf (by rw [addS_no (Or.inl z)]; exact hc), fun z => ⟨fun _ => ?_, fun c => absurd (by omega) c⟩⟩
  have key : ∀ (j k : Nat), k + j = st.1 → (∀ i, i < k → st.2 i ≠ x) → lp_X3_addIfNew_19 d M (lN x) (nI k) K := by
    intro j
    induction j with
    | zero =>
      intro k hk hn
      have : k = st.1 := by omega
      subst this
      refine z_X3_addIfNew_19 ?_
      rw [hc.1, nI_clamp (by omega), nI_1]
      refine ⟨fun _ => ⟨vp_in_nI (by omega) (by decide), hK _ ⟨fun q hq => by rw [wI_ne hq]; rfl, fun j hj => by simp [rI, hj, rL1], fun q h1 h2 => by rw [rI2, wL_ne h1]⟩ ?_⟩, fun c => absurd (nI_le (by omega) (by omega)) c⟩
      rw [addS_yes (by
        rintro (y | ⟨i, y1, y2⟩)
        · exact z y
        · exact hn i y1 y2)]
      refine ⟨by simp [rI], fun i hi => ?_⟩
      dsimp only at *
      by_cases e : i = st.1
      · rw [if_pos e, rI2, rL, if_pos ⟨rfl, e⟩]
      · rw [if_neg e, rI2, rL, if_neg (fun y => e y.2)]; exact hc.2 i (by omega)
    | succ j ih =>
      intro k hk hn
      have gk := (hst.1 k (by omega)).lt
      refine z_X3_addIfNew_19 ?_
      rw [hc.1, nI_clamp (n := k) (by omega), nI_1 k, hc.2 k (by omega), lN_ne gk hx]
      refine ⟨fun c => absurd c (nI_ge (by omega) (by omega)), fun _ => ⟨vp_in_nI (by omega) (by decide), fun c => ih (k + 1) (by omega) (fun i hi => ?_), fun c => hK M FrX.rf ?_⟩⟩
      · by_cases e : i = k
        · subst e; exact c
        · exact hn i (by omega)
      · rw [addS_no (Or.inr ⟨k, by omega, c⟩)]; exact hc
  exact key st.1 0 (by omega) (fun i hi => absurd hi (by omega))
theorem c_states {K : Int32 → Mm → Prop} (hs : SG b S G nm) (hm : MchC M b G) (hc : ClC M (bfS b G (bsN S 48) 0)) (hK : ∀ M1, FrX M M1 → K (nI (bfS b G (bsN S 48) 256).1) M1) : ACi (d + 2) X3_states [.ref 31] M K := by
  have hb0 := hs.1
  have hb := hs.2.1
  refine w_X3_states ?_
  have key : ∀ (j k : Nat) (N : Mm), k + j = 256 → FrX M N → ClC N (bfS b G (bsN S 48) k) → lp_X3_states_2 (d + 1) N (nI k) K := by
    intro j
    induction j with
    | zero =>
      intro k N hk f g
      have : k = 256 := by omega
      subst this
      have g0 := gs_all hs 256
      have l207 := few hb g0.1 g0.2
      refine z_X3_states_2 ?_
      rw [g.1]
      exact ⟨fun _ => hK N f, fun c => absurd (nI_le (by omega) (by omega)) c⟩
    | succ j ih =>
      intro k N hk f g
      have g0 := gs_all hs k
      have l207 := few hb g0.1 g0.2
      refine z_X3_states_2 ?_
      rw [g.1, nI_clamp (by omega), nI_1, nI_leI (by omega) (by omega)]
      refine ⟨fun c => ?_, fun c => ⟨fun c2 => absurd c2 (nI_ge (b := 256) (by omega) (by omega)), fun _ => ⟨vp_in_nI (by omega) (by decide), ?_⟩⟩⟩
      · rw [← bfS_stop (b := b) (G := G) (by omega) 256 (by omega)]
        exact hK N f
      · have gk := g0.1 k (by omega)
        have wk : ∀ i, i < 48 → ((bfS b G (bsN S 48) k).2 k).testBit i = true → i % 8 < b := fun i hi z => hs.2.2.1 i (gk.wf i hi z)
        have e0 : (0 : Int32) = if false = true then 1 else 0 := rfl
        have e1 : (1 : Int32) = if true = true then 1 else 0 := rfl
        rw [g.2 k (by omega)]
        refine c_behind (be := false) (hm.fr f) (by omega) hb gk.lt wk (c_add hs g0 nxN_lt g (fun N1 f1 g1 => ⟨vp_in_nI (by omega) (by decide), ?_⟩))
        have g01 := g0.add (x := nxN b G false ((bfS b G (bsN S 48) k).2 k)) (fun z => gk.nx hs false z)
        have old := addS_old (st := bfS b G (bsN S 48) k) (x := nxN b G false ((bfS b G (bsN S 48) k).2 k)) (i := k) (by omega)
        rw [g1.2 k (by omega), old.1]
        refine c_behind (be := true) (hm.fr (f.tr f1)) (by omega) hb gk.lt wk (c_add hs g01 nxN_lt g1 (fun N2 f2 g2 => ih (k + 1) N2 (by omega) ((f.tr f1).tr f2) ?_))
        rw [bfS, if_pos (by omega)]
        exact g2
  exact key 256 0 M (by omega) FrX.rf hc
/-! the model's -/
def FrY (M M1 : Mm) : Prop := M1.1 = M.1 ∧ ∀ q, q ≠ 62 → q ≠ 63 → q ≠ 64 → M1.2 q = M.2 q
theorem FrY.rf {M : Mm} : FrY M M := ⟨rfl, fun _ _ _ _ => rfl⟩
theorem FrY.tr {M M1 M2 : Mm} (h : FrY M M1) (h2 : FrY M1 M2) : FrY M M2 := ⟨h2.1.trans h.1, fun q a c e => (h2.2 q a c e).trans (h.2 q a c e)⟩
def ClM (M : Mm) (a : Nat) (st : Nat × (Nat → Nat)) : Prop := ∀ i, i < st.1 → M.2 a i = lN (st.2 i)
theorem c_statesM {K : Int32 → Mm → Prop} {q : Nat} (hM : BkM M b w sg nr num) (hB : BkW b w sg nr num) (hL : LtM M nl pl bo) (hW : LtW nr nl pl bo) (hs : SG b S (flB b nl num bo) nm) (hS : ∀ p, S p = true → p / 8 < nl ∧ p % 8 < b ∧ (bo (p / 8)).isSome = true) (hq : q ≤ 99) (hfs : S = fsB b sg nl pl bo q) (hK : ∀ M1, FrY M M1 → K (nI (bfS b (flB b nl num bo) (bsN S 48) 256).1) M1) : ACi (d + 3) X9_statesOf [.ref 42, .int (nI q)] M K := by
  have hb0 := hs.1
  have hb := hs.2.1
  refine w_X9_statesOf (c_firstM hM hB hL hW hq ?_)
  rw [← hfs, lN_z (bsL S)]
  have key : ∀ (j k : Nat) (N : Mm), k + j = 256 → FrY M N → ClM N 62 (bfS b (flB b nl num bo) (bsN S 48) k) → lp_X9_statesOf_30 (d + 2) N (nI (bfS b (flB b nl num bo) (bsN S 48) k).1) (nI k) K := by
    intro j
    induction j with
    | zero =>
      intro k N hk f g
      have : k = 256 := by omega
      subst this
      have g0 := gs_all hs 256
      have l207 := few hb g0.1 g0.2
      exact z_X9_statesOf_30 ⟨fun _ => hK N f, fun c => absurd (nI_le (by omega) (by omega)) c⟩
    | succ j ih =>
      intro k N hk f g
      have g0 := gs_all hs k
      have l207 := few hb g0.1 g0.2
      refine z_X9_statesOf_30 ?_
      rw [nI_leI (by omega) (by omega)]
      refine ⟨fun c => ?_, fun c => ?_⟩
      · rw [← bfS_stop (b := b) (G := flB b nl num bo) (x0 := bsN S 48) (i := k) (by omega) 256 (by omega)]
        exact hK N f
      · have gk := g0.1 k (by omega)
        -- one beat: the set behind it, taken up if it is new
        have one : ∀ (be : Bool) (st : Nat × (Nat → Nat)) (N1 : Mm) (v4 : Int32), v4 = (if be then 1 else 0) → GS b nm S st → st.2 k = (bfS b (flB b nl num bo) (bsN S 48) k).2 k → k < st.1 → FrY M N1 → ClM N1 62 st → (∀ N2, FrY M N2 → ClM N2 62 (addS st (nxN b (flB b nl num bo) be (st.2 k))) → lp_X9_statesOf_38 (d + 2) N2 (nI (addS st (nxN b (flB b nl num bo) be (st.2 k))).1) (nI k) (v4 + 1) K) → lp_X9_statesOf_38 (d + 2) N1 (nI st.1) (nI k) v4 K := by
          intro be st N1 v4 hv hst hek hkl f1 g1 hN
          have l2 := few hb hst.1 hst.2
          have gk2 := hst.1 k hkl
          have hM1 : BkM N1 b w sg nr num := hM.of (fun j _ _ => by rw [f1.1]) (by rw [f1.1])
          have hL1 : LtM N1 nl pl bo := hL.of (by rw [f1.1]) (by rw [f1.1])
          refine z_X9_statesOf_38 ⟨fun z => ?_, fun _ => ⟨vp_in_nI (by omega) (by decide), ?_⟩⟩
          · rw [hv] at z
            exfalso
            revert z
            cases be <;> decide
          · rw [nI_clamp (by omega), g1 k hkl, hv]
            refine c_becomes hM1 hB hL1 hW gk2.lt (fun i hi z => hS i (gk2.wf i hi z)) ?_
            rw [lN_z nxN_lt, ← hv]
            have xl : nxN b (flB b nl num bo) be (st.2 k) < 281474976710656 := nxN_lt
            generalize nxN b (flB b nl num bo) be (st.2 k) = x at *
            have scan : ∀ (j2 i : Nat) (v7 : Int32), i + j2 = st.1 → ((v7 = 1 ∧ x ≠ 0 ∧ ∀ i', i' < i → st.2 i' ≠ x) ∨ (v7 = 0 ∧ (x = 0 ∨ ∃ i', i' < st.1 ∧ st.2 i' = x))) → lp_X9_statesOf_75 (d + 2) N1 (nI st.1) (nI k) v4 (lN x) v7 (nI i) K := by
              intro j2
              induction j2 with
              | zero =>
                intro i v7 hi h7
                have : i = st.1 := by omega
                subst this
                refine z_X9_statesOf_75 ⟨fun _ => ⟨fun z => ?_, fun z => ⟨vp_in_nI (by omega) (by decide), ?_⟩⟩, fun c => absurd (nI_le (by omega) (by omega)) c⟩
                · rcases h7 with ⟨y1, -⟩ | ⟨-, y2⟩
                  · rw [y1] at z; exact absurd z (by decide)
                  · have := hN N1 f1 (by rw [addS_no y2]; exact g1)
                    rw [addS_no y2] at this
                    exact this
                · rcases h7 with ⟨-, y2, y3⟩ | ⟨y1, -⟩
                  · have ny : ¬ (x = 0 ∨ ∃ i, i < st.1 ∧ st.2 i = x) := by
                      rintro (y | ⟨i, q1, q2⟩)
                      · exact y2 y
                      · exact y3 i q1 q2
                    rw [nI_clamp (by omega), nI_1]
                    have := hN (wL N1 62 st.1 (lN x)) (f1.tr ⟨rfl, fun q a _ _ => wL_ne a⟩) (by
                      rw [addS_yes ny]
                      intro i hi
                      dsimp only at *
                      by_cases e : i = st.1
                      · rw [if_pos e, rL, if_pos ⟨rfl, e⟩]
                      · rw [if_neg e, rL, if_neg (fun y => e y.2)]; exact g1 i (by omega))
                    rw [addS_yes ny] at this
                    exact this
                  · exact absurd y1 z
              | succ j2 ih2 =>
                intro i v7 hi h7
                have gi := (hst.1 i (by omega)).lt
                refine z_X9_statesOf_75 ⟨fun c => absurd c (nI_ge (by omega) (by omega)), fun _ => ⟨fun z => ⟨fun _ => ?_, fun y => absurd z y⟩, fun z => ⟨vp_in_nI (by omega) (by decide), ?_⟩⟩⟩
                · rcases h7 with ⟨y1, -⟩ | ⟨-, y2⟩
                  · rw [y1] at z; exact absurd z (by decide)
                  · have := hN N1 f1 (by rw [addS_no y2]; exact g1)
                    rw [addS_no y2] at this
                    exact this
                · rcases h7 with ⟨-, y2, y3⟩ | ⟨y1, -⟩
                  · rw [nI_clamp (by omega), g1 i (by omega), lN_ne gi xl, nI_1]
                    refine ⟨fun c => ih2 (i + 1) 0 (by omega) (Or.inr ⟨rfl, Or.inr ⟨i, by omega, c⟩⟩), fun c => ih2 (i + 1) 1 (by omega) (Or.inl ⟨rfl, y2, fun i' hi' => ?_⟩)⟩
                    by_cases e : i' = i
                    · subst e; exact c
                    · exact y3 i' (by omega)
                  · exact absurd y1 z
            refine ⟨fun c => scan st.1 0 0 (by omega) (Or.inr ⟨rfl, Or.inl c⟩), fun c => scan st.1 0 1 (by omega) (Or.inl ⟨rfl, c, fun i' hi' => absurd hi' (by omega)⟩)⟩
        have g01 := g0.add (x := nxN b (flB b nl num bo) false ((bfS b (flB b nl num bo) (bsN S 48) k).2 k)) (fun z => gk.nx hs false z)
        have old := addS_old (st := bfS b (flB b nl num bo) (bsN S 48) k) (x := nxN b (flB b nl num bo) false ((bfS b (flB b nl num bo) (bsN S 48) k).2 k)) (i := k) (by omega)
        refine one false _ N 0 rfl g0 rfl (by omega) f g (fun N2 f2 g2 => one true _ N2 (0 + 1) rfl g01 old.1 (by omega) f2 g2 (fun N3 f3 g3 => z_X9_statesOf_38 ⟨fun _ => ?_, fun c => absurd (by decide) c⟩))
        rw [nI_1]
        have := ih (k + 1) N3 (by omega) f3
        rw [bfS, if_pos (by omega)] at this
        rw [old.1] at g3 ⊢
        exact this g3
  have st0 : ∀ N, FrY M N → N.2 62 0 = lN (bsN S 48) → lp_X9_statesOf_30 (d + 2) N (nI (bfS b (flB b nl num bo) (bsN S 48) 0).1) 0 K := fun N f e => key 256 0 N (by omega) f (fun i hi => by
    rw [bfS] at hi ⊢
    dsimp only at hi ⊢
    have : i = 0 := by
      split at hi <;> omega
    rw [this]
    exact e)
  have fin := st0 (wL M 62 0 (lN (bsN S 48))) ⟨rfl, fun q a _ _ => wL_ne a⟩ (by simp [rL])
  rw [bfS] at fin
  dsimp only at fin
  refine ⟨fun c => ?_, fun c => ?_⟩
  · rw [if_neg c] at fin; exact fin
  · rw [if_pos c] at fin; exact fin
end MQ
