/-! WATCH, SEE, LEFT -/
def upT (f f' : Nat → Bool) (k p : Nat) : Bool := if p < k then f' p else f p
theorem up_same {f f' : Nat → Bool} {k : Nat} (h : f' k = f k) : bsN (upT f f' k) 48 = bsN (upT f f' (k + 1)) 48 := bsN_cong (fun i _ => by
  unfold upT
  by_cases e : i = k
  · subst e; rw [if_neg (by omega), if_pos (by omega), h]
  · by_cases l : i < k
    · rw [if_pos l, if_pos (by omega)]
    · rw [if_neg l, if_neg (by omega)])
theorem up_or {f f' : Nat → Bool} {k : Nat} (hk : k < 48) (h : f' k = true) : lN (bsN (upT f f' k) 48) ||| lN (2 ^ k) = lN (bsN (upT f f' (k + 1)) 48) := bs_orL (p48 hk) (fun i _ => by
  rw [tb2]
  unfold upT
  by_cases e : i = k
  · subst e; rw [if_neg (by omega), if_pos (by omega), h]; simp
  · rw [decide_eq_false e, Bool.or_false]
    by_cases l : i < k
    · rw [if_pos l, if_pos (by omega)]
    · rw [if_neg l, if_neg (by omega)])
theorem up_xor {f f' : Nat → Bool} {k : Nat} (hk : k < 48) (h : f k = true) (h' : f' k = false) : lN (bsN (upT f f' k) 48) ^^^ lN (2 ^ k) = lN (bsN (upT f f' (k + 1)) 48) := bs_xorL (p48 hk) (fun i _ => by
  rw [tb2]
  unfold upT
  by_cases e : i = k
  · subst e; rw [if_neg (by omega), if_pos (by omega), h, h']; simp
  · rw [decide_eq_false e, Bool.xor_false]
    by_cases l : i < k
    · rw [if_pos l, if_pos (by omega)]
    · rw [if_neg l, if_neg (by omega)])
theorem up_at {f f' : Nat → Bool} {k : Nat} : upT f f' k k = f k := if_neg (by omega)
theorem up_0 {f f' : Nat → Bool} : bsN f 48 = bsN (upT f f' 0) 48 := bsN_cong (fun i _ => by unfold upT; rw [if_neg (by omega)])
theorem up_48 {f f' : Nat → Bool} : bsN (upT f f' 48) 48 = bsN f' 48 := bsN_cong (fun i hi => by unfold upT; rw [if_pos hi])
def owB (b T : Nat) (G : Nat → Bool) (p : Nat) : Bool := G (8 * (p / 8) + (p % 8 + T) % b)
def lfN (b T : Nat) (G : Nat → Bool) (be mi : Bool) (lf ms : Nat → Bool) (p : Nat) : Bool := lf p && ((owB b T G p == be) || (mi && owB b T G p && !ms p))
def msN (b T : Nat) (G : Nat → Bool) (be mi : Bool) (lf ms : Nat → Bool) (p : Nat) : Bool := ms p || (lf p && (owB b T G p != be) && mi && owB b T G p)
section WA
variable {b T : Nat} {G : Nat → Bool} {be mi : Bool} {lf ms : Nat → Bool} {p : Nat}
theorem lfN_no (h : lf p = false) : lfN b T G be mi lf ms p = lf p ∧ msN b T G be mi lf ms p = ms p := by unfold lfN msN; rw [h]; simp
theorem lfN_eq (ho : owB b T G p = be) : lfN b T G be mi lf ms p = lf p ∧ msN b T G be mi lf ms p = ms p := by unfold lfN msN; rw [ho]; simp
theorem lfN_st (h : lf p = true) (ho : owB b T G p ≠ be) (hc : (mi && owB b T G p && !ms p) = false) : lfN b T G be mi lf ms p = false ∧ msN b T G be mi lf ms p = ms p := by
  unfold lfN msN
  rw [h]
  revert ho hc
  cases owB b T G p <;> cases be <;> cases mi <;> cases ms p <;> simp
theorem lfN_fg (h : lf p = true) (ho : owB b T G p ≠ be) (hc : (mi && owB b T G p && !ms p) = true) : lfN b T G be mi lf ms p = lf p ∧ msN b T G be mi lf ms p = true := by
  unfold lfN msN
  rw [h]
  revert ho hc
  cases owB b T G p <;> cases be <;> cases mi <;> cases ms p <;> simp
end WA
def shN (b T p : Nat) : Nat := if b ≤ p % 8 + T then p % 8 + T - b else p % 8 + T
theorem shN_m {b T p : Nat} (hT : T < b) (hp : p % 8 < b) : shN b T p = (p % 8 + T) % b := by
  unfold shN
  generalize p % 8 = x at *
  split
  · rw [Nat.mod_eq_sub_mod (by omega), Nat.mod_eq_of_lt (by omega)]
  · rw [Nat.mod_eq_of_lt (by omega)]
section WT
variable {d : Nat} {M : Mm} {b w sg nr nl T : Nat} {num pl : Nat → Nat} {bo : Nat → Option Nat} {G : Nat → Bool} {be mi : Bool} {lf ms : Nat → Bool}
theorem rem8 {p : Nat} (h : p < 1000) : nI p - nI p / 8 * 8 = nI (p % 8) := pk_rem (d := 8) (by omega) (by decide) (by decide)
theorem div8 {p : Nat} (h : p < 1000) : nI p / 8 = nI (p / 8) := pk_div (d := 8) (by omega) (by decide) (by decide)
theorem c_shift {K : Int32 → Mm → Prop} {p : Nat} (hT : T < b) (hb : b ≤ 8) (h4 : M.1 34 4 = nI T) (hp : p < 48) (h : K (nI (shN b T p)) M) : ACi (d + 1) X7_shiftNow [.ref 34, .int (nI p), .int (nI b)] M K := by
  refine w_X7_shiftNow ?_
  rw [h4, rem8 (by omega), nI_add, nI_leI (by omega) (by omega)]
  refine ⟨fun c => ?_, fun c => ?_⟩
  · rw [pk_sub c]; unfold shN at h; rw [if_pos c] at h; exact h
  · unfold shN at h; rw [if_neg c] at h; exact h
theorem c_strike {K : Mm → Prop} {fl : Bool} {k : Nat} (hk : k < 48) (f1 : M.1 34 1 = if mi then 1 else 0) (f3 : M.2 34 3 = lN (bsN ms 48)) (hs : (mi && fl && !ms k) = false → K (wL M 34 2 (M.2 34 2 ^^^ lN (2 ^ k)))) (hf : (mi && fl && !ms k) = true → K (wL M 34 3 (M.2 34 3 ||| lN (2 ^ k)))) : ACv (d + 1) X7_strikeOrForgive [.ref 34, .long (lN (2 ^ k)), .int (if fl then 1 else 0)] M K := by
  refine w_X7_strikeOrForgive ?_
  have e : lg_cmp (M.2 34 3 &&& lN (2 ^ k)) 0 = 0 ↔ ms k = false := by rw [f3]; exact bs_tst hk
  rw [f1, e]
  cases mi with
  | false => exact ⟨fun _ => hs rfl, fun z => absurd rfl z⟩
  | true =>
    refine ⟨fun z => absurd z (by decide), fun _ => ?_⟩
    cases fl with
    | false => exact ⟨fun _ => hs rfl, fun z => absurd rfl z⟩
    | true =>
      refine ⟨fun z => absurd z (by decide), fun _ => ?_⟩
      cases q : ms k with
      | true => exact ⟨fun _ => hs (by rw [q]; rfl), fun z => absurd z (by decide)⟩
      | false => exact ⟨fun z => absurd rfl z, fun _ => hf (by rw [q]; rfl)⟩
theorem c_takeBeat {K : Mm → Prop} (hb : b ≤ 8) (hT : T < b) (h1 : M.1 34 1 = if mi then 1 else 0) (h4 : M.1 34 4 = nI T) (h2 : M.2 34 2 = lN (bsN lf 48)) (h3 : M.2 34 3 = lN (bsN ms 48)) (hlf : ∀ p, p < 48 → lf p = true → p % 8 < b) (hK : ∀ M1, (∀ q, q ≠ 34 → M1.1 q = M.1 q) → (∀ j, j ≠ 4 → M1.1 34 j = M.1 34 j) → M1.1 34 4 = nI ((T + 1) % b) → (∀ q, q ≠ 34 → M1.2 q = M.2 q) → M1.2 34 2 = lN (bsN (lfN b T G be mi lf ms) 48) → M1.2 34 3 = lN (bsN (msN b T G be mi lf ms) 48) → K M1) : ACv (d + 2) X7_takeBeat [.ref 34, .int (if be then 1 else 0), .long (lN (bsN G 48)), .int (nI b)] M K := by
  refine w_X7_takeBeat ?_
  have key : ∀ (j k : Nat) (N : Mm), k + j = 48 → N.1 = M.1 → (∀ q, q ≠ 34 → N.2 q = M.2 q) → N.2 34 2 = lN (bsN (upT lf (lfN b T G be mi lf ms) k) 48) → N.2 34 3 = lN (bsN (upT ms (msN b T G be mi lf ms) k) 48) → lp_X7_takeBeat_3 (d + 1) N (if be then 1 else 0) (lN (bsN G 48)) (nI b) (nI k) K := by
    intro j
    induction j with
    | zero =>
      intro k N hk g1 g2 g3 g4
      have : k = 48 := by omega
      subst this
      rw [up_48] at g3 g4
      refine z_X7_takeBeat_3 ?_
      rw [g1, h4, nI_1, nI_leI (by omega) (by omega)]
      refine ⟨fun _ => ⟨fun c => ?_, fun c => ?_⟩, fun c => absurd (by decide) c⟩
      · refine hK _ (fun q hq => ?_) (fun j hj => ?_) ?_ g2 g3 g4
        · rw [wI_ne hq, g1]
        · simp [rI, hj, g1]
        · rw [show (T + 1) % b = 0 by rw [show T + 1 = b by omega, Nat.mod_self]]
          simp [rI]; rfl
      · refine hK _ (fun q hq => ?_) (fun j hj => ?_) ?_ g2 g3 g4
        · rw [wI_ne hq, g1]
        · simp [rI, hj, g1]
        · rw [show (T + 1) % b = T + 1 from Nat.mod_eq_of_lt (by omega)]
          simp [rI]
    | succ j ih =>
      intro k N hk g1 g2 g3 g4
      have hk48 : k < 48 := by omega
      have hsh : shN b T k < 8 := by unfold shN; split <;> omega
      have next : lfN b T G be mi lf ms k = lf k → msN b T G be mi lf ms k = ms k → lp_X7_takeBeat_3 (d + 1) N (if be then 1 else 0) (lN (bsN G 48)) (nI b) (nI (k + 1)) K := fun z1 z2 => ih (k + 1) N (by omega) g1 g2 (by rw [g3, up_same z1]) (by rw [g4, up_same z2])
      have f1 : N.1 34 1 = if mi then 1 else 0 := by rw [g1]; exact h1
      have strike : ∀ fl, lf k = true → owB b T G k = fl → fl ≠ be → ACv (d + 1) X7_strikeOrForgive [.ref 34, .long (lN (2 ^ k)), .int (if fl then 1 else 0)] N (fun M2 => lp_X7_takeBeat_3 (d + 1) M2 (if be then 1 else 0) (lN (bsN G 48)) (nI b) (nI (k + 1)) K) := by
        intro fl hl ho hne
        refine c_strike hk48 f1 g4 (fun z => ?_) (fun z => ?_)
        · rw [up_at] at z
          have y := lfN_st (mi := mi) (lf := lf) (ms := ms) hl (by rw [ho]; exact hne) (by rw [ho]; exact z)
          refine ih (k + 1) _ (by omega) g1 (fun q hq => ?_) ?_ ?_
          · rw [wL_ne hq]; exact g2 q hq
          · rw [rL, if_pos ⟨rfl, rfl⟩, g3, up_xor hk48 hl y.1]
          · rw [rL, if_neg (by decide), g4, up_same y.2]
        · rw [up_at] at z
          have y := lfN_fg (mi := mi) (lf := lf) (ms := ms) hl (by rw [ho]; exact hne) (by rw [ho]; exact z)
          refine ih (k + 1) _ (by omega) g1 (fun q hq => ?_) ?_ ?_
          · rw [wL_ne hq]; exact g2 q hq
          · rw [rL, if_neg (by decide), g3, up_same y.1]
          · rw [rL, if_pos ⟨rfl, rfl⟩, g4, up_or hk48 y.2]
      refine z_X7_takeBeat_3 ⟨fun c => absurd c (nI_ge (b := 48) (by omega) (by omega)), fun _ => c_shift hT hb (by rw [g1]; exact h4) hk48 ?_⟩
      rw [rem8 (by omega), pk_sub (by omega), nI_add, bitL _ (by omega), bitL k (by omega), g3, bs_tst (by omega), bs_tst hk48, up_at, nI_1]
      have hix : lf k = true → G (k - k % 8 + shN b T k) = owB b T G k := fun z => by
        unfold owB
        rw [shN_m hT (hlf k hk48 z), show k - k % 8 = 8 * (k / 8) by omega]
      refine ⟨fun cg => ⟨fun cl => ?_, fun cl => ?_⟩, fun cg => ⟨fun cl => ?_, fun cl => ?_⟩⟩
      · exact next (lfN_no cl).1 (lfN_no cl).2
      · have hl : lf k = true := by cases q : lf k with
          | true => rfl
          | false => exact absurd q cl
        rw [hix hl] at cg
        refine ⟨fun c => ?_, fun c => ?_⟩
        · have e : be = false := by cases be with
            | false => rfl
            | true => exact absurd rfl c
          exact next (lfN_eq (by rw [cg, e])).1 (lfN_eq (by rw [cg, e])).2
        · have e : be = true := by cases be with
            | true => rfl
            | false => exact absurd c (by decide)
          exact strike false hl cg (by rw [e]; decide)
      · exact next (lfN_no cl).1 (lfN_no cl).2
      · have hl : lf k = true := by cases q : lf k with
          | true => rfl
          | false => exact absurd q cl
        rw [hix hl] at cg
        have cg2 : owB b T G k = true := by cases q : owB b T G k with
          | true => rfl
          | false => exact absurd q cg
        refine ⟨fun c => ?_, fun c => ?_⟩
        · have e : be = false := by cases be with
            | false => rfl
            | true => exact absurd rfl c
          exact strike true hl cg2 (by rw [e]; decide)
        · have e : be = true := by cases be with
            | true => rfl
            | false => exact absurd c (by decide)
          exact next (lfN_eq (by rw [cg2, e])).1 (lfN_eq (by rw [cg2, e])).2
  exact key 48 0 M (by omega) rfl (fun _ _ => rfl) (by rw [h2, up_0]) (by rw [h3, up_0])
theorem owB_at {p r : Nat} (hb : b ≤ 8) (hb0 : 0 < b) (hp : p / 8 < nl) (hr : bo (p / 8) = some r) : nI (bitN b (num r) ((p % 8 + T) % b)) = if owB b T (flB b nl num bo) p then 1 else 0 := by
  unfold owB
  have hm := Nat.mod_lt (p % 8 + T) (show b > 0 by omega)
  rw [fl_at hp hm hb, hr, ofB]
  have := bitN_lt b (num r) ((p % 8 + T) % b)
  by_cases q : bitN b (num r) ((p % 8 + T) % b) = 1
  · rw [decide_eq_true q, q]; rfl
  · rw [decide_eq_false q, show bitN b (num r) ((p % 8 + T) % b) = 0 by omega]; rfl
theorem c_seeM {K : Int32 → Mm → Prop} (hM : BkM M b w sg nr num) (hB : BkW b w sg nr num) (hL : LtM M nl pl bo) (hW : LtW nr nl pl bo) (hT : T < b) (hmi : M.1 42 12 = if mi then 1 else 0) (h11 : M.1 42 11 = 1) (h47 : ∀ p, p < 48 → M.1 47 p = if lf p then 1 else 0) (hlf : ∀ p, p < 48 → lf p = true → p / 8 < nl ∧ p % 8 < b ∧ (bo (p / 8)).isSome = true ∧ M.1 48 p = nI ((p % 8 + T) % b) ∧ M.1 49 p = if ms p then 1 else 0) (hK : ∀ M1, M1.2 = M.2 → (∀ q, q ≠ 47 → q ≠ 48 → q ≠ 49 → M1.1 q = M.1 q) → (∀ p, p < 48 → M1.1 47 p = if lfN b T (flB b nl num bo) be mi lf ms p then 1 else 0) → (∀ p, p < 48 → lfN b T (flB b nl num bo) be mi lf ms p = true → M1.1 48 p = nI ((p % 8 + (T + 1) % b) % b) ∧ M1.1 49 p = if msN b T (flB b nl num bo) be mi lf ms p then 1 else 0) → K (nI (fb_ct (lfN b T (flB b nl num bo) be mi lf ms) 48)) M1) : lp_X9_see_25 (d + 2) M (if be then 1 else 0) 0 K := by
  have hn := hW.1
  have hB0 := hB
  obtain ⟨w1, w2, w3, w4, w5, w6, w7, -⟩ := hB
  have e6 : ∀ n : Nat, (6 : Int32) + nI n = nI (6 + n) := fun n => nI_add 6 n
  have key : ∀ (j k : Nat) (N : Mm), k + j = 48 → N.2 = M.2 → (∀ q, q ≠ 47 → q ≠ 48 → q ≠ 49 → N.1 q = M.1 q) → (∀ p, p < k → (N.1 47 p = if lfN b T (flB b nl num bo) be mi lf ms p then 1 else 0) ∧ (lfN b T (flB b nl num bo) be mi lf ms p = true → N.1 48 p = nI ((p % 8 + (T + 1) % b) % b) ∧ N.1 49 p = if msN b T (flB b nl num bo) be mi lf ms p then 1 else 0)) → (∀ p, k ≤ p → N.1 47 p = M.1 47 p ∧ N.1 48 p = M.1 48 p ∧ N.1 49 p = M.1 49 p) → lp_X9_see_25 (d + 2) N (if be then 1 else 0) (nI k) K := by
    intro j
    induction j with
    | zero =>
      intro k N hk g1 g2 g3 g4
      have : k = 48 := by omega
      subst this
      refine z_X9_see_25 ⟨fun _ => c_pairsLeft (by rw [g2 42 (by decide) (by decide) (by decide)]; exact h11) (fun p hp => (g3 p hp).1) (hK N g1 g2 (fun p hp => (g3 p hp).1) (fun p hp => (g3 p hp).2)), fun c => absurd (by decide) c⟩
    | succ j ih =>
      intro k N hk g1 g2 g3 g4
      have hk48 : k < 48 := by omega
      have stp : ∀ N' : Mm, N'.2 = N.2 → (∀ q, q ≠ 47 → q ≠ 48 → q ≠ 49 → N'.1 q = N.1 q) → (∀ q p, p ≠ k → N'.1 q p = N.1 q p) → (N'.1 47 k = if lfN b T (flB b nl num bo) be mi lf ms k then 1 else 0) → (lfN b T (flB b nl num bo) be mi lf ms k = true → N'.1 48 k = nI ((k % 8 + (T + 1) % b) % b) ∧ N'.1 49 k = if msN b T (flB b nl num bo) be mi lf ms k then 1 else 0) → lp_X9_see_25 (d + 2) N' (if be then 1 else 0) (nI (k + 1)) K := by
        intro N' y1 y2 y3 y4 y5
        refine ih (k + 1) N' (by omega) (y1.trans g1) (fun q a1 a2 a3 => (y2 q a1 a2 a3).trans (g2 q a1 a2 a3)) (fun p hp => ?_) (fun p hp => ?_)
        · by_cases e : p = k
          · subst e; exact ⟨y4, y5⟩
          · rw [y3 47 p e, y3 48 p e, y3 49 p e]; exact g3 p (by omega)
        · rw [y3 47 p (by omega), y3 48 p (by omega), y3 49 p (by omega)]; exact g4 p (by omega)
      refine z_X9_see_25 ⟨fun c => absurd c (nI_ge (b := 48) (by omega) (by omega)), fun _ => ⟨vp_in_nI hk48 (by decide), ?_⟩⟩
      rw [nI_clamp (by omega), (g4 k (Nat.le_refl _)).1, h47 k hk48, nI_1]
      cases q : lf k with
      | false =>
        have y := lfN_no (b := b) (T := T) (G := flB b nl num bo) (be := be) (mi := mi) (ms := ms) q
        refine ⟨fun _ => stp N rfl (fun _ _ _ _ => rfl) (fun _ _ _ => rfl) ?_ (fun z => ?_), fun z => absurd rfl z⟩
        · rw [y.1, q, (g4 k (Nat.le_refl _)).1, h47 k hk48, q]
        · rw [y.1, q] at z; exact absurd z (by decide)
      | true =>
        refine ⟨fun z => absurd z (by decide), fun _ => ?_⟩
        obtain ⟨q1, q2, q3, q4, q5⟩ := hlf k hk48 q
        obtain ⟨r, hr⟩ := Option.isSome_iff_exists.mp q3
        have hrn := (hW.2 (k / 8) q1).2 r hr
        have hMN : BkM N b w sg nr num := hM.of (fun j _ _ => by rw [g2 42 (by decide) (by decide) (by decide)]) (g2 44 (by decide) (by decide) (by decide))
        have h43 : N.1 43 (6 + k / 8) = nI r := by rw [g2 43 (by decide) (by decide) (by decide), (hL.2 (k / 8) q1).2, hr]; rfl
        have h48 : N.1 48 k = nI ((k % 8 + T) % b) := (g4 k (Nat.le_refl _)).2.1.trans q4
        have h49 : N.1 49 k = if ms k then 1 else 0 := (g4 k (Nat.le_refl _)).2.2.trans q5
        have h12 : N.1 42 12 = if mi then 1 else 0 := by rw [g2 42 (by decide) (by decide) (by decide)]; exact hmi
        have hs := Nat.mod_lt (k % 8 + T) (show b > 0 by omega)
        have vk : vp_in (nI k) 48 := vp_in_nI hk48 (by decide)
        have bz : ¬ nI b = 0 := nI_ne0 (by omega) (by omega)
        have erem : nI ((k % 8 + T) % b) + 1 - (nI ((k % 8 + T) % b) + 1) / nI b * nI b = nI ((k % 8 + (T + 1) % b) % b) := by
          rw [nI_1, pk_rem (by omega) (by omega) (by omega), Nat.mod_add_mod, Nat.add_mod_mod, Nat.add_assoc]
        refine w_X9_seePair ?_
        rw [div8 (by omega), e6, nI_clamp (n := 6 + k / 8) (by omega), nI_clamp (n := k) (by omega), h43, h48]
        refine ⟨vp_in_nI (by omega) (by decide), vk, c_beatOf hMN hB0 hrn (by omega) ?_⟩
        rw [owB_at w2 (by omega) q1 hr, h48, hMN.1, erem, h12, h49]
        refine ⟨fun c => ⟨vk, bz, vk, ?_⟩, fun c => ?_⟩
        · -- it fits
          have ho : owB b T (flB b nl num bo) k = be := by
            revert c
            cases owB b T (flB b nl num bo) k <;> cases be <;> decide
          have y := lfN_eq (mi := mi) (lf := lf) (ms := ms) ho
          refine stp _ rfl (fun q a1 a2 a3 => wI_ne a2) (fun q p hp => by simp [rI, hp]) ?_ (fun _ => ⟨by simp [rI], ?_⟩)
          · rw [y.1, q]; simp [rI, (g4 k (Nat.le_refl _)).1, h47 k hk48, q]
          · rw [y.2]; simp [rI, h49]
        · have ho : owB b T (flB b nl num bo) k ≠ be := by
            intro z; rw [z] at c; exact c rfl
          have strike : (mi && owB b T (flB b nl num bo) k && !ms k) = false → lp_X9_see_25 (d + 2) (wI (wI (wI N 47 k 0) 49 k 1) 48 k (nI ((k % 8 + (T + 1) % b) % b))) (if be then 1 else 0) (nI (k + 1)) K := by
            intro hc
            have y := lfN_st (lf := lf) q ho hc
            refine stp _ rfl (fun q a1 a2 a3 => by rw [wI_ne a2, wI_ne a3, wI_ne a1]) (fun q p hp => by simp [rI, hp]) ?_ (fun z => ?_)
            · rw [y.1]; simp [rI]
            · rw [y.1] at z; exact absurd z (by decide)
          have forg : (mi && owB b T (flB b nl num bo) k && !ms k) = true → lp_X9_see_25 (d + 2) (wI (wI (wI N 47 k 1) 49 k 1) 48 k (nI ((k % 8 + (T + 1) % b) % b))) (if be then 1 else 0) (nI (k + 1)) K := by
            intro hc
            have y := lfN_fg (lf := lf) q ho hc
            refine stp _ rfl (fun q a1 a2 a3 => by rw [wI_ne a2, wI_ne a3, wI_ne a1]) (fun q p hp => by simp [rI, hp]) ?_ (fun z => ⟨?_, ?_⟩)
            · rw [y.1, q]; simp [rI]
            · simp [rI]
            · rw [y.2]; simp [rI]
          cases hmi2 : mi with
          | false => exact ⟨fun _ => ⟨vk, vk, vk, bz, vk, strike (by rw [hmi2]; rfl)⟩, fun z => absurd rfl z⟩
          | true =>
            refine ⟨fun z => absurd z (by decide), fun _ => ?_⟩
            cases how : owB b T (flB b nl num bo) k with
            | false => exact ⟨fun _ => ⟨vk, vk, vk, bz, vk, strike (by rw [how, Bool.and_false]; rfl)⟩, fun z => absurd z (by decide)⟩
            | true =>
              refine ⟨fun z => absurd rfl z, fun _ => ⟨vk, ?_⟩⟩
              cases hms : ms k with
              | true => exact ⟨fun _ => ⟨vk, vk, vk, bz, vk, strike (by rw [hms]; simp)⟩, fun z => absurd z (by decide)⟩
              | false => exact ⟨fun z => absurd rfl z, fun _ => ⟨vk, vk, vk, bz, vk, forg (by rw [hmi2, how, hms]; rfl)⟩⟩
  exact key 48 0 M (by omega) rfl (fun _ _ _ _ => rfl) (fun p hp => absurd hp (by omega)) (fun p _ => ⟨rfl, rfl, rfl⟩)
end WT
