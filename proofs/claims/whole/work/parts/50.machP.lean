/-! MACHINE: behind how many beats it is named; the public call. -/
def ofOne (x : Nat) : Prop := fb_ct (anK x.testBit 48) 6 = 1
def allOne (st : Nat × (Nat → Nat)) : Prop := ∀ i, i < st.1 → ofOne (st.2 i)
noncomputable def resF (b : Nat) (G : Nat → Bool) (x0 : Nat) : Nat → Nat → Int32
  | 0, _ => -1
  | f + 1, n => if (lvF b G x0 n).1 = 0 then -1 else @ite _ (allOne (lvF b G x0 n)) (Classical.propDecidable _) (nI n) (resF b G x0 f (n + 1))
theorem bldF_s (b : Nat) (G : Nat → Bool) (s : Nat → Nat) (k : Nat) : bldF b G s (k + 1) = if nxN b G (decide (k % 2 = 1)) (s (k / 2)) = 0 then bldF b G s k else ((bldF b G s k).1 + 1, fun i => if i = (bldF b G s k).1 then nxN b G (decide (k % 2 = 1)) (s (k / 2)) else (bldF b G s k).2 i) := by rw [bldF]
section MP
variable {d : Nat} {M : Mm} {b w sg nr nl : Nat} {num pl : Nat → Nat} {bo : Nat → Option Nat} {S G : Nat → Bool} {nm : Nat → Nat}
theorem c_allOneC {K : Int32 → Mm → Prop} {st : Nat × (Nat → Nat)} (hc : ClC M st) (hl : st.1 ≤ 48) (hx : ∀ i, i < st.1 → st.2 i < 281474976710656) (h1 : allOne st → K 1 M) (h0 : ¬ allOne st → K 0 M) : ACi (d + 2) X3_allNameOneLight [.ref 31] M K := by
  refine w_X3_allNameOneLight ?_
  have key : ∀ (j k : Nat), k + j = st.1 → (∀ i, i < k → ofOne (st.2 i)) → lp_X3_allNameOneLight_2 (d + 1) M (nI k) K := by
    intro j
    induction j with
    | zero =>
      intro k hk hn
      refine z_X3_allNameOneLight_2 ?_
      rw [hc.1]
      exact ⟨fun _ => h1 (fun i hi => hn i (by omega)), fun c => absurd (nI_le (by omega) (by omega)) c⟩
    | succ j ih =>
      intro k hk hn
      refine z_X3_allNameOneLight_2 ?_
      have e := bs_id (hx k (by omega))
      rw [hc.1, nI_clamp (n := k) (by omega), nI_1 k, hc.2 k (by omega), ← e]
      refine ⟨fun c => absurd c (nI_ge (by omega) (by omega)), fun _ => ⟨vp_in_nI (by omega) (by decide), c_lightsIn (w_bc32 _ (bsN_small (by decide)) _ _ _ ?_)⟩⟩
      have lc := fb_ct_le (anK (st.2 k).testBit 48) 6
      rw [pc8_ct _ (by decide), show (1 : Int32) = nI 1 from rfl, nI_eq (by omega) (by decide)]
      refine ⟨fun c => ih (k + 1) (by omega) (fun i hi => ?_), fun c => h0 (fun z => c (z k (by omega)))⟩
      by_cases y : i = k
      · subst y; exact c
      · exact hn i (by omega)
  exact key st.1 0 (by omega) (fun i hi => absurd hi (by omega))
theorem c_isOfOne {K : Int32 → Mm → Prop} {x : Nat} (hx : x < 281474976710656) (h1 : ofOne x → K 1 M) (h0 : ¬ ofOne x → K 0 M) : ACi (d + 1) X9_isOfOne [.long (lN x)] M K := by
  refine w_X9_isOfOne ?_
  have key : ∀ (j k : Nat), k + j = 6 → lp_X9_isOfOne_4 d M (lN x) (nI (fb_ct (anK x.testBit 48) k)) (nI k) K := by
    intro j
    induction j with
    | zero =>
      intro k hk
      have : k = 6 := by omega
      subst this
      have lc := fb_ct_le (anK x.testBit 48) 6
      refine z_X9_isOfOne_4 ⟨fun _ => ?_, fun c => absurd (by decide) c⟩
      rw [show (1 : Int32) = nI 1 from rfl, nI_eq (by omega) (by decide)]
      exact ⟨h0, h1⟩
    | succ j ih =>
      intro k hk
      have st := ih (k + 1) (by omega)
      rw [fb_ct_succ] at st
      have sm : ∀ l, l < 6 → (((nI (8 * l)).toInt64 &&& 63).toBitVec.smod 64).toNat = 8 * l := by decide +kernel
      have e : lg_cmp ((lN x >>> ((8 * nI k).toInt64 &&& 63)) &&& 255) 0 = 0 ↔ anK x.testBit 48 k = false := by
        have hd := Nat.div_le_self x (2 ^ (8 * k))
        have hm := Nat.mod_lt (x / 2 ^ (8 * k)) (show 2 ^ 8 > 0 by decide)
        rw [show (8 : Int32) * nI k = nI (8 * k) from pk_mul 8 k, pf_shr (sm k (by omega)) (by omega), show (255 : Int64) = lN (2 ^ 8 - 1) by decide, fb_maskL, lN_z (by omega), anK_f]
        constructor
        · intro z i hi e
          have t := congrArg (fun y => Nat.testBit y (i % 8)) z
          try dsimp only at t
          rw [Nat.testBit_mod_two_pow, Nat.testBit_div_two_pow, decide_eq_true (show i % 8 < 8 by omega), Bool.true_and, Nat.zero_testBit, show i % 8 + 8 * k = i by omega] at t
          exact t
        · intro z
          apply Nat.eq_of_testBit_eq
          intro i
          rw [Nat.testBit_mod_two_pow, Nat.testBit_div_two_pow, Nat.zero_testBit]
          by_cases c : i < 8
          · rw [z (i + 8 * k) (by omega) (by omega), Bool.and_false]
          · rw [decide_eq_false c, Bool.false_and]
      refine z_X9_isOfOne_4 ⟨fun c => absurd c (nI_ge (b := 6) (by omega) (by omega)), fun _ => ?_⟩
      rw [e, nI_1 k, nI_1 (fb_ct _ _), show ∀ n, nI n + 0 = nI n from fun n => nI_add n 0]
      refine ⟨fun c => ?_, fun c => ?_⟩
      · have c2 : anK x.testBit 48 k = true := by cases q : anK x.testBit 48 k with
          | true => rfl
          | false => exact absurd q c
        rw [c2, if_pos rfl] at st; exact st
      · rw [c, if_neg (by decide), Nat.add_zero] at st; exact st
  exact key 6 0 (by omega)
theorem c_take {K : Mm → Prop} {n : Nat} {st : Nat × (Nat → Nat)} {ws : Nat → Nat} (hs : SG b S G nm) (hl : LvW b nm S n st ws) (hm : MchC M b G) (hc : ClC M st) (hK : ∀ M1, FrX M M1 → ClC M1 (bldF b G st.2 (2 * st.1)) → K M1) : ACv (d + 2) X3_takeAnyBeat [.ref 31] M K := by
  have hb0 := hs.1
  have hb := hs.2.1
  have l48 := hl.le
  refine w_X3_takeAnyBeat ?_
  have one : ∀ (k : Nat) (N : Mm) (K' : Mm → Prop), k < 2 * st.1 → FrX M N → ClC N st → (∀ i, i < (bldF b G st.2 k).1 → N.2 33 i = lN ((bldF b G st.2 k).2 i)) → (∀ N1, FrX M N1 → ClC N1 st → (∀ i, i < (bldF b G st.2 (k + 1)).1 → N1.2 33 i = lN ((bldF b G st.2 (k + 1)).2 i)) → lp_X3_takeAnyBeat_14 (d + 1) N1 (nI (bldF b G st.2 (k + 1)).1) (nI (k / 2)) (nI (k % 2 + 1)) K') → lp_X3_takeAnyBeat_14 (d + 1) N (nI (bldF b G st.2 k).1) (nI (k / 2)) (nI (k % 2)) K' := by
    intro k N K' hk f g g33 hN
    have hi := hl.1 (k / 2) (by omega)
    have xl : st.2 (k / 2) < 281474976710656 := by rw [hi.2]; exact RN_lt
    obtain ⟨ws', lw, -⟩ := lvw_bld hs hl (k + 1) (by omega)
    have l1 := lw.le
    obtain ⟨ws2, lw2, -⟩ := lvw_bld hs hl k (by omega)
    have l2 := lw2.le
    have hbe : nI (k % 2) = if decide (k % 2 = 1) = true then 1 else 0 := by
      by_cases c : k % 2 = 1
      · rw [decide_eq_true c, c]; rfl
      · rw [decide_eq_false c, show k % 2 = 0 by omega]; rfl
    refine z_X3_takeAnyBeat_14 ⟨fun c => ?_, fun _ => ⟨vp_in_nI (by omega) (by decide), ?_⟩⟩
    · rw [show (1 : Int32) = nI 1 from rfl, nI_ltI (by decide) (by omega)] at c
      omega
    · rw [nI_clamp (by omega), g.2 (k / 2) (by omega), nI_1 (k % 2)]
      rw [show Value.int (nI (k % 2)) = Value.int (if decide (k % 2 = 1) = true then 1 else 0) from congrArg _ hbe]
      refine c_behind (hm.fr f) (by omega) hb xl (fun i h z => hs.2.2.1 i (by rw [hi.2] at z; exact (RN_word h z).1)) ?_
      rw [lN_z nxN_lt]
      have bs := bldF_s b G st.2 k
      refine ⟨fun c => ?_, fun c => ?_⟩
      · rw [if_pos c] at bs
        have := hN N f g (by rw [bs]; exact g33)
        rw [bs] at this
        exact this
      · rw [if_neg c] at bs
        have l3 : (bldF b G st.2 k).1 + 1 ≤ 48 := by rw [bs] at l1; exact l1
        refine ⟨fun z => absurd z (nI_ge (b := 48) (by omega) (by omega)), fun _ => ⟨vp_in_nI (by omega) (by decide), ?_⟩⟩
        rw [nI_clamp (by omega), nI_1]
        have := hN (wL N 33 (bldF b G st.2 k).1 (lN (nxN b G (decide (k % 2 = 1)) (st.2 (k / 2))))) (f.tr ⟨fun _ _ => rfl, fun _ _ => rfl, fun q _ a => wL_ne a⟩) ⟨g.1, fun i h => by rw [wL_ne (by decide)]; exact g.2 i h⟩ (by
          rw [bs]
          intro i h
          dsimp only at *
          by_cases e : i = (bldF b G st.2 k).1
          · rw [if_pos e, rL, if_pos ⟨rfl, e⟩]
          · rw [if_neg e, rL, if_neg (fun y => e y.2)]; exact g33 i (by omega))
        rw [bs] at this
        exact this
  have key : ∀ (j i : Nat) (N : Mm), i + j = st.1 → FrX M N → ClC N st → (∀ i', i' < (bldF b G st.2 (2 * i)).1 → N.2 33 i' = lN ((bldF b G st.2 (2 * i)).2 i')) → lp_X3_takeAnyBeat_4 (d + 1) N (nI (bldF b G st.2 (2 * i)).1) (nI i) K := by
    intro j
    induction j with
    | zero =>
      intro i N hi f g g33
      have : i = st.1 := by omega
      subst this
      obtain ⟨ws2, lw2, -⟩ := lvw_bld hs hl (2 * st.1) (Nat.le_refl _)
      have l2 := lw2.le
      refine z_X3_takeAnyBeat_4 ?_
      rw [g.1, nI_clamp (by omega)]
      refine ⟨fun _ => ⟨nI_pos (by omega), by omega, by omega, hK _ (f.tr ⟨fun q hq => by rw [rCL1, wI_ne hq], fun j hj => by rw [rCL1]; simp [rI, hj], fun q h1 _ => by rw [cpL_ne h1]; rfl⟩) ⟨by rw [rCL1]; simp [rI], fun i hi => ?_⟩⟩, fun c => absurd (nI_le (by omega) (by omega)) c⟩
      rw [rCL, if_pos rfl, if_pos ⟨Nat.zero_le _, by omega⟩, rI2, Nat.zero_add, Nat.sub_zero]
      exact g33 i hi
    | succ j ih =>
      intro i N hi f g g33
      have a := one (2 * i) N K (by omega) f g g33
      rw [show 2 * i / 2 = i by omega, show 2 * i % 2 = 0 by omega] at a
      refine z_X3_takeAnyBeat_4 ?_
      rw [g.1]
      refine ⟨fun c => absurd c (nI_ge (by omega) (by omega)), fun _ => a (fun N1 f1 g1 h1 => ?_)⟩
      have a2 := one (2 * i + 1) N1 K (by omega) f1 g1 h1
      rw [show (2 * i + 1) / 2 = i by omega, show (2 * i + 1) % 2 = 1 by omega] at a2
      refine a2 (fun N2 f2 g2 h2 => z_X3_takeAnyBeat_14 ⟨fun _ => ?_, fun c => absurd (by decide) c⟩)
      rw [nI_1]
      exact ih (i + 1) N2 (by omega) f2 g2 h2
  have := key st.1 0 M (by omega) FrX.rf hc (fun i' h' => absurd h' (by rw [Nat.mul_zero, bldF]; exact Nat.not_lt_zero _))
  rw [Nat.mul_zero, bldF] at this
  exact this
theorem c_named {K : Int32 → Mm → Prop} (hs : SG b S G nm) (hm : MchC M b G) (hc : ClC M (lvF b G (bsN S 48) 0)) (hK : ∀ M1, FrX M M1 → K (resF b G (bsN S 48) 41 0) M1) : ACi (d + 3) X3_named [.ref 31] M K := by
  refine w_X3_named ?_
  have key : ∀ (j n : Nat) (N : Mm), n + j = 41 → FrX M N → ClC N (lvF b G (bsN S 48) n) → resF b G (bsN S 48) j n = resF b G (bsN S 48) 41 0 → lp_X3_named_2 (d + 2) N (nI n) K := by
    intro j
    induction j with
    | zero =>
      intro n N hn f g hr
      have : n = 41 := by omega
      subst this
      obtain ⟨ws, lw⟩ := lvw_lv hs 41
      rw [resF] at hr
      have hk := hK N f
      rw [← hr] at hk
      exact z_X3_named_2 ⟨fun _ => hk, fun _ => ⟨fun _ => hk, fun c => absurd (by decide) c⟩⟩
    | succ j ih =>
      intro n N hn f g hr
      obtain ⟨ws, lw⟩ := lvw_lv hs n
      have l48 := lw.le
      have hk := hK N f
      refine z_X3_named_2 ?_
      rw [g.1, show (0 : Int32) = nI 0 from rfl, nI_leI (by omega) (by decide)]
      rw [resF] at hr
      refine ⟨fun c => ?_, fun c => ⟨fun c2 => ?_, fun _ => c_allOneC g l48 (fun i hi => by rw [(lw.1 i hi).2]; exact RN_lt) (fun q => ⟨fun z => absurd z (by decide), fun _ => ?_⟩) (fun q => ⟨fun _ => c_take hs lw (hm.fr f) g (fun N1 f1 g1 => ?_), fun z => absurd rfl z⟩)⟩⟩
      · rw [if_pos (by omega)] at hr
        rw [← hr] at hk
        exact hk
      · rw [show (40 : Int32) = nI 40 from rfl, nI_ltI (by decide) (by omega)] at c2
        omega
      · rw [if_neg (by omega), if_pos q] at hr
        rw [← hr] at hk
        exact hk
      · rw [if_neg (by omega), if_neg q] at hr
        rw [nI_1]
        exact ih (n + 1) N1 (by omega) (f.tr f1) g1 hr
  exact key 41 0 M (by omega) FrX.rf hc rfl
theorem c_namedM {K : Int32 → Mm → Prop} {q : Nat} (hM : BkM M b w sg nr num) (hB : BkW b w sg nr num) (hL : LtM M nl pl bo) (hW : LtW nr nl pl bo) (hs : SG b S (flB b nl num bo) nm) (hS : ∀ p, S p = true → p / 8 < nl ∧ p % 8 < b ∧ (bo (p / 8)).isSome = true) (hq : q ≤ 99) (hfs : S = fsB b sg nl pl bo q) (hK : ∀ M1, FrY M M1 → K (resF b (flB b nl num bo) (bsN S 48) 41 0) M1) : ACi (d + 3) X9_namedAt [.ref 42, .int (nI q)] M K := by
  have hb0 := hs.1
  have hb := hs.2.1
  refine w_X9_namedAt (c_firstM hM hB hL hW hq ?_)
  rw [← hfs, lN_z (bsL S)]
  have key : ∀ (j n : Nat) (N : Mm), n + j = 41 → FrY M N → ClM N 63 (lvF b (flB b nl num bo) (bsN S 48) n) → resF b (flB b nl num bo) (bsN S 48) j n = resF b (flB b nl num bo) (bsN S 48) 41 0 → lp_X9_namedAt_30 (d + 2) N (nI (lvF b (flB b nl num bo) (bsN S 48) n).1) (nI n) K := by
    intro j
    induction j with
    | zero =>
      intro n N hn f g hr
      have : n = 41 := by omega
      subst this
      rw [resF] at hr
      have hk := hK N f
      rw [← hr] at hk
      exact z_X9_namedAt_30 ⟨fun _ => hk, fun c => absurd (by decide) c⟩
    | succ j ih =>
      intro n N hn f g hr
      obtain ⟨ws, lw⟩ := lvw_lv hs n
      have l48 := lw.le
      have hk := hK N f
      rw [resF] at hr
      generalize hst : lvF b (flB b nl num bo) (bsN S 48) n = st at *
      have xl : ∀ i, i < st.1 → st.2 i < 281474976710656 := fun i hi => by rw [(lw.1 i hi).2]; exact RN_lt
      refine z_X9_namedAt_30 ?_
      rw [show (0 : Int32) = nI 0 from rfl, nI_leI (by omega) (by decide)]
      refine ⟨fun c => absurd c (nI_ge (b := 41) (by omega) (by omega)), fun _ => ⟨fun c => ?_, fun c => ?_⟩⟩
      · rw [if_pos (by omega)] at hr
        rw [← hr] at hk
        exact hk
      · rw [if_neg (by omega)] at hr
        -- on to the next level
        have on : ¬ allOne st → lp_X9_namedAt_96 (d + 2) N (nI st.1) (nI n) 0 0 K := by
          intro hna
          rw [if_neg hna] at hr
          have cop : ∀ (N1 : Mm), FrY M N1 → (∀ i, i < (bldF b (flB b nl num bo) st.2 (2 * st.1)).1 → N1.2 64 i = lN ((bldF b (flB b nl num bo) st.2 (2 * st.1)).2 i)) → lp_X9_namedAt_154 (d + 2) N1 (nI (bldF b (flB b nl num bo) st.2 (2 * st.1)).1) (nI n) 0 K := by
            intro N1 f1 g1
            obtain ⟨ws2, lw2, -⟩ := lvw_bld hs lw (2 * st.1) (Nat.le_refl _)
            have l2 := lw2.le
            have nxt := ih (n + 1)
            rw [show lvF b (flB b nl num bo) (bsN S 48) (n + 1) = bldF b (flB b nl num bo) st.2 (2 * st.1) by rw [lvF, hst]] at nxt
            have cp : ∀ (j3 i : Nat) (N2 : Mm), i + j3 = (bldF b (flB b nl num bo) st.2 (2 * st.1)).1 → FrY M N2 → N2.2 64 = N1.2 64 → (∀ i', i' < i → N2.2 63 i' = N1.2 64 i') → lp_X9_namedAt_154 (d + 2) N2 (nI (bldF b (flB b nl num bo) st.2 (2 * st.1)).1) (nI n) (nI i) K := by
              intro j3
              induction j3 with
              | zero =>
                intro i N2 hi f2 g2 g3
                refine z_X9_namedAt_154 ⟨fun _ => ?_, fun c => absurd (nI_le (by omega) (by omega)) c⟩
                rw [nI_1]
                exact nxt N2 (by omega) f2 (fun i' hi' => (g3 i' (by omega)).trans (g1 i' hi')) hr
              | succ j3 ih3 =>
                intro i N2 hi f2 g2 g3
                have vi : vp_in (nI i) 128 := vp_in_nI (by omega) (by decide)
                refine z_X9_namedAt_154 ⟨fun c => absurd c (nI_ge (by omega) (by omega)), fun _ => ⟨vi, vi, ?_⟩⟩
                rw [nI_clamp (by omega), nI_1 i]
                refine ih3 (i + 1) _ (by omega) (f2.tr ⟨rfl, fun q _ a _ => wL_ne a⟩) ((wL_ne (by decide)).trans g2) (fun i' hi' => ?_)
                by_cases e : i' = i
                · rw [rL, if_pos ⟨rfl, e⟩, g2, e]
                · rw [rL, if_neg (fun y => e y.2)]; exact g3 i' (by omega)
            exact cp _ 0 N1 (Nat.zero_add _) f1 rfl (fun i' hi' => absurd hi' (by omega))
          have bl : ∀ (j2 k : Nat) (N1 : Mm), k + j2 = 2 * st.1 → FrY M N1 → ClM N1 63 st → (∀ i, i < (bldF b (flB b nl num bo) st.2 k).1 → N1.2 64 i = lN ((bldF b (flB b nl num bo) st.2 k).2 i)) → lp_X9_namedAt_96 (d + 2) N1 (nI st.1) (nI n) (nI (bldF b (flB b nl num bo) st.2 k).1) (nI k) K := by
            intro j2
            induction j2 with
            | zero =>
              intro k N1 hk f1 g1 g2
              have : k = 2 * st.1 := by omega
              subst this
              refine z_X9_namedAt_96 ?_
              rw [show (2 : Int32) * nI st.1 = nI (2 * st.1) from pk_mul 2 _]
              exact ⟨fun _ => cop N1 f1 g2, fun c => absurd (nI_le (by omega) (by omega)) c⟩
            | succ j2 ih2 =>
              intro k N1 hk f1 g1 g2
              have hM1 : BkM N1 b w sg nr num := hM.of (fun j _ _ => by rw [f1.1]) (by rw [f1.1])
              have hL1 : LtM N1 nl pl bo := hL.of (by rw [f1.1]) (by rw [f1.1])
              have hi := lw.1 (k / 2) (by omega)
              obtain ⟨ws', lw1, -⟩ := lvw_bld hs lw (k + 1) (by omega)
              have l1 := lw1.le
              have bs := bldF_s b (flB b nl num bo) st.2 k
              have nx2 := ih2 (k + 1)
              refine z_X9_namedAt_96 ?_
              rw [show (2 : Int32) * nI st.1 = nI (2 * st.1) from pk_mul 2 _, show nI k - nI k / 2 * 2 = nI (k % 2) from pk_rem (d := 2) (by omega) (by decide) (by decide), show nI k / 2 = nI (k / 2) from pk_div (d := 2) (by omega) (by decide) (by decide), nI_clamp (n := k / 2) (by omega), g1 (k / 2) (by omega), nI_1 k]
              have hbe : nI (k % 2) = if decide (k % 2 = 1) = true then 1 else 0 := by
                by_cases c : k % 2 = 1
                · rw [decide_eq_true c, c]; rfl
                · rw [decide_eq_false c, show k % 2 = 0 by omega]; rfl
              rw [hbe]
              refine ⟨fun c => absurd c (nI_ge (by omega) (by omega)), fun _ => ⟨vp_in_nI (by omega) (by decide), c_becomes hM1 hB hL1 hW (xl _ (by omega)) (fun i h z => hS i (by rw [hi.2] at z; exact (RN_word h z).1)) ?_⟩⟩
              rw [lN_z nxN_lt]
              refine ⟨fun c => ?_, fun c => ?_⟩
              · rw [if_pos c] at bs
                rw [bs] at nx2
                exact nx2 N1 (by omega) f1 g1 g2
              · rw [if_neg c] at bs
                have l3 : (bldF b (flB b nl num bo) st.2 k).1 + 1 ≤ 48 := by rw [bs] at l1; exact l1
                refine ⟨vp_in_nI (by omega) (by decide), ?_⟩
                rw [nI_clamp (by omega), nI_1]
                rw [bs] at nx2
                refine nx2 (wL N1 64 (bldF b (flB b nl num bo) st.2 k).1 (lN (nxN b (flB b nl num bo) (decide (k % 2 = 1)) (st.2 (k / 2))))) (by omega) (f1.tr ⟨rfl, fun q _ _ a => wL_ne a⟩) (fun i h => by rw [wL_ne (by decide)]; exact g1 i h) (fun i h => ?_)
                dsimp only at *
                by_cases e : i = (bldF b (flB b nl num bo) st.2 k).1
                · rw [if_pos e, rL, if_pos ⟨rfl, e⟩]
                · rw [if_neg e, rL, if_neg (fun y => e y.2)]; exact g2 i (by omega)
          have := bl (2 * st.1) 0 N (by omega) f g (fun i h => absurd h (by rw [bldF]; exact Nat.not_lt_zero _))
          rw [bldF] at this
          exact this
        have scan : ∀ (j2 i : Nat) (v4 : Int32), i + j2 = st.1 → ((v4 = 1 ∧ ∀ i', i' < i → ofOne (st.2 i')) ∨ (v4 = 0 ∧ ¬ allOne st)) → lp_X9_namedAt_46 (d + 2) N (nI st.1) (nI n) v4 (nI i) K := by
          intro j2
          induction j2 with
          | zero =>
            intro i v4 hi h4
            refine z_X9_namedAt_46 ⟨fun _ => ⟨fun z => ?_, fun z => ?_⟩, fun c => absurd (nI_le (by omega) (by omega)) c⟩
            · rcases h4 with ⟨y, -⟩ | ⟨-, y⟩
              · rw [y] at z; exact absurd z (by decide)
              · exact on y
            · rcases h4 with ⟨-, y⟩ | ⟨y, -⟩
              · rw [if_pos (show allOne st from fun i' hi' => y i' (by omega))] at hr
                rw [← hr] at hk
                exact hk
              · exact absurd y z
          | succ j2 ih2 =>
            intro i v4 hi h4
            refine z_X9_namedAt_46 ⟨fun c => absurd c (nI_ge (by omega) (by omega)), fun _ => ⟨fun z => ?_, fun z => ⟨vp_in_nI (by omega) (by decide), ?_⟩⟩⟩
            · rcases h4 with ⟨y, -⟩ | ⟨-, y⟩
              · rw [y] at z; exact absurd z (by decide)
              · rw [nI_1]; exact ih2 (i + 1) 0 (by omega) (Or.inr ⟨rfl, y⟩)
            · rcases h4 with ⟨-, y⟩ | ⟨y, -⟩
              · rw [nI_clamp (by omega), g i (by omega), nI_1]
                refine c_isOfOne (xl i (by omega)) (fun q => ⟨fun z => absurd z (by decide), fun _ => ih2 (i + 1) 1 (by omega) (Or.inl ⟨rfl, fun i' hi' => ?_⟩)⟩) (fun q => ⟨fun _ => ih2 (i + 1) 0 (by omega) (Or.inr ⟨rfl, fun z => q (z i (by omega))⟩), fun z => absurd rfl z⟩)
                by_cases e : i' = i
                · subst e; exact q
                · exact y i' (by omega)
              · exact absurd y z
        exact scan st.1 0 1 (by omega) (Or.inl ⟨rfl, fun i' hi' => absurd hi' (by omega)⟩)
  have fin := key 41 0 (wL M 63 0 (lN (bsN S 48))) (by omega) ⟨rfl, fun q _ a _ => wL_ne a⟩ (fun i hi => by
    rw [lvF] at hi ⊢
    dsimp only at hi ⊢
    have : i = 0 := by
      split at hi <;> omega
    rw [this]
    simp [rL]) rfl
  rw [lvF] at fin
  dsimp only at fin
  refine ⟨fun c => ?_, fun c => ?_⟩
  · rw [if_neg c] at fin; exact fin
  · rw [if_pos c] at fin; exact fin
end MP
