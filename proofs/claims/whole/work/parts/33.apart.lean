/-! APART and LOAD. -/
section AP
variable {d : Nat} {M : Mm} {b w sg nr : Nat} {num : Nat → Nat}
def apR (b n1 n2 : Nat) (x : Int32) : Prop := (∃ u, 1 ≤ u ∧ u ≤ b ∧ x = nI u ∧ ¬ lkP b u n1 n2 0 ∧ ∀ v, 1 ≤ v → v < u → lkP b v n1 n2 0) ∨ (x = -1 ∧ ∀ v, 1 ≤ v → v ≤ b → lkP b v n1 n2 0)
theorem apR_one {b n1 n2 : Nat} {x y : Int32} (hx : apR b n1 n2 x) (hy : apR b n1 n2 y) : x = y := by
  rcases hx with ⟨u, a1, a2, a3, a4, a5⟩ | ⟨a1, a2⟩ <;> rcases hy with ⟨v, b1, b2, b3, b4, b5⟩ | ⟨b1, b2⟩
  · rcases Nat.lt_trichotomy u v with h | h | h
    · exact absurd (b5 u a1 h) a4
    · subst h; rw [a3, b3]
    · exact absurd (a5 v b1 h) b4
  · exact absurd (b2 u a1 a2) a4
  · exact absurd (a2 v b1 b2) b4
  · rw [a1, b1]
theorem c_apC {K : Int32 → Mm → Prop} {r o : Nat} (hC : BkC M b w sg nr num) (hW : BkW b w sg nr num) (hr : r < nr) (ho : o < nr) (h : ∀ x, apR b (num r) (num o) x → K x M) : lp_X8_apart_27 (d + 2) M (nI r) (nI o) 1 K := by
  have w2 := hW.2.1
  have key : ∀ (j i : Nat), i + j = b + 1 → 1 ≤ i → (∀ v, 1 ≤ v → v < i → lkP b v (num r) (num o) 0) → lp_X8_apart_27 (d + 2) M (nI r) (nI o) (nI i) K := by
    intro j
    induction j with
    | zero =>
      intro i hi h1 hl
      refine z_X8_apart_27 ?_
      rw [hC.1]
      exact ⟨fun _ => h _ (Or.inr ⟨rfl, fun v a1 a2 => hl v a1 (by omega)⟩), fun c => absurd (nI_lt (by omega) (by omega)) c⟩
    | succ j ih =>
      intro i hi h1 hl
      refine z_X8_apart_27 ?_
      rw [hC.1]
      refine ⟨fun c => absurd c (nI_nlt (by omega) (by omega)), fun _ => c_shareRow (s := 0) hC hW hr ho (by omega) (by decide) (fun l => ⟨fun _ => ?_, fun z => absurd z (by decide)⟩) (fun l => ⟨fun z => absurd rfl z, fun _ => h _ (Or.inl ⟨i, h1, by omega, rfl, l, hl⟩)⟩)⟩
      rw [nI_1]
      refine ih (i + 1) (by omega) (by omega) (fun v a1 a2 => ?_)
      by_cases e : v = i
      · subst e; exact l
      · exact hl v a1 (by omega)
  exact key b 1 (by omega) (by omega) (fun v a1 a2 => absurd a2 (by omega))
theorem c_apM {K : Int32 → Mm → Prop} {r o : Nat} (hM : BkM M b w sg nr num) (hW : BkW b w sg nr num) (hr : r < nr) (ho : o < nr) (h : ∀ x, apR b (num r) (num o) x → K x M) : lp_X9_apart_21 (d + 3) M (nI r) (nI o) 1 K := by
  have w2 := hW.2.1
  have key : ∀ (j i : Nat), i + j = b + 1 → 1 ≤ i → (∀ v, 1 ≤ v → v < i → lkP b v (num r) (num o) 0) → lp_X9_apart_21 (d + 3) M (nI r) (nI o) (nI i) K := by
    intro j
    induction j with
    | zero =>
      intro i hi h1 hl
      refine z_X9_apart_21 ?_
      rw [hM.1]
      exact ⟨fun _ => h _ (Or.inr ⟨rfl, fun v a1 a2 => hl v a1 (by omega)⟩), fun c => absurd (nI_lt (by omega) (by omega)) c⟩
    | succ j ih =>
      intro i hi h1 hl
      refine z_X9_apart_21 ?_
      rw [hM.1]
      refine ⟨fun c => absurd c (nI_nlt (by omega) (by omega)), fun _ => c_areLike (s := 0) hM hW hr ho (by omega) (by decide) (fun l => ⟨fun _ => ?_, fun z => absurd z (by decide)⟩) (fun l => ⟨fun z => absurd rfl z, fun _ => h _ (Or.inl ⟨i, h1, by omega, rfl, l, hl⟩)⟩)⟩
      rw [nI_1]
      refine ih (i + 1) (by omega) (by omega) (fun v a1 a2 => ?_)
      by_cases e : v = i
      · subst e; exact l
      · exact hl v a1 (by omega)
  exact key b 1 (by omega) (by omega) (fun v a1 a2 => absurd a2 (by omega))
theorem p_apart {v1 v2 : Int32} (hC : BkC M b w sg nr num) (hM : BkM M b w sg nr num) (hW : BkW b w sg nr num) : Pr0 X8_apart X9_apart [.int v1, .int v2] M := by
  intro d
  refine w_X8_apart (c_hasRhythm hC hW (fun r hr e => ⟨fun z => absurd z (by decide), fun _ => c_hasRhythm hC hW (fun o ho e2 => ⟨fun _ => ?_, fun z => absurd z (by decide)⟩) (fun hno => ⟨fun z => absurd rfl z, fun _ => ?_⟩)⟩) (fun hno => ⟨fun _ => ?_, fun z => absurd rfl z⟩))
  · subst e
    subst e2
    refine c_apC hC hW hr ho (fun x hx => w_X9_apart (c_isRhythm hM hW (fun _ _ _ => ⟨fun z => absurd z (by decide), fun _ => c_isRhythm hM hW (fun _ _ _ => ⟨fun _ => c_apM hM hW hr ho (fun y hy => ⟨apR_one hx hy, rfl⟩), fun z => absurd z (by decide)⟩) (fun hno => absurd rfl (hno o ho))⟩) (fun hno => absurd rfl (hno r hr))))
  · subst e
    exact w_X9_apart (c_isRhythm hM hW (fun _ _ _ => ⟨fun z => absurd z (by decide), fun _ => c_isRhythm hM hW (fun o ho e2 => absurd e2 (hno o ho)) (fun _ => ⟨fun z => absurd rfl z, fun _ => ⟨rfl, rfl⟩⟩)⟩) (fun hn2 => absurd rfl (hn2 r hr)))
  · exact w_X9_apart (c_isRhythm hM hW (fun r hr e => absurd e (hno r hr)) (fun _ => ⟨fun _ => ⟨rfl, rfl⟩, fun z => absurd rfl z⟩))
theorem rowN_bit (b n k : Nat) {u i : Nat} (h : i < u) : rowN b n k u / 2 ^ i % 2 = bitN b n (k + (u - 1 - i)) := by
  have e := rowN_cut b n k (u - i) i
  rw [show u - i + i = u by omega] at e
  rw [e, show u - i = (u - 1 - i) + 1 by omega, rowN]
  have := bitN_lt b n (k + (u - 1 - i))
  omega
def blL (b n k : Nat) : Nat → List Int32
  | 0 => []
  | j + 1 => blL b n k j ++ [nI (bitN b n (k + j))]
theorem blL_len (b n k : Nat) : ∀ j, (blL b n k j).length = j
  | 0 => rfl
  | j + 1 => by simp [blL, blL_len b n k j]
theorem blL_num (b n k : Nat) : ∀ j, ∀ x ∈ blL b n k j, isNum x
  | 0, x, h => by simp [blL] at h
  | j + 1, x, h => by
    rcases List.mem_append.mp h with q | q
    · exact blL_num b n k j x q
    · simp at q
      have := bitN_lt b n (k + j)
      rw [q]
      unfold isNum
      rw [tN (by omega)]
      omega
theorem c_loadC {K : Int32 → Mm → Prop} {a n k : Nat} {xs : List Int32} (ha : isTp a) (hb1 : 3 ≤ b) (hb : b ≤ 8) (hl : xs.length + b ≤ 12) (h : TpC M a true xs) (hK : ∀ M', TpC M' a true (xs ++ blL b n k b) → ExC a M M' → K (nI (xs.length + b)) M') : lp_X8_load_98 (d + 1) M a (nI (rowN b n k b)) (nI (b - 1)) K := by
  have hrow : rowN b n k b < 256 := row256 hb
  have key : ∀ (j : Nat) (N : Mm), j ≤ b → TpC N a true (xs ++ blL b n k (b - j)) → ExC a M N → lp_X8_load_98 (d + 1) N a (nI (rowN b n k b)) (nI j - 1) K := by
    intro j
    induction j with
    | zero =>
      intro N hj hT hE
      refine z_X8_load_98 ha ⟨fun _ => ?_, fun c => absurd (by decide) c⟩
      rw [hT.2.1]
      have := hK N (by simpa using hT) hE
      simpa [blL_len] using this
    | succ j ih =>
      intro N hj hT hE
      rw [nI_pred]
      refine z_X8_load_98 ha ⟨fun c => absurd c (nI_pos (by omega)), fun _ => ?_⟩
      rw [shr1 (by omega) (by omega), rowN_bit b n k (by omega)]
      refine c_addBehind ha hT (by simp [blL_len]; omega) (fun M1 hT1 hE1 => ?_)
      have e : nI j + -1 = nI j - 1 := by rw [Int32.sub_eq_add_neg]
      rw [e]
      refine ih M1 (by omega) ?_ (hE.tr hE1)
      rw [show b - j = (b - (j + 1)) + 1 by omega, blL, ← List.append_assoc, show b - (j + 1) = b - 1 - j by omega]
      rw [show b - (j + 1) = b - 1 - j by omega] at hT1
      exact hT1
  have := key b M (Nat.le_refl _) (by simpa [blL] using h) ExC.rf
  rwa [show nI b - 1 = nI (b - 1) by rw [show (1 : Int32) = nI 1 from rfl, pk_sub (by omega)]] at this
theorem c_loadM {K : Int32 → Mm → Prop} {t r k : Nat} {xs : List Int32} (ht : t < 3) (hM : BkM M b w sg nr num) (hW : BkW b w sg nr num) (hr : r < nr) (hk : k < b) (hl : xs.length + b ≤ 12) (h : TpM M t true xs) (hK : ∀ M', TpM M' t true (xs ++ blL b (num r) k b) → ExM t M M' → K (nI (xs.length + b)) M') : lp_X9_load_71 (d + 1) M (nI t) (nI r) (nI k) 0 K := by
  have w1 := hW.1
  have w2 := hW.2.1
  have key : ∀ (j i : Nat) (N : Mm), i + j = b → TpM N t true (xs ++ blL b (num r) k i) → ExM t M N → lp_X9_load_71 (d + 1) N (nI t) (nI r) (nI k) (nI i) K := by
    intro j
    induction j with
    | zero =>
      intro i N hi hT hE
      have : i = b := by omega
      subst this
      have hN : N.1 42 1 = nI i := by rw [hE.2.1 42 (by decide) (by decide)]; exact hM.1
      refine z_X9_load_71 ?_
      rw [hN]
      refine ⟨fun _ => ⟨vp_in_nI ht (by decide), ?_⟩, fun c => absurd (nI_le (by omega) (by omega)) c⟩
      rw [nI_clamp (by omega), hT.1]
      have := hK N hT hE
      simpa [blL_len] using this
    | succ j ih =>
      intro i N hi hT hE
      have hN : BkM N b w sg nr num := by
        unfold BkM at *
        rw [hE.2.1 42 (by decide) (by decide), hE.2.1 44 (by decide) (by decide)]
        exact hM
      refine z_X9_load_71 ?_
      rw [hN.1, nI_add]
      refine ⟨fun c => absurd c (nI_ge (by omega) (by omega)), fun _ => c_beatOf hN hW hr (by omega) (c_putB ht hT (by simp [blL_len]; omega) (fun M1 hT1 hE1 => ?_))⟩
      rw [nI_1]
      refine ih (i + 1) M1 (by omega) ?_ (hE.tr hE1)
      rw [blL, ← List.append_assoc]
      exact hT1
  exact key b 0 M (by omega) (by simpa [blL] using h) ExM.rf
theorem tp_load {v1 v2 v3 : Int32} (h : TapesI M) (hC : BkC M b w sg nr num) (hM : BkM M b w sg nr num) (hW : BkW b w sg nr num) : PrT X8_load X9_load [.int v1, .int v2, .int v3] M := by
  have w1 := hW.1
  have w2 := hW.2.1
  have w7 := hW.2.2.2.2.2.2.1
  intro d
  refine w_X8_load (c_tapeAt (fun t ht e => ⟨fun z => (by cases z), fun a ea => ?_⟩) (fun hb => ⟨fun _ => ?_, fun a z => (by cases z)⟩))
  · cases ea
    have hp : isTp (36 + 2 * t) := by unfold isTp; omega
    obtain ⟨hr, xs, g1, g2, g3, g4⟩ := h t ht
    have vt : vp_in v1 3 := by rw [e]; exact vp_in_nI ht (by decide)
    have et : v1.toNatClampNeg = t := by rw [e]; exact nI_clamp (by omega)
    have bad : ∀ (N : Mm) (K : Int32 → Mm → Prop) (d : Nat), K 1 N → ACi (d + 2) X9_isTape [.int v1] N K := fun N K d hk => c_isTape (fun _ _ _ => hk) (fun hb => absurd hb (fun z => nIlt ht e z))
    refine ⟨hp, c_hasRhythm hC hW (fun r hrr er => ⟨fun _ => ?_, fun z => absurd z (by decide)⟩) (fun hno => ⟨fun z => absurd rfl z, fun _ => ?_⟩)⟩
    · subst er
      have eb : (nI b - 1).toInt64.toInt = (b : Int) - 1 := by
        rw [Int32.toInt_toInt64, show (1 : Int32) = nI 1 from rfl, pk_sub_toInt (by omega) (by decide)]; rfl
      have tb : (nI b).toInt = b := tN (by omega)
      have out : (v3.toInt < 0 ∨ (b : Int) - 1 < v3.toInt) → ∀ d, ACi (d + 9) X9_load [.ref 42, .int v1, .int (nI r), .int v3] M (fun r' M2 => -3 = r' ∧ TapesI M2 ∧ TpFr M M2) := by
        intro hz d
        refine w_X9_load (bad _ _ _ ⟨fun z => absurd z (by decide), fun _ => c_isRhythm hM hW (fun _ _ _ => ⟨fun _ => ?_, fun z => absurd z (by decide)⟩) (fun hno => absurd rfl (hno r hrr))⟩)
        rw [hM.1]
        exact c_in (l := 0) (u := (b : Int) - 1) (by decide) eb (fun a b => by omega) (fun _ => ⟨fun z => absurd rfl z, fun _ => ⟨rfl, h, TpFr.rf⟩⟩)
      rw [hC.1]
      refine ⟨fun c => out (Or.inl (by rw [fa_lt, tI0] at c; exact c)) _, fun c => ⟨fun c2 => ?_, fun c2 => out (Or.inr (by rw [fa_lt, tb] at c2; omega)) _⟩⟩
      rw [fa_lt, tI0] at c
      rw [fa_lt, tb] at c2
      obtain ⟨k, hk, rfl⟩ := i_of (x := v3) (n := b) (by omega) (by omega)
      have mod : ∀ (N : Mm) (K : Int32 → Mm → Prop) (d : Nat), BkM N b w sg nr num → ((0 ≤ N.1 50 t → ((N.1 50 t + nI b ≤ 12 → lp_X9_load_71 (d + 8) N v1 (nI r) (nI k) 0 K) ∧ (¬ N.1 50 t + nI b ≤ 12 → K (-13) N))) ∧ (¬ 0 ≤ N.1 50 t → K (-11) N)) → ACi (d + 9) X9_load [.ref 42, .int v1, .int (nI r), .int (nI k)] N K := by
        intro N K d hN hk2
        refine w_X9_load (bad _ _ _ ⟨fun z => absurd z (by decide), fun _ => c_isRhythm hN hW (fun _ _ _ => ⟨fun _ => ?_, fun z => absurd z (by decide)⟩) (fun hno => absurd rfl (hno r hrr))⟩)
        rw [hN.1]
        refine c_in (l := 0) (u := (b : Int) - 1) (by decide) eb (fun _ _ => ⟨fun _ => ⟨vt, ?_⟩, fun z => absurd z (by decide)⟩) (fun z => absurd z (by rw [tN (by omega)]; omega))
        rw [et, hN.1]
        exact ⟨fun z => ⟨vt, hk2.1 z⟩, hk2.2⟩
      cases hr with
      | false =>
        refine ⟨fun c => absurd g1.1 c, fun _ => mod _ _ _ hM ?_⟩
        rw [g2.1]
        exact ⟨fun z => absurd z (show ¬ (0 : Int32) ≤ -1 by decide), fun _ => ⟨rfl, h, TpFr.rf⟩⟩
      | true =>
        have hl := g2.2.1
        refine ⟨fun _ => ?_, fun z => absurd z (b1 g1.1)⟩
        rw [g1.2.1, nI_add]
        refine ⟨fun c3 => ?_, fun c3 => ?_⟩
        · have hl3 : xs.length + b ≤ 12 := (nI_leI (b := 12) (by omega) (by decide)).mp c3
          refine c_turned hC hW hrr hk ?_
          rw [hC.1, show nI b - 1 = nI (b - 1) by rw [show (1 : Int32) = nI 1 from rfl, pk_sub (by omega)]]
          refine c_loadC hp w1 w2 hl3 g1 (fun M1 hT hE => mod _ _ _ ?_ ?_)
          · unfold BkM at *
            rw [hE.2 42 (by omega) (by omega), hE.2 44 (by omega) (by omega)]
            exact hM
          · have g2' := g2.C (by omega) hE
            have hM' : BkM M1 b w sg nr num := by
              unfold BkM at *
              rw [hE.2 42 (by omega) (by omega), hE.2 44 (by omega) (by omega)]
              exact hM
            have h50 : M1.1 50 t = nI xs.length := by rw [g2'.1]; rfl
            rw [h50, nI_add]
            refine ⟨fun _ => ⟨fun _ => ?_, fun z => absurd c3 z⟩, fun z => absurd (pos_nI (by omega)) z⟩
            rw [e]
            refine c_loadM ht hM' hW hrr hk hl3 g2' (fun M2 hT2 hE2 => ⟨rfl, h.upd (hr := true) ht hE hE2 hT hT2 (fun z => by cases z) (fun x hx => ?_)⟩)
            rcases List.mem_append.mp hx with q | q
            · exact g4 x q
            · exact blL_num _ _ _ _ x q
        · refine mod _ _ _ hM ?_
          have h50 : M.1 50 t = nI xs.length := by rw [g2.1]; rfl
          rw [h50, nI_add]
          exact ⟨fun _ => ⟨fun z => absurd z c3, fun _ => ⟨rfl, h, TpFr.rf⟩⟩, fun z => absurd (pos_nI (by omega)) z⟩
    · exact w_X9_load (bad _ _ _ ⟨fun z => absurd z (by decide), fun _ => c_isRhythm hM hW (fun r hrr er => absurd er (hno r hrr)) (fun _ => ⟨fun z => absurd rfl z, fun _ => ⟨rfl, h, TpFr.rf⟩⟩)⟩)
  · exact w_X9_load (c_isTape (fun u hu eu => absurd hb (fun z => nIlt hu eu z)) (fun _ => ⟨fun _ => ⟨rfl, h, TpFr.rf⟩, fun z => absurd rfl z⟩))
end AP
