/-! PLAN, the class's side: the search that goes back past lights that are not to blame. -/
def orb (g : Nat → Nat) : Nat → Nat
  | 0 => 0
  | l + 1 => orb g l ||| 2 ^ g l
def plP (nb lk : Nat → Nat → Bool) (nr nl : Nat) (g : Nat → Nat) : Prop := (∀ l, l < nl → g l < nr) ∧ ∀ a, a < nl → ∀ c, c < a → nb a c = true → lk (g a) (g c) = false
def lexlt (nl : Nat) (g h : Nat → Nat) : Prop := ∃ l, l < nl ∧ (∀ i, i < l → g i = h i) ∧ g l < h l
theorem orb_cong {g h : Nat → Nat} : ∀ {n : Nat}, (∀ i, i < n → g i = h i) → orb g n = orb h n
  | 0, _ => rfl
  | n + 1, e => by rw [orb, orb, orb_cong (fun i hi => e i (by omega)), e n (by omega)]
theorem orb_lt {g : Nat → Nat} {nr : Nat} (hr : nr ≤ 8) : ∀ {n : Nat}, (∀ i, i < n → g i < nr) → orb g n < 256
  | 0, _ => by show 0 < 256; decide
  | n + 1, h => by
    have h1 := orb_lt (n := n) hr (fun i hi => h i (by omega))
    have h2 := h n (by omega)
    exact Nat.or_lt_two_pow (n := 8) h1 (Nat.pow_lt_pow_right (by decide) (by omega))
theorem pc_or : ∀ S, S < 256 → ∀ r, r < 8 → pc8 S ≤ pc8 (S ||| 2 ^ r) := by decide +kernel
theorem pc_orb {g : Nat → Nat} {nr : Nat} (hr : nr ≤ 8) {k : Nat} : ∀ {n : Nat}, k ≤ n → (∀ i, i < n → g i < nr) → pc8 (orb g k) ≤ pc8 (orb g n)
  | 0, hk, _ => by have : k = 0 := by omega
                   subst this; exact Nat.le_refl _
  | n + 1, hk, h => by
    by_cases e : k = n + 1
    · subst e; exact Nat.le_refl _
    · have h1 := pc_orb (k := k) (n := n) hr (by omega) (fun i hi => h i (by omega))
      have h2 := pc_or (orb g n) (orb_lt hr (fun i hi => h i (by omega))) (g n) (by have := h n (by omega); omega)
      rw [orb]
      omega
/-- what chooseFrom finds: the coast's and the rhythms' tables -/
def PlT (M : Mm) (nl nr : Nat) (nbs sb : Nat → Nat) : Prop := M.1 26 2 = nI nl ∧ M.1 26 3 = nI nr ∧ (∀ l, l < nl → M.1 29 l = nI (nbs l)) ∧ ∀ r, r < nr → M.1 30 r = nI (sb r)
/-- what it may change, from light on -/
def PlF (light : Nat) (M M1 : Mm) : Prop := M1.2 = M.2 ∧ (∀ q, q ≠ 26 → q ≠ 27 → q ≠ 28 → M1.1 q = M.1 q) ∧ (∀ j, j ≠ 0 → M1.1 26 j = M.1 26 j) ∧ ∀ i, i < light → M1.1 28 i = M.1 28 i
theorem PlF.tr {light : Nat} {M M1 M2 : Mm} (h : PlF light M M1) (h2 : PlF light M1 M2) : PlF light M M2 := ⟨h2.1.trans h.1, fun q a b c => (h2.2.1 q a b c).trans (h.2.1 q a b c), fun j a => (h2.2.2.1 j a).trans (h.2.2.1 j a), fun i a => (h2.2.2.2 i a).trans (h.2.2.2 i a)⟩
theorem PlF.le {l k : Nat} {M M1 : Mm} (h : PlF k M M1) (hl : l ≤ k) : PlF l M M1 := ⟨h.1, h.2.1, h.2.2.1, fun i hi => h.2.2.2 i (by omega)⟩
theorem PlF.rf {l : Nat} {M : Mm} : PlF l M M := ⟨rfl, fun _ _ _ _ => rfl, fun _ _ => rfl, fun _ _ => rfl⟩
theorem PlT.of {light nl nr : Nat} {nbs sb : Nat → Nat} {M M1 : Mm} (h : PlT M nl nr nbs sb) (hf : PlF light M M1) : PlT M1 nl nr nbs sb := by
  obtain ⟨h1, h2, h3, h4⟩ := h
  refine ⟨(hf.2.2.1 2 (by decide)).trans h1, (hf.2.2.1 3 (by decide)).trans h2, fun l hl => ?_, fun r hr => ?_⟩
  · rw [hf.2.1 29 (by decide) (by decide) (by decide)]; exact h3 l hl
  · rw [hf.2.1 30 (by decide) (by decide) (by decide)]; exact h4 r hr
section PL
variable {nl nr : Nat} {nb lk : Nat → Nat → Bool} {nbs sb : Nat → Nat}
def bitT (n i : Nat) : Prop := n / 2 ^ i % 2 = 1
/-- the outcome of a search below light, with p chosen ahead of it: blame B, fewest F' -/
def PlR (nb lk : Nat → Nat → Bool) (nr nl light : Nat) (p : Nat → Nat) (F B F' : Nat) (M M1 : Mm) : Prop :=
  B < 64 ∧ F' ≤ F ∧ M1.1 26 0 = nI F' ∧ (∀ g, plP nb lk nr nl g → (∀ l, l < light → bitT B l → g l = p l) → F' ≤ pc8 (orb g nl)) ∧ (F' = F → M1.1 27 = M.1 27) ∧ (F' < F → ∃ g, plP nb lk nr nl g ∧ (∀ l, l < light → g l = p l) ∧ pc8 (orb g nl) = F' ∧ (∀ i, i < nl → M1.1 27 i = nI (g i)) ∧ ∀ h, plP nb lk nr nl h → (∀ l, l < light → h l = p l) → lexlt nl h g → F' < pc8 (orb h nl))
theorem or_bit (a c i : Nat) : bitT (a ||| c) i ↔ bitT a i ∨ bitT c i := by
  unfold bitT
  rw [bit_eq, bit_eq, bit_eq, Nat.testBit_or]
  cases a.testBit i <;> cases c.testBit i <;> decide
theorem c_refused {d : Nat} {M : Mm} {K : Int32 → Mm → Prop} {light : Nat} {p : Nat → Nat} (hn : nl ≤ 6) (hr : nr ≤ 8) (hT : PlT M nl nr nbs sb) (hl : light < nl) (hp : ∀ l, l < light → p l < nr ∧ M.1 28 l = nI (p l)) (hsb : ∀ r, sb r < 256) (hnb : ∀ l, nbs l < 256) (hK : ∀ R, R < 256 → (∀ r, bitT R r ↔ ∃ o, o < light ∧ bitT (nbs light) o ∧ bitT (sb (p o)) r) → K (nI R) M) : ACi (d + 1) X4_refusedFor [.ref 26, .int (nI light)] M K := by
  refine w_X4_refusedFor ?_
  have key : ∀ (j k R : Nat), k + j = light → R < 256 → (∀ r, bitT R r ↔ ∃ o, o < k ∧ bitT (nbs light) o ∧ bitT (sb (p o)) r) → lp_X4_refusedFor_4 d M (nI light) (nI R) (nI k) K := by
    intro j
    induction j with
    | zero =>
      intro k R hk hR hb
      have : k = light := by omega
      subst this
      exact z_X4_refusedFor_4 ⟨fun _ => hK R hR hb, fun c => absurd (nI_le (by omega) (by omega)) c⟩
    | succ j ih =>
      intro k R hk hR hb
      have hnl := hnb light
      have hm2 := Nat.mod_lt (nbs light / 2 ^ k) (show 2 > 0 by decide)
      refine z_X4_refusedFor_4 ?_
      rw [nI_clamp (n := light) (by omega), hT.2.2.1 light hl, shr1 (by omega) (by omega), nI_1 k, nI_clamp (n := k) (by omega), (hp k (by omega)).2, show (1 : Int32) = nI 1 from rfl, nI_eq (by omega) (by decide)]
      have hpk := (hp k (by omega)).1
      refine ⟨fun c => absurd c (nI_ge (by omega) (by omega)), fun _ => ⟨vp_in_nI (by omega) (by decide), fun c => ih (k + 1) R (by omega) hR (fun r => ?_), fun c => ⟨vp_in_nI (by omega) (by decide), vp_in_nI (by omega) (by decide), ?_⟩⟩⟩
      · rw [hb r]
        constructor
        · rintro ⟨o, q1, q2⟩; exact ⟨o, by omega, q2⟩
        · rintro ⟨o, q1, q2, q3⟩
          by_cases e : o = k
          · subst e; exact absurd q2 c
          · exact ⟨o, by omega, q2, q3⟩
      · rw [nI_clamp (by omega), hT.2.2.2 (p k) hpk, fa_or]
        refine ih (k + 1) _ (by omega) (Nat.or_lt_two_pow (n := 8) hR (hsb _)) (fun r => ?_)
        rw [or_bit, hb r]
        constructor
        · rintro (⟨o, q1, q2⟩ | q)
          · exact ⟨o, by omega, q2⟩
          · exact ⟨k, by omega, c, q⟩
        · rintro ⟨o, q1, q2, q3⟩
          by_cases e : o = k
          · subst e; exact Or.inr q3
          · exact Or.inl ⟨o, by omega, q2, q3⟩
  exact key light 0 0 (by omega) (by decide) (fun r => ⟨fun z => by unfold bitT at z; simp at z, fun ⟨o, q, _⟩ => absurd q (by omega)⟩)
theorem bit63 {i : Nat} (h : i < 6) : bitT 63 i := by
  unfold bitT
  revert h
  revert i
  decide
theorem lex_tri {nl : Nat} {g h : Nat → Nat} : (∀ i, i < nl → g i = h i) ∨ lexlt nl g h ∨ lexlt nl h g := by
  by_cases e : ∃ i, i < nl ∧ g i ≠ h i
  · obtain ⟨i, ⟨h1, h2⟩, h3⟩ := pk_least (fun i => i < nl ∧ g i ≠ h i) e
    have hp : ∀ j, j < i → g j = h j := fun j hj => Classical.not_not.mp (fun z => h3 j hj ⟨by omega, z⟩)
    rcases Nat.lt_or_gt_of_ne h2 with q | q
    · exact Or.inr (Or.inl ⟨i, h1, hp, q⟩)
    · exact Or.inr (Or.inr ⟨i, h1, fun j hj => (hp j hj).symm, q⟩)
  · exact Or.inl (fun i hi => Classical.not_not.mp (fun z => e ⟨i, hi, z⟩))
theorem c_choose (hn : nl ≤ 6) (hr : nr ≤ 8) (hsb : ∀ r, sb r < 256) (hnb : ∀ l, nbs l < 64) (hnbs : ∀ a c, a < nl → c < nl → (bitT (nbs a) c ↔ nb a c = true)) (hlk : ∀ r o, r < nr → o < nr → (bitT (sb r) o ↔ lk r o = true)) (hsym : ∀ r o, r < nr → o < nr → lk r o = lk o r) :
    ∀ (m light : Nat), light + m = nl → ∀ (d : Nat) (M : Mm) (p : Nat → Nat) (F : Nat) (K : Int32 → Mm → Prop), PlT M nl nr nbs sb → M.1 26 0 = nI F → F ≤ 9 → pc8 (orb p light) < F → (∀ l, l < light → p l < nr ∧ M.1 28 l = nI (p l)) → (∀ a, a < light → ∀ c, c < a → nb a c = true → lk (p a) (p c) = false) → (∀ B F' M1, PlF light M M1 → PlR nb lk nr nl light p F B F' M M1 → K (nI B) M1) → ACi (d + m + 2) X4_chooseFrom [.ref 26, .int (nI light), .int (nI (orb p light))] M K := by
  intro m
  induction m with
  | zero =>
    intro light hlm d M p F K hT hF hF9 hpc hp hok hK
    have : light = nl := by omega
    subst this
    have ho : orb p light < 256 := orb_lt hr (fun i hi => (hp i hi).1)
    have hpl : plP nb lk nr light p := ⟨fun l hl => (hp l hl).1, hok⟩
    refine w_X4_chooseFrom ?_
    rw [hT.1]
    refine ⟨fun c => absurd c (nI_nlt (Nat.le_refl _) (by omega)), fun _ => w_bc32 _ ho _ _ _ (hK 63 (pc8 (orb p light)) _ ⟨rfl, fun q a1 a2 a3 => ?_, fun j a => ?_, fun i hi => ?_⟩ ⟨by decide, by omega, ?_, fun g hg he => ?_, fun z => absurd z (by omega), fun _ => ⟨p, hpl, fun _ _ => rfl, rfl, fun i hi => ?_, fun h _ he hx => ?_⟩⟩)⟩
    · rw [cpI_ne a2, wI_ne a1]
    · simp [rI, rC, a]
    · simp [rI, rC]
    · simp [rI, rC]
    · rw [orb_cong (h := p) (fun i hi => he i hi (bit63 (by omega)))]
      exact Nat.le_refl _
    · have hi6 : i < 6 := by omega
      simp [rI, rC, hi6, (hp i hi).2]
    · obtain ⟨l, q1, q2, q3⟩ := hx
      rw [he l q1] at q3
      exact absurd q3 (Nat.lt_irrefl _)
  | succ m ih =>
    intro light hlm d M p F K hT hF hF9 hpc hp hok hK
    have hl : light < nl := by omega
    have ho : orb p light < 256 := orb_lt hr (fun i hi => (hp i hi).1)
    refine w_X4_chooseFrom ?_
    rw [hT.1]
    refine ⟨fun _ => ?_, fun c => absurd (nI_lt hl (by omega)) c⟩
    refine c_refused hn hr hT hl hp hsb (fun l => by have := hnb l; omega) (fun R hR hRb => ⟨vp_in_nI (by omega) (by decide), ?_⟩)
    rw [nI_clamp (by omega), hT.2.2.1 light hl]
    -- the loop over the rhythms
    have key : ∀ (j r : Nat) (Bl Fc : Nat) (N : Mm), r + j = nr → PlF light M N → Bl < 64 → (∀ i, bitT (nbs light) i → bitT Bl i) → Fc ≤ F → N.1 26 0 = nI Fc → pc8 (orb p light) < F → (∀ g, plP nb lk nr nl g → (∀ l, l < light → bitT Bl l → g l = p l) → g light < r → Fc ≤ pc8 (orb g nl)) → (Fc = F → N.1 27 = M.1 27) → (Fc < F → ∃ g, plP nb lk nr nl g ∧ (∀ l, l < light → g l = p l) ∧ g light < r ∧ pc8 (orb g nl) = Fc ∧ (∀ i, i < nl → N.1 27 i = nI (g i)) ∧ ∀ h, plP nb lk nr nl h → (∀ l, l < light → h l = p l) → lexlt nl h g → Fc < pc8 (orb h nl)) → lp_X4_chooseFrom_51 (d + m + 2) N (nI light) (nI (orb p light)) (nI R) (nI Bl) (nI r) K := by
      intro j
      induction j with
      | zero =>
        intro r Bl Fc N hrj hN hB hBn hFc hNF _ h1 h2 h3
        have hTN := hT.of hN
        refine z_X4_chooseFrom_51 ?_
        rw [hTN.2.1]
        refine ⟨fun _ => hK Bl Fc N hN ⟨hB, hFc, hNF, fun g hg he => h1 g hg he (by have := hg.1 light hl; omega), h2, fun z => ?_⟩, fun c => absurd (nI_le (by omega) (by omega)) c⟩
        obtain ⟨g, a1, a2, a3, a4, a5, a6⟩ := h3 z
        exact ⟨g, a1, a2, a4, a5, a6⟩
      | succ j ihj =>
        intro r Bl Fc N hrj hN hB hBn hFc hNF hpc2 h1 h2 h3
        have hTN := hT.of hN
        have hm2 := Nat.mod_lt (R / 2 ^ r) (show 2 > 0 by decide)
        have hpr : 2 ^ r < 256 := by have : 2 ^ r ≤ 2 ^ 7 := Nat.pow_le_pow_right (by decide) (by omega); omega
        have hou : orb p light ||| 2 ^ r < 256 := Nat.or_lt_two_pow (n := 8) ho hpr
        -- going on with r done, nothing better found
        have skip : ∀ Bl2, Bl2 < 64 → (∀ i, bitT Bl i → bitT Bl2 i) → (∀ g, plP nb lk nr nl g → (∀ l, l < light → bitT Bl2 l → g l = p l) → g light = r → Fc ≤ pc8 (orb g nl)) → lp_X4_chooseFrom_51 (d + m + 2) N (nI light) (nI (orb p light)) (nI R) (nI Bl2) (nI (r + 1)) K := by
          intro Bl2 hB2 hsub hnew
          refine ihj (r + 1) Bl2 Fc N (by omega) hN hB2 (fun i hi => hsub i (hBn i hi)) hFc hNF hpc2 (fun g hg he hlt => ?_) h2 (fun z => ?_)
          · by_cases e : g light = r
            · exact hnew g hg he e
            · exact h1 g hg (fun l a1 a2 => he l a1 (hsub l a2)) (by omega)
          · obtain ⟨g, a1, a2, a3, a4, a5, a6⟩ := h3 z
            exact ⟨g, a1, a2, by omega, a4, a5, a6⟩
        refine z_X4_chooseFrom_51 ?_
        rw [hTN.2.1, shr1 (by omega) (by omega), nz (by omega), bit1 r (by omega), fa_or]
        refine ⟨fun c => absurd c (nI_ge (by omega) (by omega)), fun _ => ⟨fun c => ?_, fun c => ?_⟩⟩
        · -- refused
          refine z_X4_chooseFrom_82 ⟨fun _ => ⟨fun _ => ?_, fun z => absurd rfl z⟩, fun z => absurd rfl z⟩
          rw [nI_1]
          refine skip Bl hB (fun _ z => z) (fun g hg he eg => ?_)
          obtain ⟨o, q1, q2, q3⟩ := (hRb r).mp (by unfold bitT; omega)
          have e1 := he o q1 (hBn o q2)
          have hpo := (hp o q1).1
          have n1 : nb light o = true := (hnbs light o hl (by omega)).mp q2
          have n2 := hg.2 light hl o q1 n1
          rw [eg, e1, hsym r (p o) (by omega) hpo, (hlk (p o) r hpo (by omega)).mp q3] at n2
          exact absurd n2 (by decide)
        · -- it stands
          have hstand : ∀ o, o < light → nb light o = true → lk r (p o) = false := by
            intro o q1 q2
            cases q : lk r (p o) with
            | false => rfl
            | true =>
              have hpo := (hp o q1).1
              rw [hsym r (p o) (by omega) hpo] at q
              have := (hRb r).mpr ⟨o, q1, (hnbs light o hl (by omega)).mpr q2, (hlk (p o) r hpo (by omega)).mpr q⟩
              unfold bitT at this
              omega
          have hp8 : pc8 (orb p light ||| 2 ^ r) < 100 := by unfold pc8; omega
          refine z_X4_chooseFrom_82 ⟨fun z => absurd z (by decide), fun _ => w_bc32 _ hou _ _ _ ?_⟩
          rw [hNF, nI_ltI (by omega) (by omega)]
          refine ⟨fun c2 => ⟨fun z => absurd z (by decide), fun _ => ⟨vp_in_nI (by omega) (by decide), ?_⟩⟩, fun c2 => ?_⟩
          · -- deeper
            rw [nI_clamp (by omega), nI_1 light]
            have hq : orb (fun i => if i = light then r else p i) (light + 1) = orb p light ||| 2 ^ r := by
              rw [orb, orb_cong (h := p) (fun i hi => by rw [if_neg (by omega)]), if_pos rfl]
            have hNN : PlF light M (wI N 28 light (nI r)) := hN.tr ⟨rfl, fun q a1 a2 a3 => wI_ne a3, fun j _ => by simp [rI], fun i hi => by
              have : ¬ i = light := by omega
              simp [rI, this]⟩
            have call := ih (light + 1) (by omega) d (wI N 28 light (nI r)) (fun i => if i = light then r else p i) Fc
            rw [hq] at call
            refine call _ (hT.of hNN) (by simpa [rI] using hNF) (by omega) c2 (fun l hl2 => ?_) (fun a ha c hc hac => ?_) (fun B F' M1 hf hR1 => ?_)
            · by_cases e : l = light
              · subst e
                simp [rI]
                omega
              · have := hp l (by omega)
                have h28 := hN.2.2.2 l (by omega)
                simp [rI, e, h28, this.1, this.2]
            · try dsimp only
              by_cases e : a = light
              · subst e
                rw [if_pos rfl, if_neg (by omega)]
                exact hstand c hc hac
              · rw [if_neg e, if_neg (by omega)]
                exact hok a (by omega) c hc hac
            · obtain ⟨r1, r2, r3, r4, r5, r6⟩ := hR1
              have hf2 : PlF light M M1 := hNN.tr (hf.le (by omega))
              have hmb := Nat.mod_lt (B / 2 ^ light) (show 2 > 0 by decide)
              -- what is best now, among those with the first r rhythms and this one
              have best3 : F' < F → ∃ g, plP nb lk nr nl g ∧ (∀ l, l < light → g l = p l) ∧ g light < r + 1 ∧ pc8 (orb g nl) = F' ∧ (∀ i, i < nl → M1.1 27 i = nI (g i)) ∧ ∀ h, plP nb lk nr nl h → (∀ l, l < light → h l = p l) → lexlt nl h g → F' < pc8 (orb h nl) := by
                intro z
                by_cases e : F' = Fc
                · obtain ⟨g, a1, a2, a3, a4, a5, a6⟩ := h3 (by omega)
                  have e27 : M1.1 27 = N.1 27 := by rw [r5 e]; exact wI_ne (by decide)
                  exact ⟨g, a1, a2, by omega, by omega, fun i hi => by rw [e27]; exact a5 i hi, fun h b1 b2 b3 => by rw [e]; exact a6 h b1 b2 b3⟩
                · obtain ⟨g, a1, a2, a3, a4, a5⟩ := r6 (by omega)
                  have gl : g light = r := by have := a2 light (by omega); simpa using this
                  refine ⟨g, a1, fun l hl2 => ?_, by omega, a3, a4, fun h b1 b2 b3 => ?_⟩
                  · have := a2 l (by omega)
                    dsimp only at this
                    rw [if_neg (by omega)] at this
                    exact this
                  · by_cases eh : h light = r
                    · refine a5 h b1 (fun l hl2 => ?_) b3
                      dsimp only
                      by_cases e2 : l = light
                      · subst e2; rw [if_pos rfl]; exact eh
                      · rw [if_neg e2]; exact b2 l (by omega)
                    · have hlt : h light < r := by
                        obtain ⟨l, q1, q2, q3⟩ := b3
                        have hgp : ∀ i, i < light → g i = p i := fun i hi => by
                          have := a2 i (by omega)
                          dsimp only at this
                          rw [if_neg (by omega)] at this
                          exact this
                        rcases Nat.lt_trichotomy l light with y | y | y
                        · rw [b2 l y, hgp l y] at q3; exact absurd q3 (Nat.lt_irrefl _)
                        · subst y; omega
                        · have := q2 light y; omega
                      have := h1 h b1 (fun l a1 _ => b2 l a1) hlt
                      omega
              have keep2 : F' = F → M1.1 27 = M.1 27 := by
                intro z
                have e : F' = Fc := by omega
                rw [r5 e, show (wI N 28 light (nI r)).1 27 = N.1 27 from wI_ne (by decide)]
                exact h2 (by omega)
              rw [shr1 (by omega) (by omega), nz (by omega), fa_or, nI_1 r]
              refine ⟨fun cb => ?_, fun cb => hK B F' M1 hf2 ⟨r1, by omega, r3, fun g hg he => ?_, keep2, fun z => ?_⟩⟩
              · refine ihj (r + 1) (Bl ||| B) F' M1 (by omega) hf2 (Nat.or_lt_two_pow (n := 6) hB r1) (fun i hi => (or_bit _ _ _).mpr (Or.inl (hBn i hi))) (by omega) r3 hpc2 (fun g hg he hlt => ?_) keep2 best3
                by_cases e : g light = r
                · refine r4 g hg (fun l hl2 hbl => ?_)
                  dsimp only
                  by_cases e2 : l = light
                  · subst e2; rw [if_pos rfl]; exact e
                  · rw [if_neg e2]; exact he l (by omega) ((or_bit _ _ _).mpr (Or.inr hbl))
                · have := h1 g hg (fun l a1 a2 => he l a1 ((or_bit _ _ _).mpr (Or.inl a2))) (by omega)
                  omega
              · refine r4 g hg (fun l hl2 hbl => ?_)
                dsimp only
                by_cases e2 : l = light
                · subst e2; unfold bitT at hbl; omega
                · rw [if_neg e2]; exact he l (by omega) hbl
              · obtain ⟨g, a1, a2, a3, a4, a5, a6⟩ := best3 z
                exact ⟨g, a1, a2, a4, a5, a6⟩
          · -- too many already
            rw [nI_1]
            refine skip 63 (by decide) (fun i hi => ?_) (fun g hg he eg => ?_)
            · rcases Nat.lt_or_ge i 6 with y | y
              · exact bit63 y
              · unfold bitT at hi
                have : Bl < 2 ^ i := Nat.lt_of_lt_of_le hB (show 2 ^ 6 ≤ 2 ^ i from Nat.pow_le_pow_right (by decide) y)
                rw [Nat.div_eq_of_lt this] at hi
                omega
            · have e1 : orb g (light + 1) = orb p light ||| 2 ^ r := by
                rw [orb, orb_cong (h := p) (fun i hi => he i hi (bit63 (by omega))), eg]
              have := pc_orb (g := g) hr (k := light + 1) (n := nl) (by omega) hg.1
              rw [e1] at this
              omega
    refine key nr 0 (nbs light) F M (by omega) PlF.rf (hnb light) (fun _ z => z) (Nat.le_refl _) hF hpc (fun g _ _ z => absurd z (by omega)) (fun _ => rfl) (fun z => absurd z (by omega))
end PL
