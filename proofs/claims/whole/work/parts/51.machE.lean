/-! MACHINE: what is made ready; the public call. -/
def nmO (num : Nat → Nat) (bo : Nat → Option Nat) (p : Nat) : Nat := match bo (p / 8) with
  | some r => num r
  | none => 0
section ME
variable {d : Nat} {M : Mm} {b w sg nr nl : Nat} {num pl : Nat → Nat} {bo : Nat → Option Nat}
theorem sg_of (hB : BkW b w sg nr num) (q : Nat) : SG b (fsB b sg nl pl bo q) (flB b nl num bo) (nmO num bo) := by
  refine ⟨hB.1, hB.2.1, fun p z => (of_decide_eq_true z).2.1, fun p p' e h1 h2 => ?_, fun p z => ?_, fun p p' e => by unfold nmO; rw [e]⟩
  · unfold fsB
    rw [e]
    by_cases c : p' / 8 < nl ∧ (bo (p' / 8)).isSome = true ∧ pl (p' / 8) ≤ q + sg ∧ q ≤ pl (p' / 8) + sg
    · rw [decide_eq_true ⟨c.1, h1, c.2⟩, decide_eq_true ⟨c.1, h2, c.2⟩]
    · rw [decide_eq_false (fun z => c ⟨z.1, z.2.2⟩), decide_eq_false (fun z => c ⟨z.1, z.2.2⟩)]
  · have y := of_decide_eq_true z
    obtain ⟨r, hr⟩ := Option.isSome_iff_exists.mp y.2.2.1
    unfold flB nmO
    rw [decide_eq_true ⟨y.1, y.2.1⟩, hr, Bool.true_and]
    rfl
theorem c_prepare {K : Mm → Prop} {q : Nat} (hC : BkC M b w sg nr num) (hB : BkW b w sg nr num) (hL : LtC M nl pl bo) (hW : LtW nr nl pl bo) (hq : q ≤ 99) (hK : ∀ M1, (∀ q, q ≠ 31 → M1.1 q = M.1 q) → (∀ q, q ≠ 31 → q ≠ 32 → M1.2 q = M.2 q) → MchC M1 b (flB b nl num bo) → M1.1 31 2 = nI (if bsN (fsB b sg nl pl bo q) 48 = 0 then 0 else 1) → M1.2 32 0 = lN (bsN (fsB b sg nl pl bo q) 48) → K M1) : ACv (d + 4) X3_prepare [.ref 31, .ref 3, .ref 13, .int (nI q)] M K := by
  have hB0 := hB
  obtain ⟨w1, w2, w3, w4, w5, w6, w7, -⟩ := hB
  have cC : ∀ N : Mm, (∀ q, q ≠ 31 → N.1 q = M.1 q) → BkC N b w sg nr num := fun N h => hC.of (h 3 (by decide)) (h 4 (by decide))
  have cL : ∀ N : Mm, (∀ q, q ≠ 31 → N.1 q = M.1 q) → LtC N nl pl bo := fun N h => hL.of (by rw [h 13 (by decide)]) (h 14 (by decide)) (h 15 (by decide))
  refine w_X3_prepare ?_
  rw [hC.1]
  have f1 : ∀ q, q ≠ 31 → (wI M 31 3 (nI b)).1 q = M.1 q := fun q h => wI_ne h
  refine c_seenC (cC _ f1) hB0 (cL _ f1) hW hq (c_flashC (cC _ f1) hB0 (cL _ f1) hW ?_)
  have key : ∀ (j l : Nat) (N : Mm), l + j = 6 → (∀ q, q ≠ 31 → N.1 q = M.1 q) → N.1 31 3 = nI b → (∀ q, q ≠ 31 → q ≠ 32 → N.2 q = M.2 q) → N.2 31 4 = lN (bsN (fsB b sg nl pl bo q) 48) → N.2 31 5 = lN (bsN (flB b nl num bo) 48) → N.2 31 6 = lN (bsN (accB (LSb b) l) 48) → lp_X3_prepare_35 (d + 3) N (nI l) K := by
    intro j
    induction j with
    | zero =>
      intro l N hl g1 g2 g3 g4 g5 g6
      have : l = 6 := by omega
      subst this
      rw [acc_n (fun i hi _ => by omega)] at g6
      refine z_X3_prepare_35 ⟨fun _ => ?_, fun c => absurd (by decide) c⟩
      have fin : ∀ x : Int32, x = nI (if bsN (fsB b sg nl pl bo q) 48 = 0 then 0 else 1) → K (wI (wL N 32 0 (N.2 31 4)) 31 2 x) := by
        intro x hx
        refine hK _ (fun q h => by rw [wI_ne h]; exact g1 q h) (fun q h1 h2 => by rw [rI2, wL_ne h2]; exact g3 q h1 h2) ⟨by simp [rI, rL1, g2], by rw [rI2, wL_ne (by decide)]; exact g5, by rw [rI2, wL_ne (by decide)]; exact g6⟩ (by simp [rI, hx]) (by rw [rI2, rL, if_pos ⟨rfl, rfl⟩]; exact g4)
      have ez : lg_cmp (N.2 31 4) 0 = 0 ↔ bsN (fsB b sg nl pl bo q) 48 = 0 := by rw [g4, lN_z (bsL _)]
      rw [ez]
      exact ⟨fun c => fin 1 (by rw [if_neg c]; rfl), fun c => fin 0 (by rw [if_pos c]; rfl)⟩
    | succ j ih =>
      intro l N hl g1 g2 g3 g4 g5 g6
      refine z_X3_prepare_35 ⟨fun c => absurd c (nI_ge (b := 6) (by omega) (by omega)), fun _ => ?_⟩
      rw [g2, show nI l * 8 = nI (l * 8) from pk_mul l 8, nI_add, show (1 : Int32) = nI 1 from rfl, pk_sub (by omega), bitL _ (by omega), g6, bs_orL (g := accB (LSb b) (l + 1)) (p48 (by omega)) (fun i hi => ?_)]
      · rw [nI_add]
        refine ih (l + 1) _ (by omega) g1 g2 (fun q h1 h2 => by rw [wL_ne h1]; exact g3 q h1 h2) (by rw [rL, if_neg (by decide)]; exact g4) (by rw [rL, if_neg (by decide)]; exact g5) (by rw [rL, if_pos ⟨rfl, rfl⟩])
      · rw [tb2]
        unfold accB LSb
        rw [Bool.eq_iff_iff]
        simp only [Bool.or_eq_true, Bool.and_eq_true, decide_eq_true_iff]
        omega
  refine key 6 0 _ (by omega) (fun q h => ?_) ?_ (fun q h1 h2 => ?_) ?_ ?_ ?_
  · rw [rL1, rL1, rL1]; exact f1 q h
  · rw [rL1, rL1, rL1]; simp [rI]
  · rw [wL_ne h1, wL_ne h1, wL_ne h1]; rfl
  · simp [rL]
  · simp [rL]
  · rw [acc_0]; simp [rL]
end ME
theorem q_machine {M : Mm} {v1 v2 : Int32} (h : Inv M) : Pr X8_machine X9_machine [.int v1, .int v2] M := by
  have h0 := h
  obtain ⟨b, w, sg, nr, nl, num, u, ps, bs, tp, tb, hc⟩ := h
  obtain ⟨⟨a1, a2, a3⟩, ⟨l1, l2⟩, ⟨u1, u2, u3⟩, -⟩ := hc
  have hW := u3.2 u (Nat.le_refl _)
  have e1 : (1 : Int32).toInt = 1 := by decide
  intro d
  have out1 : (v1.toInt < 0 ∨ 99 < v1.toInt) → ∀ d, ACi (d + 9) X9_machine [.ref 42, .int v1, .int v2] M (fun r' M2 => -3 = r' ∧ Inv M2) := fun hz d => w_X9_machine (c_in99 (fun v hv e => absurd hz (fun z => out99 hv e z)) (fun _ => ⟨fun _ => ⟨rfl, h0⟩, fun z => absurd rfl z⟩))
  refine w_X8_machine (c_isPlace (fun q hq e => ⟨fun z => absurd z (by decide), fun _ => ?_⟩) (fun z => ⟨fun _ => out1 z _, fun z => absurd rfl z⟩))
  subst e
  have out2 : (v2.toInt < 0 ∨ 1 < v2.toInt) → ∀ d, ACi (d + 9) X9_machine [.ref 42, .int (nI q), .int v2] M (fun r' M2 => -3 = r' ∧ Inv M2) := fun hz d => w_X9_machine (c_in99 (fun v hv e => ⟨fun z => absurd z (by decide), fun _ => c_in01 (fun z => absurd z (n01 hz)) (fun _ => ⟨fun z => absurd rfl z, fun _ => ⟨rfl, h0⟩⟩)⟩) (fun z => absurd z (fun z => out99 hq rfl z)))
  refine ⟨fun c => out2 (Or.inl (by rw [fa_lt, tI0] at c; exact c)) _, fun c => ⟨fun c2 => ?_, fun c2 => out2 (Or.inr (by rw [fa_le, e1] at c2; omega)) _⟩⟩
  rw [fa_lt, tI0] at c
  rw [fa_le, e1] at c2
  have h01 := i01 (x := v2) (by omega) (by omega)
  have hsg := sg_of (nl := nl) (pl := ps u) (bo := bs u) a3 q
  have hS : ∀ p, fsB b sg nl (ps u) (bs u) q p = true → p / 8 < nl ∧ p % 8 < b ∧ (bs u (p / 8)).isSome = true := fun p z => ⟨(of_decide_eq_true z).1, (of_decide_eq_true z).2.1, (of_decide_eq_true z).2.2.1⟩
  refine c_prepare a1 a3 l1 hW hq (fun M1 y1 y2 y3 y4 y5 => ?_)
  have cl : ∀ st : Nat × (Nat → Nat), st = (if bsN (fsB b sg nl (ps u) (bs u) q) 48 = 0 then 0 else 1, fun _ => bsN (fsB b sg nl (ps u) (bs u) q) 48) → ClC M1 st := by
    rintro st rfl
    refine ⟨y4, fun i hi => ?_⟩
    dsimp only at *
    have : i = 0 := by split at hi <;> omega
    rw [this]
    exact y5
  -- the model, behind what the class has done
  have modl : ∀ (M2 : Mm) (A : Int32), FrX M1 M2 → (v2 = 0 → A = nI (bfS b (flB b nl num (bs u)) (bsN (fsB b sg nl (ps u) (bs u) q) 48) 256).1) → (¬ v2 = 0 → A = resF b (flB b nl num (bs u)) (bsN (fsB b sg nl (ps u) (bs u) q) 48) 41 0) → ACi (d + 20) X9_machine [.ref 42, .int (nI q), .int v2] M2 (fun r' M3 => A = r' ∧ Inv M3) := by
    intro M2 A f hA0 hA1
    have z1 : ∀ a, a ≠ 31 → M2.1 a = M.1 a := fun a h => (f.1 a h).trans (y1 a h)
    have hM2 : BkM M2 b w sg nr num := a2.of (fun j _ _ => by rw [z1 42 (by decide)]) (z1 44 (by decide))
    have hL2 : LtM M2 nl (ps u) (bs u) := l2.of (by rw [z1 42 (by decide)]) (z1 43 (by decide))
    have fin : ∀ M3, FrY M2 M3 → Inv M3 := fun M3 g => h0.scr (fun a b1 b2 b3 b4 b5 b6 => by rw [g.1]; exact z1 a (by omega)) (by rw [g.2 34 (by decide) (by decide) (by decide), f.2.2 34 (by decide) (by decide), y2 34 (by decide) (by decide)]) (by rw [g.1, z1 1 (by decide)]) (fun j _ => by rw [g.1, z1 42 (by decide)])
    refine w_X9_machine (c_in99 (fun v _ _ => ⟨fun z => absurd z (by decide), fun _ => c_in01 (fun _ => ⟨fun _ => ⟨fun cv => ?_, fun cv => ?_⟩, fun z => absurd z (by decide)⟩) (fun z => absurd h01 z)⟩) (fun z => absurd z (fun z => out99 hq rfl z)))
    · exact c_namedM hM2 a3 hL2 hW hsg hS hq rfl (fun M3 g => ⟨hA1 cv, fin M3 g⟩)
    · exact c_statesM hM2 a3 hL2 hW hsg hS hq rfl (fun M3 g => ⟨hA0 cv, fin M3 g⟩)
  refine ⟨fun cv => c_named hsg y3 (cl _ (by rw [lvF])) (fun M2 f => modl M2 _ f (fun z => absurd z cv) (fun _ => rfl)), fun cv => c_states hsg y3 (cl _ (by rw [bfS])) (fun M2 f => modl M2 _ f (fun _ => rfl) (fun z => absurd cv z))⟩
