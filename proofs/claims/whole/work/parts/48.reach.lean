/-! MACHINE: which sets can come, and that there are few. -/
theorem bitN_per {b n k k' : Nat} (h : k % b = k' % b) : bitN b n k = bitN b n k' := by unfold bitN; rw [h]
theorem rowN_per {b x k k' : Nat} (h : k % b = k' % b) : ∀ n, rowN b x k n = rowN b x k' n
  | 0 => rfl
  | n + 1 => by rw [rowN, rowN, rowN_per h n, bitN_per (show (k + n) % b = (k' + n) % b by rw [Nat.add_mod, h, ← Nat.add_mod])]
theorem rowN_head (b x k : Nat) : ∀ n, rowN b x k (n + 1) = bitN b x k * 2 ^ n + rowN b x (k + 1) n
  | 0 => by simp [rowN]
  | n + 1 => by
    rw [rowN, rowN_head b x k n, rowN, Nat.pow_succ, show k + (n + 1) = k + 1 + n by omega]
    have : bitN b x k * (2 ^ n * 2) = 2 * (bitN b x k * 2 ^ n) := by rw [← Nat.mul_assoc, Nat.mul_comm]
    omega
def RB (b : Nat) (nm : Nat → Nat) (S : Nat → Bool) (n w p : Nat) : Bool := S p && decide (rowN b (nm p) (p % 8 + n * (b - 1)) n = w)
def SG (b : Nat) (S G : Nat → Bool) (nm : Nat → Nat) : Prop := 3 ≤ b ∧ b ≤ 8 ∧ (∀ p, S p = true → p % 8 < b) ∧ (∀ p q, p / 8 = q / 8 → p % 8 < b → q % 8 < b → S p = S q) ∧ (∀ p, S p = true → G p = decide (bitN b (nm p) (p % 8) = 1)) ∧ ∀ p q, p / 8 = q / 8 → nm p = nm q
def RN (b : Nat) (nm : Nat → Nat) (S : Nat → Bool) (n w : Nat) : Nat := bsN (RB b nm S n w) 48
theorem RN_tb {b : Nat} {nm : Nat → Nat} {S : Nat → Bool} {n w p : Nat} (hp : p < 48) : (RN b nm S n w).testBit p = RB b nm S n w p := by unfold RN; rw [bs_tb, decide_eq_true hp, Bool.true_and]
theorem RN_word {b : Nat} {nm : Nat → Nat} {S : Nat → Bool} {n w p : Nat} (hp : p < 48) (h : (RN b nm S n w).testBit p = true) : S p = true ∧ rowN b (nm p) (p % 8 + n * (b - 1)) n = w := by
  rw [RN_tb hp] at h
  unfold RB at h
  rw [Bool.and_eq_true, decide_eq_true_iff] at h
  exact h
theorem some_bit {x : Nat} (hx : x < 281474976710656) (h : x ≠ 0) : ∃ p, p < 48 ∧ x.testBit p = true := by
  apply Classical.byContradiction
  intro z
  apply h
  have := bs_ext (f := fun _ => false) (n := 48) (m := x) hx (fun i hi => by
    cases q : x.testBit i with
    | false => rfl
    | true => exact absurd ⟨i, hi, q⟩ z)
  rw [this]
  exact (bs_ext (f := fun _ => false) (n := 48) (m := 0) (by decide) (fun i _ => Nat.zero_testBit i)).symm
section RE
variable {b : Nat} {S G : Nat → Bool} {nm : Nat → Nat}
theorem RN_lt {n w : Nat} : RN b nm S n w < 281474976710656 := bsN_lt _ 48
theorem RN_0 : RN b nm S 0 0 = bsN S 48 := bsN_cong (fun p _ => by unfold RB; rw [rowN, decide_eq_true rfl, Bool.and_true])
theorem mulc {b n : Nat} (h : 0 < b) : (n + 1) * (b - 1) + n = n * b + (b - 1) := by
  obtain ⟨c, rfl⟩ : ∃ c, b = c + 1 := ⟨b - 1, by omega⟩
  rw [Nat.add_sub_cancel, Nat.add_mul, Nat.mul_add, Nat.one_mul, Nat.mul_one]
  omega
theorem nx_RB (h : SG b S G nm) (be : Bool) (n w p : Nat) : nx b G be (RB b nm S n w) p = RB b nm S (n + 1) (2 * w + if be then 1 else 0) p := by
  obtain ⟨h1, h2, h3, h4, h5, h6⟩ := h
  unfold nx RB
  by_cases c : p % 8 < b
  · have hm := Nat.mod_lt (p % 8 + b - 1) (show b > 0 by omega)
    have q8 : pv b p % 8 = (p % 8 + b - 1) % b := by unfold pv; omega
    have qd : pv b p / 8 = p / 8 := by unfold pv; omega
    have es : S (pv b p) = S p := h4 _ _ qd (by omega) c
    have en : nm (pv b p) = nm p := h6 _ _ qd
    rw [es, en, q8, decide_eq_true c, Bool.true_and]
    cases q : S p with
    | false => rfl
    | true =>
      have eg := h5 (pv b p) (es.trans q)
      rw [en, q8] at eg
      rw [Bool.true_and, Bool.true_and, eg, rowN]
      have r1 : rowN b (nm p) ((p % 8 + b - 1) % b + n * (b - 1)) n = rowN b (nm p) (p % 8 + (n + 1) * (b - 1)) n := rowN_per (by
        rw [Nat.mod_add_mod, Nat.succ_mul]
        congr 1
        omega) n
      have r2 : bitN b (nm p) (p % 8 + (n + 1) * (b - 1) + n) = bitN b (nm p) ((p % 8 + b - 1) % b) := bitN_per (by
        have := mulc (b := b) (n := n) (by omega)
        rw [show p % 8 + (n + 1) * (b - 1) + n = (p % 8 + b - 1) + n * b by omega, Nat.add_mul_mod_self_right, Nat.mod_mod])
      rw [r1, r2]
      have y2 := bitN_lt b (nm p) ((p % 8 + b - 1) % b)
      generalize rowN b (nm p) (p % 8 + (n + 1) * (b - 1)) n = X
      generalize bitN b (nm p) ((p % 8 + b - 1) % b) = Y at *
      rw [Bool.eq_iff_iff, Bool.and_eq_true, decide_eq_true_iff, decide_eq_true_iff, beq_iff_eq]
      cases be with
      | true =>
        rw [if_pos rfl, decide_eq_true_iff]
        omega
      | false =>
        rw [if_neg (by decide), decide_eq_false_iff_not]
        omega
  · rw [decide_eq_false c, Bool.false_and]
    cases q : S p with
    | false => rfl
    | true => exact absurd (h3 p q) c
theorem pv_lt {p : Nat} (hb0 : 0 < b) (hb : b ≤ 8) (hp : p < 48) : pv b p < 48 := by
  have hm := Nat.mod_lt (p % 8 + b - 1) (show b > 0 from hb0)
  unfold pv
  omega
theorem nxN_RN (h : SG b S G nm) (be : Bool) (n w : Nat) : nxN b G be (RN b nm S n w) = RN b nm S (n + 1) (2 * w + if be then 1 else 0) := bsN_cong (fun p hp => by
  rw [← nx_RB h]
  unfold nx
  rw [RN_tb (pv_lt (by have := h.1; omega) h.2.1 hp)])
theorem RB_back (h : SG b S G nm) {w p0 : Nat} (h0 : RB b nm S (b + 1) w p0 = true) (p : Nat) : RB b nm S (b + 1) w p = RB b nm S b (w % 2 ^ b) p := by
  obtain ⟨h1, h2, h3, h4, h5, h6⟩ := h
  have rw1 : ∀ p, rowN b (nm p) (p % 8 + (b + 1) * (b - 1)) (b + 1) = (rowN b (nm p) (p % 8 + b * (b - 1)) b % 2) * 2 ^ b + rowN b (nm p) (p % 8 + b * (b - 1)) b := by
    intro p
    have e := mulc (b := b) (n := b) (by omega)
    have k1 : rowN b (nm p) (p % 8 + (b + 1) * (b - 1) + 1) b = rowN b (nm p) (p % 8 + b * (b - 1)) b := rowN_per (by
      obtain ⟨c, rfl⟩ : ∃ c, b = c + 1 := ⟨b - 1, by omega⟩
      rw [Nat.add_sub_cancel] at *
      rw [show p % 8 + (c + 1 + 1) * c + 1 = (p % 8 + (c + 1) * c) + (c + 1) by rw [Nat.add_mul (c + 1) 1 c]; omega, Nat.add_mod_right]) b
    have k2 : bitN b (nm p) (p % 8 + (b + 1) * (b - 1)) = rowN b (nm p) (p % 8 + b * (b - 1)) b % 2 := by
      have k3 : rowN b (nm p) (p % 8 + (b + 1) * (b - 1) + 1) b % 2 = bitN b (nm p) (p % 8 + (b + 1) * (b - 1) + b) := by
        have := rowN_bit b (nm p) (p % 8 + (b + 1) * (b - 1) + 1) (u := b) (i := 0) (by omega)
        rw [Nat.pow_zero, Nat.div_one] at this
        rw [this]
        congr 1
        omega
      rw [← k1, k3]
      exact bitN_per (by rw [Nat.add_mod_right])
    rw [rowN_head, k1, k2]
  have lt : ∀ p, rowN b (nm p) (p % 8 + b * (b - 1)) b < 2 ^ b := fun p => rowN_lt b _ _ b
  have md : ∀ y, y < 2 ^ b → ((y % 2) * 2 ^ b + y) % 2 ^ b = y := fun y hy => by rw [Nat.add_comm, Nat.add_mul_mod_self_right, Nat.mod_eq_of_lt hy]
  unfold RB at *
  rw [Bool.and_eq_true, decide_eq_true_iff, rw1] at h0
  rw [rw1]
  congr 1
  rw [← h0.2, md _ (lt p0)]
  rw [Bool.eq_iff_iff, decide_eq_true_iff, decide_eq_true_iff]
  constructor
  · intro z
    have := congrArg (fun y => y % 2 ^ b) z
    try dsimp only at this
    rw [md _ (lt p), md _ (lt p0)] at this
    exact this
  · intro z; rw [z]
/-- a set that may come -/
def Gd (b : Nat) (nm : Nat → Nat) (S : Nat → Bool) (x : Nat) : Prop := x ≠ 0 ∧ ∃ n, n ≤ b ∧ ∃ w, x = RN b nm S n w
theorem Gd.lt {x : Nat} (h : Gd b nm S x) : x < 281474976710656 := by
  obtain ⟨-, n, -, w, rfl⟩ := h
  exact RN_lt
theorem Gd.wf {x : Nat} (h : Gd b nm S x) : ∀ i, i < 48 → x.testBit i = true → S i = true := by
  obtain ⟨-, n, -, w, rfl⟩ := h
  exact fun i hi z => (RN_word hi z).1
theorem Gd.nx (hs : SG b S G nm) {x : Nat} (h : Gd b nm S x) (be : Bool) (h0 : nxN b G be x ≠ 0) : Gd b nm S (nxN b G be x) := by
  obtain ⟨-, n, hn, w, rfl⟩ := h
  refine ⟨h0, ?_⟩
  rw [nxN_RN hs] at *
  by_cases e : n = b
  · subst e
    obtain ⟨p, hp, hb⟩ := some_bit RN_lt h0
    rw [RN_tb hp] at hb
    refine ⟨n, Nat.le_refl _, _, bsN_cong (fun i _ => RB_back hs hb i)⟩
  · exact ⟨n + 1, by omega, _, rfl⟩
def CdX (b : Nat) (nm : Nat → Nat) (S : Nat → Bool) (x k : Nat) : Prop := ∃ n, n ≤ b ∧ ∃ w, x = RN b nm S n w ∧ ((n < 6 ∧ w < 2 ^ n ∧ k = 2 ^ n - 1 + w) ∨ (6 ≤ n ∧ ∃ p, p < 48 ∧ x.testBit p = true ∧ k = 63 + (n - 6) * 48 + p))
theorem n6 {n : Nat} (h : n < 6) : (n = 0 ∧ 2 ^ n = 1) ∨ (n = 1 ∧ 2 ^ n = 2) ∨ (n = 2 ∧ 2 ^ n = 4) ∨ (n = 3 ∧ 2 ^ n = 8) ∨ (n = 4 ∧ 2 ^ n = 16) ∨ (n = 5 ∧ 2 ^ n = 32) := by
  match n, h with
  | 0, _ => decide
  | 1, _ => decide
  | 2, _ => decide
  | 3, _ => decide
  | 4, _ => decide
  | 5, _ => decide
theorem CdX.ex (hb : b ≤ 8) {x : Nat} (h : Gd b nm S x) : ∃ k, k < 207 ∧ CdX b nm S x k := by
  obtain ⟨h0, n, hn, w, rfl⟩ := h
  obtain ⟨p, hp, hbt⟩ := some_bit RN_lt h0
  by_cases c : n < 6
  · have hw : w < 2 ^ n := by rw [← (RN_word hp hbt).2]; exact rowN_lt _ _ _ _
    refine ⟨2 ^ n - 1 + w, ?_, n, hn, w, rfl, Or.inl ⟨c, hw, rfl⟩⟩
    rcases n6 c with q | q | q | q | q | q <;> omega
  · exact ⟨63 + (n - 6) * 48 + p, by omega, n, hn, w, rfl, Or.inr ⟨by omega, p, hp, hbt, rfl⟩⟩
theorem CdX.one {x y k : Nat} (hb : b ≤ 8) (hx : CdX b nm S x k) (hy : CdX b nm S y k) : x = y := by
  obtain ⟨n, hn, w, rfl, hx⟩ := hx
  obtain ⟨n', hn', w', rfl, hy⟩ := hy
  rcases hx with ⟨a1, a2, a3⟩ | ⟨a1, p, a2, a3, a4⟩
  · rcases hy with ⟨c1, c2, c3⟩ | ⟨c1, p', c2, c3, c4⟩
    · have e : n = n' ∧ w = w' := by
        rcases n6 a1 with q | q | q | q | q | q <;> rcases n6 c1 with q' | q' | q' | q' | q' | q' <;> omega
      rw [e.1, e.2]
    · exfalso
      rcases n6 a1 with q | q | q | q | q | q <;> omega
  · rcases hy with ⟨c1, c2, c3⟩ | ⟨c1, p', c2, c3, c4⟩
    · exfalso
      rcases n6 c1 with q | q | q | q | q | q <;> omega
    · have e : n = n' ∧ p = p' := by omega
      obtain ⟨rfl, rfl⟩ := e
      rw [← (RN_word a2 a3).2, ← (RN_word c2 c3).2]
theorem few (hb : b ≤ 8) {len : Nat} {s : Nat → Nat} (h1 : ∀ i, i < len → Gd b nm S (s i)) (h2 : ∀ i j, i < j → j < len → s i ≠ s j) : len ≤ 207 := by
  have hc : ∀ i, i < len → Classical.epsilon (fun k => k < 207 ∧ CdX b nm S (s i) k) < 207 ∧ CdX b nm S (s i) (Classical.epsilon (fun k => k < 207 ∧ CdX b nm S (s i) k)) := fun i hi => Classical.epsilon_spec (CdX.ex hb (h1 i hi))
  refine fb_holes 207 len (fun i => Classical.epsilon (fun k => k < 207 ∧ CdX b nm S (s i) k)) (fun i hi => (hc i hi).1) (fun i j hij hj e => ?_)
  have c1 := (hc i (by omega)).2
  have c2 := (hc j hj).2
  try dsimp only at e
  rw [← e] at c2
  exact h2 i j hij hj (CdX.one hb c1 c2)
/-! the search for all of them -/
noncomputable def addS (st : Nat × (Nat → Nat)) (x : Nat) : Nat × (Nat → Nat) := @ite _ (x = 0 ∨ ∃ i, i < st.1 ∧ st.2 i = x) (Classical.propDecidable _) st (st.1 + 1, fun i => if i = st.1 then x else st.2 i)
def GS (b : Nat) (nm : Nat → Nat) (S : Nat → Bool) (st : Nat × (Nat → Nat)) : Prop := (∀ i, i < st.1 → Gd b nm S (st.2 i)) ∧ ∀ i j, i < j → j < st.1 → st.2 i ≠ st.2 j
theorem addS_no {st : Nat × (Nat → Nat)} {x : Nat} (h : x = 0 ∨ ∃ i, i < st.1 ∧ st.2 i = x) : addS st x = st := by unfold addS; rw [if_pos h]
theorem addS_yes {st : Nat × (Nat → Nat)} {x : Nat} (h : ¬ (x = 0 ∨ ∃ i, i < st.1 ∧ st.2 i = x)) : addS st x = (st.1 + 1, fun i => if i = st.1 then x else st.2 i) := by unfold addS; rw [if_neg h]
theorem addS_old {st : Nat × (Nat → Nat)} {x i : Nat} (h : i < st.1) : (addS st x).2 i = st.2 i ∧ st.1 ≤ (addS st x).1 := by
  by_cases c : x = 0 ∨ ∃ i, i < st.1 ∧ st.2 i = x
  · rw [addS_no c]; exact ⟨rfl, Nat.le_refl _⟩
  · rw [addS_yes c]
    dsimp only
    rw [if_neg (by omega)]
    exact ⟨rfl, by omega⟩
theorem GS.add {st : Nat × (Nat → Nat)} {x : Nat} (h : GS b nm S st) (hx : x ≠ 0 → Gd b nm S x) : GS b nm S (addS st x) := by
  by_cases c : x = 0 ∨ ∃ i, i < st.1 ∧ st.2 i = x
  · rw [addS_no c]; exact h
  · rw [addS_yes c]
    refine ⟨fun i hi => ?_, fun i j hij hj => ?_⟩
    · dsimp only at *
      by_cases e : i = st.1
      · rw [if_pos e]; exact hx (fun z => c (Or.inl z))
      · rw [if_neg e]; exact h.1 i (by omega)
    · dsimp only at *
      rw [if_neg (show ¬ i = st.1 by omega)]
      by_cases e : j = st.1
      · rw [if_pos e]
        intro z
        exact c (Or.inr ⟨i, by omega, z⟩)
      · rw [if_neg e]; exact h.2 i j hij (by omega)
noncomputable def bfS (b : Nat) (G : Nat → Bool) (x0 : Nat) : Nat → Nat × (Nat → Nat)
  | 0 => (if x0 = 0 then 0 else 1, fun _ => x0)
  | i + 1 => if i < (bfS b G x0 i).1 then addS (addS (bfS b G x0 i) (nxN b G false ((bfS b G x0 i).2 i))) (nxN b G true ((bfS b G x0 i).2 i)) else bfS b G x0 i
theorem GS.init (hs : SG b S G nm) : GS b nm S (bfS b G (bsN S 48) 0) := by
  have hl : ∀ i, i < (bfS b G (bsN S 48) 0).1 → bsN S 48 ≠ 0 ∧ i = 0 := by
    intro i hi
    rw [bfS] at hi
    dsimp only at hi
    by_cases c : bsN S 48 = 0
    · rw [if_pos c] at hi; exact absurd hi (by omega)
    · rw [if_neg c] at hi; exact ⟨c, by omega⟩
  refine ⟨fun i hi => ⟨(hl i hi).1, 0, Nat.zero_le _, 0, RN_0.symm⟩, fun i j hij hj => ?_⟩
  have := (hl j hj).2
  omega
theorem gs_all (hs : SG b S G nm) : ∀ i, GS b nm S (bfS b G (bsN S 48) i)
  | 0 => GS.init hs
  | i + 1 => by
    have ih := gs_all hs i
    rw [bfS]
    by_cases c : i < (bfS b G (bsN S 48) i).1
    · rw [if_pos c]
      have g := ih.1 i c
      exact (ih.add (fun z => g.nx hs false z)).add (fun z => g.nx hs true z)
    · rw [if_neg c]; exact ih
theorem bfS_stop {x0 i : Nat} (h : ¬ i < (bfS b G x0 i).1) : ∀ m, i ≤ m → bfS b G x0 m = bfS b G x0 i := by
  intro m
  induction m with
  | zero => intro z; rw [show i = 0 by omega]
  | succ m ih =>
    intro z
    by_cases e : i = m + 1
    · rw [e]
    · have := ih (by omega)
      rw [bfS, this, if_neg (by omega)]
/-! levels -/
noncomputable def bldF (b : Nat) (G : Nat → Bool) (s : Nat → Nat) : Nat → Nat × (Nat → Nat)
  | 0 => (0, fun _ => 0)
  | k + 1 => if nxN b G (decide (k % 2 = 1)) (s (k / 2)) = 0 then bldF b G s k else ((bldF b G s k).1 + 1, fun i => if i = (bldF b G s k).1 then nxN b G (decide (k % 2 = 1)) (s (k / 2)) else (bldF b G s k).2 i)
noncomputable def lvF (b : Nat) (G : Nat → Bool) (x0 : Nat) : Nat → Nat × (Nat → Nat)
  | 0 => (if x0 = 0 then 0 else 1, fun _ => x0)
  | n + 1 => bldF b G (lvF b G x0 n).2 (2 * (lvF b G x0 n).1)
def LvW (b : Nat) (nm : Nat → Nat) (S : Nat → Bool) (n : Nat) (st : Nat × (Nat → Nat)) (ws : Nat → Nat) : Prop := (∀ i, i < st.1 → st.2 i ≠ 0 ∧ st.2 i = RN b nm S n (ws i)) ∧ ∀ i j, i < j → j < st.1 → ws i < ws j
theorem LvW.le {n : Nat} {st : Nat × (Nat → Nat)} {ws : Nat → Nat} (h : LvW b nm S n st ws) : st.1 ≤ 48 := by
  have hc : ∀ i, i < st.1 → Classical.epsilon (fun p => p < 48 ∧ (st.2 i).testBit p = true) < 48 ∧ (st.2 i).testBit (Classical.epsilon (fun p => p < 48 ∧ (st.2 i).testBit p = true)) = true := fun i hi => Classical.epsilon_spec (p := fun p => p < 48 ∧ (st.2 i).testBit p = true) (some_bit (by rw [(h.1 i hi).2]; exact RN_lt) (h.1 i hi).1)
  refine fb_holes 48 st.1 (fun i => Classical.epsilon (fun p => p < 48 ∧ (st.2 i).testBit p = true)) (fun i hi => (hc i hi).1) (fun i j hij hj e => ?_)
  have c1 := hc i (by omega)
  have c2 := hc j hj
  try dsimp only at e
  rw [← e] at c2
  have l := h.2 i j hij hj
  rw [(h.1 i (by omega)).2] at c1
  rw [(h.1 j hj).2] at c2
  have w1 := (RN_word c1.1 c1.2).2
  rw [(h.1 i (by omega)).2] at c2
  have w2 := (RN_word c2.1 c2.2).2
  omega
theorem lvw_bld (hs : SG b S G nm) {n : Nat} {st : Nat × (Nat → Nat)} {ws : Nat → Nat} (h : LvW b nm S n st ws) : ∀ k, k ≤ 2 * st.1 → ∃ ws', LvW b nm S (n + 1) (bldF b G st.2 k) ws' ∧ ∀ i, i < (bldF b G st.2 k).1 → k < 2 * st.1 → ws' i < 2 * ws (k / 2) + k % 2
  | 0, _ => ⟨fun _ => 0, ⟨fun i hi => absurd hi (by rw [bldF]; exact Nat.not_lt_zero _), fun i j _ hj => absurd hj (by rw [bldF]; exact Nat.not_lt_zero _)⟩, fun i hi => absurd hi (by rw [bldF]; exact Nat.not_lt_zero _)⟩
  | k + 1, hk => by
    obtain ⟨ws', g1, g2⟩ := lvw_bld hs h k (by omega)
    have hi2 : k / 2 < st.1 := by omega
    have ew : nxN b G (decide (k % 2 = 1)) (st.2 (k / 2)) = RN b nm S (n + 1) (2 * ws (k / 2) + k % 2) := by
      rw [(h.1 (k / 2) hi2).2, nxN_RN hs]
      congr 2
      by_cases c : k % 2 = 1
      · rw [decide_eq_true c, if_pos rfl, c]
      · rw [decide_eq_false c, if_neg (by decide)]; omega
    have up : k + 1 < 2 * st.1 → 2 * ws (k / 2) + k % 2 < 2 * ws ((k + 1) / 2) + (k + 1) % 2 := by
      intro z
      by_cases c : k % 2 = 1
      · have := h.2 (k / 2) ((k + 1) / 2) (by omega) (by omega)
        omega
      · rw [show (k + 1) / 2 = k / 2 by omega]; omega
    rw [bldF]
    by_cases c : nxN b G (decide (k % 2 = 1)) (st.2 (k / 2)) = 0
    · rw [if_pos c]
      exact ⟨ws', g1, fun i hi z => Nat.lt_trans (g2 i hi (by omega)) (up z)⟩
    · rw [if_neg c]
      refine ⟨fun i => if i = (bldF b G st.2 k).1 then 2 * ws (k / 2) + k % 2 else ws' i, ⟨fun i hi => ?_, fun i j hij hj => ?_⟩, fun i hi z => ?_⟩
      · dsimp only at *
        by_cases e : i = (bldF b G st.2 k).1
        · rw [if_pos e, if_pos e]; exact ⟨c, ew⟩
        · rw [if_neg e, if_neg e]; exact g1.1 i (by omega)
      · dsimp only at *
        rw [if_neg (show ¬ i = (bldF b G st.2 k).1 by omega)]
        by_cases e : j = (bldF b G st.2 k).1
        · rw [if_pos e]; exact g2 i (by omega) (by omega)
        · rw [if_neg e]; exact g1.2 i j hij (by omega)
      · dsimp only at *
        by_cases e : i = (bldF b G st.2 k).1
        · rw [if_pos e]; exact up z
        · rw [if_neg e]; exact Nat.lt_trans (g2 i (by omega) (by omega)) (up z)
theorem lvw_lv (hs : SG b S G nm) : ∀ n, ∃ ws, LvW b nm S n (lvF b G (bsN S 48) n) ws
  | 0 => by
    have hl : ∀ i, i < (lvF b G (bsN S 48) 0).1 → bsN S 48 ≠ 0 ∧ i = 0 := by
      intro i hi
      rw [lvF] at hi
      dsimp only at hi
      by_cases c : bsN S 48 = 0
      · rw [if_pos c] at hi; exact absurd hi (by omega)
      · rw [if_neg c] at hi; exact ⟨c, by omega⟩
    refine ⟨fun _ => 0, fun i hi => ⟨(hl i hi).1, RN_0.symm⟩, fun i j hij hj => ?_⟩
    have := (hl j hj).2
    omega
  | n + 1 => by
    obtain ⟨ws, h⟩ := lvw_lv hs n
    obtain ⟨ws', h', -⟩ := lvw_bld hs h _ (Nat.le_refl _)
    exact ⟨ws', h'⟩
end RE
