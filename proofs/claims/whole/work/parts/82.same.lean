/-! pure lemmas: class and reference show the same -/
section
/-- what the class and the reference hold of the words of decision i -/
def DW (μ : aM) (i k : Nat) : Prop :=
  (∀ w, w < 64 → oC μ i w = 0 ∨ oC μ i w = 1) ∧ (∀ w, w < 2 ^ k → (mL μ (27 + 8 * i) 8).getLsbD w = decide (oC μ i w = 1)) ∧ (∀ w, w < 64 → (mL μ (27 + 8 * i) 9).getLsbD w = (decide (w < 2 ^ k) && oK μ i w)) ∧ (∀ c, c < k → ∀ w, w < 2 ^ k → (mL μ (27 + 8 * i + 5) c).getLsbD w = (oS μ i w).testBit c) ∧
    (∀ c, c < k → ∀ w, w < 2 ^ k → (mL μ (27 + 8 * i + 6) c).getLsbD w = oT μ i w c) ∧ (∀ c, c < k → ∃ t : Nat, mI μ (27 + 8 * i + 4) c = (t : Int) ∧ t < 64 ∧ ∀ j, j < k → t.testBit j = !oH μ i c j)
theorem hd_0 : ∀ c, c < 6 → ∀ j, j < 6 → decide (¬ ush (-1 - ((2 ^ c : Nat) : Int)) j % 2 = 0) = decide (¬ j = c) := by decide +kernel
theorem hd_1 : ∀ j, j < 6 → decide (¬ ush 0 j % 2 = 0) = false := by decide +kernel
theorem hd_2 : ∀ t, t < 64 → ∀ j, j < 6 → decide (¬ ush ((t : Nat) : Int) j % 2 = 0) = t.testBit j := by decide +kernel
theorem oH_self (μ : aM) (i c : Nat) : oH μ i c c = true := decide_eq_true (Or.inl rfl)
theorem held_eq {μ : aM} {i k c : Nat} {q : Int} (h : DW μ i k) (h6 : k ≤ 6) (hc : c < k) (hq0 : 0 ≤ q) (hq2 : q ≤ 2) {j : Nat} (hj : j < k) :
    decide (¬ ush (hdF μ (27 + 8 * i) c q) j % 2 = 0) = (decide (¬ j = c) && (decide (q = 0) || (decide (q = 2) && !oH μ i c j))) := by
  rcases (show q = 0 ∨ q = 1 ∨ q = 2 by omega) with rfl | rfl | rfl
  · have e : hdF μ (27 + 8 * i) c 0 = -1 - ((2 ^ c : Nat) : Int) := rfl
    rw [e, hd_0 c (by omega) j (by omega)]
    simp
  · have e : hdF μ (27 + 8 * i) c 1 = 0 := rfl
    rw [e, hd_1 j (by omega)]
    simp
  · obtain ⟨t, e1, e2, e3⟩ := h.2.2.2.2.2 c hc
    have e : hdF μ (27 + 8 * i) c 2 = (t : Int) := e1
    rw [e, hd_2 t e2 j (by omega), e3 j hj]
    by_cases g : j = c
    · subst g; rw [oH_self]; simp
    · simp [g]
theorem ab_eq {μ : aM} {i k c : Nat} {q : Int} (h : DW μ i k) (h6 : k ≤ 6) (hc : c < k) {w : Nat} (hw : w < 2 ^ k) : (abF μ (27 + 8 * i) c q).getLsbD w = (oK μ i w && (oS μ i w).testBit c && (decide (q = 0) || oT μ i w c)) := by
  have hp : 2 ^ k ≤ 64 := Nat.pow_le_pow_right (n := 2) (by omega) h6
  have e9 := h.2.2.1 w (by omega)
  rw [decide_eq_true hw, Bool.true_and] at e9
  unfold abF
  by_cases g : q = 0
  · rw [if_pos g, BitVec.getLsbD_and, e9, h.2.2.2.1 c hc w hw]; simp [g]
  · rw [if_neg g, BitVec.getLsbD_and, BitVec.getLsbD_and, e9, h.2.2.2.1 c hc w hw, h.2.2.2.2.1 c hc w hw]; simp [g]
theorem ne_eq {μ : aM} {i k : Nat} (h : DW μ i k) (h6 : k ≤ 6) {v w : Nat} (hv : v < 2 ^ k) (hw : w < 2 ^ k) : (!((mL μ (27 + 8 * i) 8).getLsbD w == (mL μ (27 + 8 * i) 8).getLsbD v)) = decide (¬ oC μ i v = oC μ i w) := by
  have hp : 2 ^ k ≤ 64 := Nat.pow_le_pow_right (n := 2) (by omega) h6
  rw [h.2.1 v hv, h.2.1 w hw]
  rcases h.1 v (by omega) with a | a <;> rcases h.1 w (by omega) with b | b <;> rw [a, b] <;> rfl
theorem allB_ext {f g : Nat → Bool} : ∀ n, (∀ j, j < n → f j = g j) → allB f n = allB g n
  | 0, _ => rfl
  | n + 1, h => by rw [allB, allB, h n (by omega), allB_ext n (fun j hj => h j (by omega))]
end
