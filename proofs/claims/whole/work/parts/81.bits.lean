/-! pure lemmas: bits of the sets of words -/
section
theorem MO_bit {w : Nat} (h : w < 64) : MO.getLsbD w = true := by
  have : ∀ w, w < 64 → MO.getLsbD w = true := by decide +kernel
  exact this w h
theorem lkW_bit {b : BitVec 64} {v w : Nat} (h : w < 64) : (lkW b v).getLsbD w = (b.getLsbD w == b.getLsbD v) := by
  unfold lkW
  cases hv : b.getLsbD v with
  | true => rw [if_pos rfl]; cases b.getLsbD w <;> rfl
  | false => rw [if_neg (by decide), BitVec.getLsbD_xor, MO_bit h]; cases b.getLsbD w <;> rfl
theorem tW_bit : ∀ j, j < 6 → ∀ w, w < 64 → (tW j).getLsbD w = w.testBit j := by decide +kernel
theorem ptF_not {μ : aM} {D k c : Nat} {q : Int} {v w : Nat} (h : (abF μ D c q).getLsbD v = false) : (ptF μ D k c q v).getLsbD w = false := by
  unfold ptF
  rw [h]
  exact BitVec.getLsbD_zero
/-- bit w of the partners of v, after j conditions -/
theorem pfF_bit {μ : aM} {D c : Nat} {q : Int} {v w : Nat} (hw : w < 64) (hv : v < 64) (hc : c < 6) : ∀ j, j ≤ 6 → (pfF μ D c q v j).getLsbD w = ((abF μ D c q).getLsbD w && !(w.testBit c == v.testBit c) && !((mL μ D 8).getLsbD w == (mL μ D 8).getLsbD v) && allB (fun j => !(decide (¬ ush (hdF μ D c q) j % 2 = 0) && (mL μ (D + 5) j).getLsbD v && (mL μ (D + 5) j).getLsbD w && !(w.testBit j == v.testBit j))) j)
  | 0, _ => by
    rw [pfF, BitVec.getLsbD_and, BitVec.getLsbD_and, BitVec.getLsbD_xor, BitVec.getLsbD_xor, lkW_bit hw, lkW_bit hw, MO_bit hw, tW_bit c hc w hw, tW_bit c hc v hv, allB, Bool.xor_true, Bool.xor_true, Bool.and_true]
  | j + 1, hj => by
    have ih := pfF_bit (μ := μ) (D := D) (q := q) hw hv hc j (by omega)
    rw [pfF, allB, ← Bool.and_assoc, ← ih]
    by_cases h : ¬ ush (hdF μ D c q) j % 2 = 0 ∧ (mL μ (D + 5) j).getLsbD v = true
    · rw [if_pos h, BitVec.getLsbD_and, BitVec.getLsbD_or, BitVec.getLsbD_xor, MO_bit hw, lkW_bit hw, tW_bit j (by omega) w hw, tW_bit j (by omega) v hv, h.2, decide_eq_true h.1]
      cases (mL μ (D + 5) j).getLsbD w <;> cases (w.testBit j == v.testBit j) <;> rfl
    · rw [if_neg h]
      have : (decide (¬ ush (hdF μ D c q) j % 2 = 0) && (mL μ (D + 5) j).getLsbD v) = false := by
        rw [Bool.and_eq_false_iff]
        by_cases g : ¬ ush (hdF μ D c q) j % 2 = 0
        · right
          cases hb : (mL μ (D + 5) j).getLsbD v with
          | true => exact absurd ⟨g, hb⟩ h
          | false => rfl
        · left; exact decide_eq_false g
      rw [this]
      simp
end
