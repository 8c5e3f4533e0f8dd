/-! pure lemmas: the pairs of class and reference are the same -/
section
theorem bool10 : ∀ a1 a2 s1 s2 z t1 t2 x n A : Bool, (a1 && (a2 && (if (a1 && s1 && (z || t1)) = true then ((a2 && s2 && (z || t2)) && x && n && A) else false))) = (a1 && a2 && (s1 && s2) && x && n && ((z || (t1 && t2)) && A)) := by decide +kernel
theorem xor_ne (v w c : Nat) : (!(w.testBit c == v.testBit c)) = (v ^^^ w).testBit c := by
  rw [Nat.testBit_xor]
  cases v.testBit c <;> cases w.testBit c <;> rfl
theorem fP_eq {μ : aM} {i k c : Nat} {q : Int} (h : DW μ i k) (h6 : k ≤ 6) (hc : c < k) (hq0 : 0 ≤ q) (hq2 : q ≤ 2) {v w : Nat} (hv : v < 2 ^ k) (hw : w < 2 ^ k) :
    (((mL μ (27 + 8 * i) 9).getLsbD v) && ((mL μ (27 + 8 * i) 9) &&& ptF μ (27 + 8 * i) k c q v).getLsbD w) = oW μ i k c q v w := by
  have hp : 2 ^ k ≤ 64 := Nat.pow_le_pow_right (n := 2) (by omega) h6
  have ev := h.2.2.1 v (by omega)
  rw [decide_eq_true hv, Bool.true_and] at ev
  have ew := h.2.2.1 w (by omega)
  rw [decide_eq_true hw, Bool.true_and] at ew
  have hA : allB (fun j => !(decide (¬ ush (hdF μ (27 + 8 * i) c q) j % 2 = 0) && (mL μ (27 + 8 * i + 5) j).getLsbD v && (mL μ (27 + 8 * i + 5) j).getLsbD w && !(w.testBit j == v.testBit j))) k = allB (oJ μ i c q v w) k := by
    refine allB_ext k (fun j hj => ?_)
    show (!(decide (¬ ush (hdF μ (27 + 8 * i) c q) j % 2 = 0) && (mL μ (27 + 8 * i + 5) j).getLsbD v && (mL μ (27 + 8 * i + 5) j).getLsbD w && !(w.testBit j == v.testBit j))) = oJ μ i c q v w j
    unfold oJ oB
    rw [held_eq h h6 hc hq0 hq2 hj, h.2.2.2.1 j hj v hv, h.2.2.2.1 j hj w hw, xor_ne, Nat.testBit_and]
    cases (oS μ i v).testBit j <;> cases (oS μ i w).testBit j <;> cases (v ^^^ w).testBit j <;> simp
  have e : (ptF μ (27 + 8 * i) k c q v).getLsbD w = (if (oK μ i v && (oS μ i v).testBit c && (decide (q = 0) || oT μ i v c)) = true then ((oK μ i w && (oS μ i w).testBit c && (decide (q = 0) || oT μ i w c)) && (v ^^^ w).testBit c && decide (¬ oC μ i v = oC μ i w) && allB (oJ μ i c q v w) k) else false) := by
    unfold ptF
    rw [ab_eq h h6 hc hv]
    split
    · rw [pfF_bit (by omega) (by omega) (by omega) k h6, ab_eq h h6 hc hw, xor_ne, ne_eq h h6 hv hw, hA]
    · exact BitVec.getLsbD_zero
  rw [BitVec.getLsbD_and, ev, ew, e, bool10]
  unfold oW oQ oG oB
  rw [Nat.testBit_and]
/-- solve answers alike -/
theorem solve_eq {μ : aM} {i k c : Nat} {q : Int} (h : DW μ i k) (h6 : k ≤ 6) (hc : c < k) (hq0 : 0 ≤ q) (hq2 : q ≤ 2) :
    pairS (fun v w => (mL μ (27 + 8 * i) 9).getLsbD v && ((mL μ (27 + 8 * i) 9) &&& ptF μ (27 + 8 * i) k c q v).getLsbD w) (2 ^ k) = pairS (oW μ i k c q) (2 ^ k) :=
  pairS_ext (fun v w h1 h2 => fP_eq h h6 hc hq0 hq2 (by omega) h2)
/-- feasible answers alike -/
theorem feas_eq {μ : aM} {i k : Nat} (h : DW μ i k) (h6 : k ≤ 6) : cnt 64 (mL μ (27 + 8 * i) 9).toNat = cn (fun j => decide (¬ mI μ 80 (64 * i + j) = 0)) (2 ^ k) := by
  have hp : 2 ^ k ≤ 64 := Nat.pow_le_pow_right (n := 2) (by omega) h6
  have hb : ∀ j, j < 64 → (mL μ (27 + 8 * i) 9).toNat.testBit j = (decide (j < 2 ^ k) && oK μ i j) := fun j hj => by rw [← h.2.2.1 j hj]; rfl
  rw [cnt_cn, cn_more (n := 2 ^ k) 64 hp (fun j h1 h2 => by rw [hb j h2, decide_eq_false (by omega)]; rfl)]
  exact cn_ext _ (fun j hj => by rw [hb j (by omega), decide_eq_true hj, Bool.true_and]; rfl)
end
