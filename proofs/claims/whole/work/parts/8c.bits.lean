/-! pure lemmas: turned, common inputs, letters -/
section
/-! a condition turned round -/
def trn (b : BitVec 64) (c : Nat) : BitVec 64 := ((b &&& tW c) >>> 2 ^ c) ||| ((b &&& (tW c ^^^ MO)) <<< 2 ^ c)
theorem trn_1 : ∀ c, c < 6 → ∀ w, w < 64 → w.testBit c = true → w ^^^ 2 ^ c = w - 2 ^ c ∧ 2 ^ c ≤ w ∧ (w - 2 ^ c).testBit c = false ∧ (tW c).getLsbD (2 ^ c + w) = false := by decide +kernel
theorem trn_0 : ∀ c, c < 6 → ∀ w, w < 64 → w.testBit c = false → w ^^^ 2 ^ c = 2 ^ c + w ∧ 2 ^ c + w < 64 ∧ (2 ^ c + w).testBit c = true ∧ (2 ^ c ≤ w → (w - 2 ^ c).testBit c = true) := by decide +kernel
theorem trn_bit {b : BitVec 64} {c w : Nat} (hc : c < 6) (hw : w < 64) : (trn b c).getLsbD w = b.getLsbD (w ^^^ 2 ^ c) := by
  unfold trn
  rw [BitVec.getLsbD_or, BitVec.getLsbD_ushiftRight, BitVec.getLsbD_and, BitVec.getLsbD_shiftLeft, BitVec.getLsbD_and]
  cases hb : w.testBit c with
  | true =>
    obtain ⟨h1, h2, h3, h4⟩ := trn_1 c hc w hw hb
    have h5 : w - 2 ^ c < 64 := Nat.lt_of_le_of_lt (Nat.sub_le _ _) hw
    rw [h4, h1, BitVec.getLsbD_xor, MO_bit h5, tW_bit c hc _ h5, h3, decide_eq_true hw, decide_eq_false (by omega)]
    simp
  | false =>
    obtain ⟨h1, h2, h3, h4⟩ := trn_0 c hc w hw hb
    rw [tW_bit c hc _ h2, h3, h1]
    by_cases g : w < 2 ^ c
    · rw [decide_eq_true g]; simp
    · have h5 := h4 (by omega)
      have h6 : w - 2 ^ c < 64 := Nat.lt_of_le_of_lt (Nat.sub_le _ _) hw
      rw [BitVec.getLsbD_xor, MO_bit h6, tW_bit c hc _ h6, h5]; simp
/-! common inputs -/
def inp (f s : Int) : Nat := 2 ^ f.toNat ||| (if s = -1 then 0 else 2 ^ s.toNat)
theorem inp_eq {f1 s1 f2 s2 : Int} (a1 : 0 ≤ f1) (a2 : f1 < 3) (b1 : -1 ≤ s1) (b2 : s1 < 3) (c1 : 0 ≤ f2) (c2 : f2 < 3) (d1 : -1 ≤ s2) (d2 : s2 < 3) : (inp f2 s2 &&& inp f1 s1 = 0) ↔ ¬ (f1 = f2 ∨ f1 = s2 ∨ (0 ≤ s1 ∧ (s1 = f2 ∨ s1 = s2))) := by
  rcases (show f1 = 0 ∨ f1 = 1 ∨ f1 = 2 by omega) with rfl | rfl | rfl <;> rcases (show s1 = -1 ∨ s1 = 0 ∨ s1 = 1 ∨ s1 = 2 by omega) with rfl | rfl | rfl | rfl <;> rcases (show f2 = 0 ∨ f2 = 1 ∨ f2 = 2 by omega) with rfl | rfl | rfl <;> rcases (show s2 = -1 ∨ s2 = 0 ∨ s2 = 1 ∨ s2 = 2 by omega) with rfl | rfl | rfl | rfl <;> decide
theorem inp_8 {f s : Int} (a1 : 0 ≤ f) (a2 : f < 3) (b1 : -1 ≤ s) (b2 : s < 3) : inp f s < 8 := by
  rcases (show f = 0 ∨ f = 1 ∨ f = 2 by omega) with rfl | rfl | rfl <;> rcases (show s = -1 ∨ s = 0 ∨ s = 1 ∨ s = 2 by omega) with rfl | rfl | rfl | rfl <;> decide
/-! the letters of a set -/
theorem cn_succ_le {f : Nat → Bool} {l : Nat} : ∀ {n : Nat}, l < n → f l = true → cn f l + 1 ≤ cn f n
  | 0, h, _ => absurd h (by omega)
  | n + 1, h, hf => by
    rw [cn]
    by_cases e : l = n
    · subst e; rw [hf, if_pos rfl]; omega
    · have := cn_succ_le (n := n) (by omega) hf; omega
theorem cn_lt {f : Nat → Bool} {l m : Nat} (h : l < m) (hf : f l = true) : cn f l < cn f m := cn_succ_le h hf
/-- each place is some letter's -/
theorem cn_nth {f : Nat → Bool} : ∀ {n j : Nat}, j < cn f n → ∃ l, l < n ∧ f l = true ∧ cn f l = j
  | 0, j, h => absurd h (by rw [cn]; omega)
  | n + 1, j, h => by
    rw [cn] at h
    by_cases g : j < cn f n
    · obtain ⟨l, a, b, c⟩ := cn_nth g
      exact ⟨l, by omega, b, c⟩
    · cases hf : f n with
      | true => rw [hf, if_pos rfl] at h; exact ⟨n, by omega, hf, by omega⟩
      | false => rw [hf] at h; simp at h; omega
theorem cn_inj {f : Nat → Bool} {l m : Nat} (hl : f l = true) (hm : f m = true) (h : cn f l = cn f m) : l = m := by
  rcases Nat.lt_trichotomy l m with g | g | g
  · have := cn_lt g hl; omega
  · exact g
  · have := cn_lt g hm; omega
/-- the number of a letter: the bits below it -/
theorem cnt_low {s l : Nat} (hs : s < 256) (hl : l < 8) : cnt 8 (s &&& (2 ^ l - 1)) = cn s.testBit l := by
  rw [cnt_cn, Nat.and_two_pow_sub_one_eq_mod]
  have e : ∀ j, (s % 2 ^ l).testBit j = (decide (j < l) && s.testBit j) := fun j => Nat.testBit_mod_two_pow ..
  rw [cn_more (n := l) 8 (by omega) (fun j h1 h2 => by rw [e, decide_eq_false (by omega)]; rfl)]
  exact cn_ext l (fun j hj => by rw [e, decide_eq_true hj, Bool.true_and])
end
