/-! pure lemmas: covered and missing are alike -/
section
theorem bool9 : ∀ a1 a2 s1 s2 z t1 t2 x n A : Bool, (if (a1 && s1 && (z || t1)) = true then ((a2 && s2 && (z || t2)) && x && n && A) else false) = (a1 && a2 && (s1 && s2) && x && n && ((z || (t1 && t2)) && A)) := by decide +kernel
/-- the partners are those that the reference finds -/
theorem pt_eq {μ : aM} {i k c : Nat} {q : Int} (h : DW μ i k) (h6 : k ≤ 6) (hc : c < k) (hq0 : 0 ≤ q) (hq2 : q ≤ 2) {v w : Nat} (hv : v < 2 ^ k) (hw : w < 2 ^ k) :
    (ptF μ (27 + 8 * i) k c q v).getLsbD w = oW μ i k c q v w := by
  have hp : 2 ^ k ≤ 64 := Nat.pow_le_pow_right (n := 2) (by omega) h6
  have hA : allB (fun j => !(decide (¬ ush (hdF μ (27 + 8 * i) c q) j % 2 = 0) && (mL μ (27 + 8 * i + 5) j).getLsbD v && (mL μ (27 + 8 * i + 5) j).getLsbD w && !(w.testBit j == v.testBit j))) k = allB (oJ μ i c q v w) k := by
    refine allB_ext k (fun j hj => ?_)
    show (!(decide (¬ ush (hdF μ (27 + 8 * i) c q) j % 2 = 0) && (mL μ (27 + 8 * i + 5) j).getLsbD v && (mL μ (27 + 8 * i + 5) j).getLsbD w && !(w.testBit j == v.testBit j))) = oJ μ i c q v w j
    unfold oJ oB
    rw [held_eq h h6 hc hq0 hq2 hj, h.2.2.2.1 j hj v hv, h.2.2.2.1 j hj w hw, xor_ne, Nat.testBit_and]
    cases (oS μ i v).testBit j <;> cases (oS μ i w).testBit j <;> cases (v ^^^ w).testBit j <;> simp
  have e : (ptF μ (27 + 8 * i) k c q v).getLsbD w = (if (oK μ i v && (oS μ i v).testBit c && (decide (q = 0) || oT μ i v c)) = true then ((oK μ i w && (oS μ i w).testBit c && (decide (q = 0) || oT μ i w c)) && (v ^^^ w).testBit c && decide (¬ oC μ i v = oC μ i w) && allB (oJ μ i c q v w) k) else false) := by
    unfold ptF
    rw [ab_eq h h6 hc hv]
    split
    · rw [pfF_bit (by omega) (by omega) (by omega) k h6, ab_eq h h6 hc hw, xor_ne, ne_eq h h6 hv hw, hA]
    · exact BitVec.getLsbD_zero
  rw [e, bool9]
  unfold oW oQ oG oB
  rw [Nat.testBit_and]
theorem ab_hi {μ : aM} {i k c : Nat} {q : Int} (h : DW μ i k) {w : Nat} (h1 : 2 ^ k ≤ w) (h2 : w < 64) : (abF μ (27 + 8 * i) c q).getLsbD w = false := by
  have e9 := h.2.2.1 w h2
  rw [decide_eq_false (by omega), Bool.false_and] at e9
  unfold abF
  split
  · rw [BitVec.getLsbD_and, e9, Bool.false_and]
  · rw [BitVec.getLsbD_and, BitVec.getLsbD_and, e9, Bool.false_and, Bool.false_and]
theorem pt_hi {μ : aM} {i k c : Nat} {q : Int} (h : DW μ i k) (h6 : k ≤ 6) (hc : c < k) {v w : Nat} (hv : v < 64) (h1 : 2 ^ k ≤ w) : (ptF μ (27 + 8 * i) k c q v).getLsbD w = false := by
  by_cases h2 : w < 64
  · unfold ptF
    split
    · rw [pfF_bit h2 hv (by omega) k h6, ab_hi h h1 h2]; rfl
    · exact BitVec.getLsbD_zero
  · exact BitVec.getLsbD_of_ge _ _ (by omega)
theorem oW_irr (μ : aM) (i k c : Nat) (q : Int) (v : Nat) : oW μ i k c q v v = false := by
  have : oQ μ i c v v = false := by unfold oQ; simp
  rw [oW, this, Bool.false_and]
theorem oW_sym (μ : aM) (i k c : Nat) (q : Int) (v w : Nat) : oW μ i k c q v w = oW μ i k c q w v := by
  have e1 : oB μ i v w = oB μ i w v := Nat.and_comm _ _
  have e2 : v ^^^ w = w ^^^ v := Nat.xor_comm _ _
  have e3 : oQ μ i c v w = oQ μ i c w v := by
    unfold oQ
    rw [e1, e2, show decide (¬ oC μ i v = oC μ i w) = decide (¬ oC μ i w = oC μ i v) from by rw [decide_eq_decide]; omega]
    cases oK μ i v <;> cases oK μ i w <;> rfl
  have e4 : oG μ i c q v w = oG μ i c q w v := by unfold oG; rw [Bool.and_comm (oT μ i v c)]
  have e5 : oJ μ i c q v w = oJ μ i c q w v := funext fun j => by unfold oJ; rw [e1, e2]
  rw [oW, oW, e3, e4, e5]
/-- two of the words f 0 .. f (n-1) show a condition: class and reference -/
theorem shW_any {μ : aM} {i k c : Nat} {q : Int} (h : DW μ i k) (h6 : k ≤ 6) (hc : c < k) (hq0 : 0 ≤ q) (hq2 : q ≤ 2) {S : BitVec 64} {f : Nat → Nat} {n : Nat} (hf : ∀ p, p < n → f p < 2 ^ k) (hS : ∀ w, w < 2 ^ k → (S.getLsbD w = true ↔ ∃ p, p < n ∧ f p = w)) :
    shW μ (27 + 8 * i) k c q S = anyB (fun r => anyB (fun j => oW μ i k c q (f r) (f j)) r) n := by
  rw [Bool.eq_iff_iff, anyB_iff]
  unfold shW
  rw [decide_eq_true_iff, pairS_no]
  constructor
  · intro hn
    have hn' : ∃ v w, v < w ∧ w < 2 ^ k ∧ (S.getLsbD v && (S &&& ptF μ (27 + 8 * i) k c q v).getLsbD w) = true := by
      apply Classical.byContradiction
      intro hx
      refine hn (fun v w h1 h2 => ?_)
      cases hb : (S.getLsbD v && (S &&& ptF μ (27 + 8 * i) k c q v).getLsbD w) with
      | false => rfl
      | true => exact absurd ⟨v, w, h1, h2, hb⟩ hx
    obtain ⟨v, w, h1, h2, hb⟩ := hn'
    rw [Bool.and_eq_true, BitVec.getLsbD_and, Bool.and_eq_true, pt_eq h h6 hc hq0 hq2 (by omega) h2] at hb
    obtain ⟨b1, b2, b3⟩ := hb
    obtain ⟨p, p1, p2⟩ := (hS v (by omega)).mp b1
    obtain ⟨r, r1, r2⟩ := (hS w h2).mp b2
    rcases Nat.lt_or_gt_of_ne (show p ≠ r from fun e => by rw [e, r2] at p2; omega) with hpr | hpr
    · exact ⟨r, r1, (anyB_iff _).mpr ⟨p, hpr, by rw [r2, p2, oW_sym]; exact b3⟩⟩
    · exact ⟨p, p1, (anyB_iff _).mpr ⟨r, hpr, by rw [r2, p2]; exact b3⟩⟩
  · rintro ⟨r, r1, h2⟩ hn
    obtain ⟨p, p1, hw⟩ := (anyB_iff _).mp h2
    have a1 := hf r r1
    have a2 := hf p (by omega)
    have b1 := (hS _ a1).mpr ⟨r, r1, rfl⟩
    have b2 := (hS _ a2).mpr ⟨p, by omega, rfl⟩
    rcases Nat.lt_trichotomy (f r) (f p) with hx | hx | hx
    · have := hn (f r) (f p) hx a2
      rw [BitVec.getLsbD_and, b1, b2, pt_eq h h6 hc hq0 hq2 a1 a2, hw] at this
      exact absurd this (by decide)
    · rw [hx, oW_irr] at hw; exact absurd hw (by decide)
    · have := hn (f p) (f r) hx a1
      rw [BitVec.getLsbD_and, b1, b2, pt_eq h h6 hc hq0 hq2 a2 a1, oW_sym, hw] at this
      exact absurd this (by decide)
theorem one_bit {a w : Nat} (hw : w < 64) (ha : a < 64) : ((1 : BitVec 64) <<< a).getLsbD w = decide (a = w) := by
  have : ∀ a, a < 64 → ∀ w, w < 64 → ((1 : BitVec 64) <<< a).getLsbD w = decide (a = w) := by decide +kernel
  exact this a ha w hw
theorem wsF_bit {f : Nat → Nat} {w : Nat} (hw : w < 64) : ∀ n, (∀ p, p < n → f p < 64) → ((wsF f n).getLsbD w = true ↔ ∃ p, p < n ∧ f p = w)
  | 0, _ => by rw [wsF]; exact ⟨fun h => absurd h (by rw [show (0 : BitVec 64).getLsbD w = false from BitVec.getLsbD_zero]; decide), fun ⟨p, h, _⟩ => absurd h (by omega)⟩
  | n + 1, hf => by
    rw [wsF, BitVec.getLsbD_or, Bool.or_eq_true, wsF_bit hw n (fun p hp => hf p (by omega)), one_bit hw (hf n (by omega)), decide_eq_true_iff]
    constructor
    · rintro (⟨p, h1, h2⟩ | h)
      · exact ⟨p, by omega, h2⟩
      · exact ⟨n, by omega, h⟩
    · rintro ⟨p, h1, h2⟩
      by_cases e : p = n
      · exact Or.inr (e ▸ h2)
      · exact Or.inl ⟨p, by omega, h2⟩
theorem wb_ext {f g : Nat → Bool} : ∀ n, (∀ j, j < n → f j = g j) → wb f n = wb g n
  | 0, _ => rfl
  | n + 1, h => by rw [wb, wb, h n (by omega), wb_ext n (fun j hj => h j (by omega))]
theorem anyB_ext {f g : Nat → Bool} : ∀ n, (∀ j, j < n → f j = g j) → anyB f n = anyB g n
  | 0, _ => rfl
  | n + 1, h => by rw [anyB, anyB, h n (by omega), anyB_ext n (fun j hj => h j (by omega))]
/-- both hold the same conditions and the same n records -/
def RW (μ : aM) (i k n : Nat) : Prop := (∀ j, j < k → mI μ (27 + 8 * i + 3) j = mI μ 79 (6 * i + j) ∧ 0 ≤ mI μ 79 (6 * i + j) ∧ mI μ 79 (6 * i + j) < 8) ∧ (∀ j, j < 8 → mI μ 5 j = mI μ 70 j ∧ mI μ 6 j = mI μ 71 j ∧ mI μ 7 j = mI μ 72 j ∧ mI μ 8 j = mI μ 73 j) ∧
  (∀ j, j < k → 0 ≤ mI μ 71 (oU μ i j) ∧ mI μ 71 (oU μ i j) < 3 ∧ -1 ≤ mI μ 72 (oU μ i j) ∧ mI μ 72 (oU μ i j) < 3) ∧ (∀ j, j < 3 * n → mI μ 64 j = mI μ 91 j)
theorem rv_eq {μ : aM} {r : Nat} {t : Int} (h : ∀ j, j < 3 → mI μ 64 (3 * r + j) = mI μ 91 (3 * r + j)) (h1 : -1 ≤ t) (h2 : t < 3) : rv μ (3 * r) t = sb3 t (mI μ 91 (3 * r)) (mI μ 91 (3 * r + 1)) (mI μ 91 (3 * r + 2)) := by
  rcases (show t = -1 ∨ t = 0 ∨ t = 1 ∨ t = 2 by omega) with rfl | rfl | rfl | rfl
  · rfl
  · exact h 0 (by omega)
  · exact h 1 (by omega)
  · exact h 2 (by omega)
theorem word_eq {μ : aM} {i k n : Nat} (h : RW μ i k n) {r : Nat} (hr : r < n) : wb (fun j => hF μ (3 * r) (mI μ (27 + 8 * i + 3) j).toNat) k = oR μ i k r := by
  unfold oR oWd
  refine wb_ext k (fun j hj => ?_)
  obtain ⟨a1, a2, a3⟩ := h.1 j hj
  have e : (mI μ (27 + 8 * i + 3) j).toNat = oU μ i j := by rw [a1]; rfl
  have hl : oU μ i j < 8 := by unfold oU; omega
  obtain ⟨b1, b2, b3, b4⟩ := h.2.1 _ hl
  obtain ⟨c1, c2, c3, c4⟩ := h.2.2.1 j hj
  have hrec : ∀ t, t < 3 → mI μ 64 (3 * r + t) = mI μ 91 (3 * r + t) := fun t ht => h.2.2.2 _ (by omega)
  show hF μ (3 * r) (mI μ (27 + 8 * i + 3) j).toNat = oHd μ (oU μ i j) _ _ _
  rw [e]
  unfold hF oHd
  rw [b1, b2, b3, b4, rv_eq hrec (by omega) c2, rv_eq hrec c3 c4]
  have : sb3 (mI μ 71 (oU μ i j)) (mI μ 91 (3 * r)) (mI μ 91 (3 * r + 1)) (mI μ 91 (3 * r + 2)) = pk3 (mI μ 71 (oU μ i j)) (mI μ 91 (3 * r)) (mI μ 91 (3 * r + 1)) (mI μ 91 (3 * r + 2)) := by unfold sb3; rw [if_neg (by omega)]
  rw [this]
theorem wsF_ext {f g : Nat → Nat} : ∀ n, (∀ j, j < n → f j = g j) → wsF f n = wsF g n
  | 0, _ => rfl
  | n + 1, h => by rw [wsF, wsF, h n (by omega), wsF_ext n (fun j hj => h j (by omega))]
/-- covered answers alike -/
theorem cov_eq {μ : aM} {i k c n : Nat} {q : Int} (h : DW μ i k) (hr : RW μ i k n) (h6 : k ≤ 6) (hc : c < k) (hq0 : 0 ≤ q) (hq2 : q ≤ 2) : shW μ (27 + 8 * i) k c q (rcW μ (27 + 8 * i) k n) = oCv μ i k c q n := by
  have hp : 2 ^ k ≤ 64 := Nat.pow_le_pow_right (n := 2) (by omega) h6
  have e : rcW μ (27 + 8 * i) k n = wsF (oR μ i k) n := wsF_ext n (fun r hr' => word_eq hr hr')
  have hlt : ∀ r, oR μ i k r < 2 ^ k := fun r => wb_lt _ k
  rw [e]
  exact shW_any h h6 hc hq0 hq2 (fun p _ => hlt p) (fun w hw => wsF_bit (by omega) n (fun p _ => Nat.lt_of_lt_of_le (hlt p) hp))
theorem pairS_ge {f : Nat → Nat → Bool} {N : Nat} : pairS f N = -1 ∨ ∃ v w, v < w ∧ w < N ∧ f v w = true ∧ pairS f N = ((100 * v + w : Nat) : Int) := by
  have sS : ∀ (g : Nat → Bool) (m a w : Nat), sF g m a = some w → a ≤ w ∧ w < a + m ∧ g w = true := by
    intro g m
    induction m with
    | zero => intro a w h; cases h
    | succ m ih =>
      intro a w h
      rw [sF] at h
      by_cases hg : g a = true
      · rw [if_pos hg] at h; cases h; exact ⟨Nat.le_refl _, by omega, hg⟩
      · rw [if_neg hg] at h
        obtain ⟨x, y, z⟩ := ih (a + 1) w h
        exact ⟨by omega, by omega, z⟩
  have key : ∀ m v, v + m ≤ N → oF f N m v = -1 ∨ ∃ a w, a < w ∧ w < N ∧ f a w = true ∧ oF f N m v = ((100 * a + w : Nat) : Int) := by
    intro m
    induction m with
    | zero => intro v _; exact Or.inl rfl
    | succ m ih =>
      intro v hv
      rw [oF]
      cases hs : sF (f v) (N - (v + 1)) (v + 1) with
      | none => exact ih (v + 1) (by omega)
      | some w =>
        obtain ⟨x, y, z⟩ := sS _ _ _ _ hs
        exact Or.inr ⟨v, w, by omega, by omega, z, rfl⟩
  exact key N 0 (by omega)
theorem sol_b {μ : aM} {i k c : Nat} {q : Int} (h : DW μ i k) (h6 : k ≤ 6) (hc : c < k) (hq0 : 0 ≤ q) (hq2 : q ≤ 2) : shW μ (27 + 8 * i) k c q (mL μ (27 + 8 * i) 9) = decide (0 ≤ pairS (oW μ i k c q) (2 ^ k)) := by
  unfold shW
  rw [solve_eq h h6 hc hq0 hq2, decide_eq_decide]
  rcases pairS_ge (f := oW μ i k c q) (N := 2 ^ k) with e | ⟨v, w, -, -, -, e⟩ <;> omega
/-- missing answers alike -/
theorem miss_eq {μ : aM} {i k n : Nat} {q : Int} (h : DW μ i k) (hr : RW μ i k n) (h6 : k ≤ 6) (hq0 : 0 ≤ q) (hq2 : q ≤ 2) :
    sF (fun j => shW μ (27 + 8 * i) k j q (mL μ (27 + 8 * i) 9) && !shW μ (27 + 8 * i) k j q (rcW μ (27 + 8 * i) k n)) (k - 0) 0 = sF (fun j => decide (0 ≤ pairS (oW μ i k j q) (2 ^ k)) && !oCv μ i k j q n) (k - 0) 0 :=
  sF_ext _ _ (fun u _ hu => by
    have hu' : u < k := by omega
    show (_ && _) = (_ && _)
    rw [sol_b h h6 hu' hq0 hq2, cov_eq h hr h6 hu' hq0 hq2])
end
