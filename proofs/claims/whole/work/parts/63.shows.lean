/-! the reference: shows -/
section
def bI (b : Bool) : Int := if b then 1 else 0
theorem bz {b : Bool} (h : bI b = 0) : b = false := by cases b with | true => exact absurd h (by decide) | false => rfl
theorem bn {b : Bool} (h : ¬ bI b = 0) : b = true := by cases b with | true => rfl | false => exact absurd rfl h
theorem bI_01 (b : Bool) : bI b = 0 ∨ bI b = 1 := by cases b with | true => exact Or.inr rfl | false => exact Or.inl rfl
theorem bI_in (b : Bool) : inR (bI b) := by cases b with | true => exact in_c rfl | false => exact in_c rfl
theorem bI_nr (b : Bool) : narrow .boolean (.int (Int32.ofInt (bI b))) = .int (Int32.ofInt (bI b)) := by cases b with | true => rfl | false => rfl
def allB (f : Nat → Bool) : Nat → Bool
  | 0 => true
  | n + 1 => allB f n && f n
/-- what the reference's arrays say of decision i -/
def oC (μ : aM) (i w : Nat) : Int := mI μ 82 (64 * i + w)
def oK (μ : aM) (i w : Nat) : Bool := decide (¬ mI μ 80 (64 * i + w) = 0)
def oS (μ : aM) (i w : Nat) : Nat := (mI μ 83 (64 * i + w)).toNat
def oU (μ : aM) (i j : Nat) : Nat := (mI μ 79 (6 * i + j)).toNat
def oT (μ : aM) (i w c : Nat) : Bool := decide (¬ oC μ i w = oC μ i (w ^^^ 2 ^ c))
def oH (μ : aM) (i a b : Nat) : Bool := decide (mI μ 71 (oU μ i a) = mI μ 71 (oU μ i b) ∨ mI μ 71 (oU μ i a) = mI μ 72 (oU μ i b) ∨ (0 ≤ mI μ 72 (oU μ i a) ∧ (mI μ 72 (oU μ i a) = mI μ 71 (oU μ i b) ∨ mI μ 72 (oU μ i a) = mI μ 72 (oU μ i b))))
def oB (μ : aM) (i v w : Nat) : Nat := oS μ i v &&& oS μ i w
def oQ (μ : aM) (i c v w : Nat) : Bool := oK μ i v && oK μ i w && (oB μ i v w).testBit c && (v ^^^ w).testBit c && decide (¬ oC μ i v = oC μ i w)
def oG (μ : aM) (i c : Nat) (q : Int) (v w : Nat) : Bool := decide (q = 0) || (oT μ i v c && oT μ i w c)
def oJ (μ : aM) (i c : Nat) (q : Int) (v w j : Nat) : Bool := !(decide (¬ j = c) && (oB μ i v w).testBit j && (decide (q = 0) || (decide (q = 2) && !oH μ i c j)) && (v ^^^ w).testBit j)
/-- whether the words v and w show condition c -/
def oW (μ : aM) (i k c : Nat) (q : Int) (v w : Nat) : Bool := oQ μ i c v w && (oG μ i c q v w && allB (oJ μ i c q v w) k)
variable {G : aG} {pg : Nat} {μ : aM}
set_option maxRecDepth 100000 in
theorem m_Mo_isTurned {d : Nat} (hd : 0 ≤ d) {i : Nat} (h4 : i < 4) {w c : Nat} (hw : w < 64) (hc : c < 6) (hR : ∀ k j, mR μ k j = R0 pg k j)  : AM G false d 0 0 y_Mo_isTurned [aP 67, aI (i : Int), aI (w : Int), aI (c : Int)] 94 μ (Qe (some (aI (bI (oT μ i w c)))) 94 μ) := by
  refine am_of (n := 0) pf_Mo_isTurned (Nat.le_of_ble_eq_true rfl) (by intro v hv; simp only [List.mem_cons, List.not_mem_nil, or_false] at hv; rcases hv with rfl | rfl | rfl | rfl <;> first | trivial | assumption | exact in_c rfl | (show inR _; unfold inR; omega)) rfl ?_
  have hpc : 2 ^ c ≤ 32 := Nat.pow_le_pow_right (n := 2) (by omega) (show c ≤ 5 by omega)
  have hxw : w ^^^ 2 ^ c < 2 ^ 6 := Nat.xor_lt_two_pow (by omega) (by omega)
  refine aw_aload_n d_Mo_isTurned_0 rfl rfl ?_
  refine aw_getR fd_Mo_comes lk_Mo_53 (by omega) rfl d_Mo_isTurned_1 (hR _ _) ?_
  refine aw_bipush (z := 64) d_Mo_isTurned_4 (in_c rfl) rfl ?_
  refine aw_iload_n d_Mo_isTurned_6 rfl rfl ?_
  refine aw_imul d_Mo_isTurned_7 (by unfold inR; omega) ?_
  refine aw_iload_n d_Mo_isTurned_8 rfl rfl ?_
  refine aw_iadd d_Mo_isTurned_9 (by unfold inR; omega) ?_
  refine aw_zald (n := 64 * i + w) (by omega) rfl (by omega) (by omega) d_Mo_isTurned_10 ?_
  refine aw_aload_n d_Mo_isTurned_11 rfl rfl ?_
  refine aw_getR fd_Mo_comes lk_Mo_53 (by omega) rfl d_Mo_isTurned_12 (hR _ _) ?_
  refine aw_bipush (z := 64) d_Mo_isTurned_15 (in_c rfl) rfl ?_
  refine aw_pc (pc' := 17) rfl ?_
  refine aw_iload_n d_Mo_isTurned_17 rfl rfl ?_
  refine aw_imul d_Mo_isTurned_18 (by unfold inR; omega) ?_
  refine aw_iload_n d_Mo_isTurned_19 rfl rfl ?_
  refine aw_iconst d_Mo_isTurned_20 (in_c rfl) ?_
  refine aw_iload_n d_Mo_isTurned_21 rfl rfl ?_
  refine aw_ishl (a := 1) (k0 := c) rfl rfl (by omega) (by omega) d_Mo_isTurned_22 ?_
  refine aw_tv (v' := ((2 ^ c : Nat) : Int)) (by rw [Nat.one_mul]) ?_
  refine aw_ixor (a := w) (b := 2 ^ c) rfl rfl d_Mo_isTurned_23 ?_
  refine aw_iadd d_Mo_isTurned_24 (by unfold inR; omega) ?_
  refine aw_zald (n := 64 * i + (w ^^^ 2 ^ c)) (by omega) rfl (by omega) (by omega) d_Mo_isTurned_25 ?_
  refine aw_icmp_eq (tgt := 33) d_Mo_isTurned_26 rfl (fun h26 => ?_) (fun h26 => ?_)
  · refine aw_iconst d_Mo_isTurned_33 (in_c rfl) ?_
    exact aw_zret d_Mo_isTurned_34 rfl rfl ⟨by rw [show oT μ i w c = false from decide_eq_false (fun q => q h26)]; rfl, rfl, rfl⟩
  · refine aw_iconst d_Mo_isTurned_29 (in_c rfl) ?_
    refine aw_goto (tgt := 34) d_Mo_isTurned_30 rfl ?_
    exact aw_zret d_Mo_isTurned_34 rfl rfl ⟨by rw [show oT μ i w c = true from decide_eq_true h26]; rfl, rfl, rfl⟩
set_option maxRecDepth 100000 in
theorem m_Mo_share {d : Nat} (hd : 0 ≤ d) {i : Nat} (h4 : i < 4) {a b : Nat} (ha : a < 6) (hb : b < 6) (hu : ∀ j, j < 6 → 0 ≤ mI μ 79 (6 * i + j) ∧ mI μ 79 (6 * i + j) < 8) (hR : ∀ k j, mR μ k j = R0 pg k j)  : AM G false d 0 0 y_Mo_share [aP 67, aI (i : Int), aI (a : Int), aI (b : Int)] 94 μ (Qe (some (aI (bI (oH μ i a b)))) 94 μ) := by
  refine am_of (n := 2) pf_Mo_share (Nat.le_of_ble_eq_true rfl) (by intro v hv; simp only [List.mem_cons, List.not_mem_nil, or_false] at hv; rcases hv with rfl | rfl | rfl | rfl <;> first | trivial | assumption | exact in_c rfl | (show inR _; unfold inR; omega)) rfl ?_
  have hua := hu a ha
  have hub := hu b hb
  have hA : oU μ i a < 8 := by unfold oU; omega
  have hB : oU μ i b < 8 := by unfold oU; omega
  refine aw_aload_n d_Mo_share_0 rfl rfl ?_
  refine aw_getR fd_Mo_uses lk_Mo_44 (by omega) rfl d_Mo_share_1 (hR _ _) ?_
  refine aw_bipush (z := 6) d_Mo_share_4 (in_c rfl) rfl ?_
  refine aw_iload_n d_Mo_share_6 rfl rfl ?_
  refine aw_imul d_Mo_share_7 (by unfold inR; omega) ?_
  refine aw_iload_n d_Mo_share_8 rfl rfl ?_
  refine aw_iadd d_Mo_share_9 (by unfold inR; omega) ?_
  refine aw_iald (n := 6 * i + a) (by omega) rfl (by omega) (by omega) d_Mo_share_10 ?_
  refine aw_tv (v' := ((oU μ i a : Nat) : Int)) (by unfold oU; omega) ?_
  refine aw_istore (lst' := [_, _, _, _, _, _]) d_Mo_share_11 (Nat.le_of_ble_eq_true rfl) rfl ?_
  refine aw_aload_n d_Mo_share_13 rfl rfl ?_
  refine aw_getR fd_Mo_uses lk_Mo_44 (by omega) rfl d_Mo_share_14 (hR _ _) ?_
  refine aw_pc (pc' := 17) rfl ?_
  refine aw_bipush (z := 6) d_Mo_share_17 (in_c rfl) rfl ?_
  refine aw_iload_n d_Mo_share_19 rfl rfl ?_
  refine aw_imul d_Mo_share_20 (by unfold inR; omega) ?_
  refine aw_iload_n d_Mo_share_21 rfl rfl ?_
  refine aw_iadd d_Mo_share_22 (by unfold inR; omega) ?_
  refine aw_iald (n := 6 * i + b) (by omega) rfl (by omega) (by omega) d_Mo_share_23 ?_
  refine aw_tv (v' := ((oU μ i b : Nat) : Int)) (by unfold oU; omega) ?_
  refine aw_istore (lst' := [_, _, _, _, _, _]) d_Mo_share_24 (Nat.le_of_ble_eq_true rfl) rfl ?_
  refine aw_aload_n d_Mo_share_26 rfl rfl ?_
  refine aw_getR fd_Mo_one lk_Mo_19 (by omega) rfl d_Mo_share_27 (hR _ _) ?_
  refine aw_iload d_Mo_share_30 rfl ?_
  refine aw_iald (n := oU μ i a) (by omega) rfl rfl (by omega) d_Mo_share_32 ?_
  refine aw_aload_n d_Mo_share_33 rfl rfl ?_
  refine aw_pc (pc' := 34) rfl ?_
  refine aw_getR fd_Mo_one lk_Mo_19 (by omega) rfl d_Mo_share_34 (hR _ _) ?_
  refine aw_iload d_Mo_share_37 rfl ?_
  refine aw_iald (n := oU μ i b) (by omega) rfl rfl (by omega) d_Mo_share_39 ?_
  refine aw_icmp_eq (tgt := 104) d_Mo_share_40 rfl (fun h40 => ?_) (fun h40 => ?_)
  · refine aw_iconst d_Mo_share_104 (in_c rfl) ?_
    refine aw_goto (tgt := 109) d_Mo_share_105 rfl ?_
    exact aw_zret d_Mo_share_109 rfl rfl ⟨by first | (rw [show oH μ i a b = true from decide_eq_true (by omega)]; rfl) | (rw [show oH μ i a b = false from decide_eq_false (by omega)]; rfl), rfl, rfl⟩
  · refine aw_aload_n d_Mo_share_43 rfl rfl ?_
    refine aw_getR fd_Mo_one lk_Mo_19 (by omega) rfl d_Mo_share_44 (hR _ _) ?_
    refine aw_iload d_Mo_share_47 rfl ?_
    refine aw_iald (n := oU μ i a) (by omega) rfl rfl (by omega) d_Mo_share_49 ?_
    refine aw_aload_n d_Mo_share_50 rfl rfl ?_
    refine aw_getR fd_Mo_two lk_Mo_22 (by omega) rfl d_Mo_share_51 (hR _ _) ?_
    refine aw_iload d_Mo_share_54 rfl ?_
    refine aw_iald (n := oU μ i b) (by omega) rfl rfl (by omega) d_Mo_share_56 ?_
    refine aw_icmp_eq (tgt := 104) d_Mo_share_57 rfl (fun h57 => ?_) (fun h57 => ?_)
    · refine aw_iconst d_Mo_share_104 (in_c rfl) ?_
      refine aw_goto (tgt := 109) d_Mo_share_105 rfl ?_
      exact aw_zret d_Mo_share_109 rfl rfl ⟨by first | (rw [show oH μ i a b = true from decide_eq_true (by omega)]; rfl) | (rw [show oH μ i a b = false from decide_eq_false (by omega)]; rfl), rfl, rfl⟩
    · refine aw_aload_n d_Mo_share_60 rfl rfl ?_
      refine aw_getR fd_Mo_two lk_Mo_22 (by omega) rfl d_Mo_share_61 (hR _ _) ?_
      refine aw_iload d_Mo_share_64 rfl ?_
      refine aw_iald (n := oU μ i a) (by omega) rfl rfl (by omega) d_Mo_share_66 ?_
      refine aw_if_lt (tgt := 108) d_Mo_share_67 rfl (fun h67 => ?_) (fun h67 => ?_)
      · refine aw_iconst d_Mo_share_108 (in_c rfl) ?_
        exact aw_zret d_Mo_share_109 rfl rfl ⟨by first | (rw [show oH μ i a b = true from decide_eq_true (by omega)]; rfl) | (rw [show oH μ i a b = false from decide_eq_false (by omega)]; rfl), rfl, rfl⟩
      · refine aw_aload_n d_Mo_share_70 rfl rfl ?_
        refine aw_getR fd_Mo_two lk_Mo_22 (by omega) rfl d_Mo_share_71 (hR _ _) ?_
        refine aw_iload d_Mo_share_74 rfl ?_
        refine aw_iald (n := oU μ i a) (by omega) rfl rfl (by omega) d_Mo_share_76 ?_
        refine aw_aload_n d_Mo_share_77 rfl rfl ?_
        refine aw_getR fd_Mo_one lk_Mo_19 (by omega) rfl d_Mo_share_78 (hR _ _) ?_
        refine aw_iload d_Mo_share_81 rfl ?_
        refine aw_iald (n := oU μ i b) (by omega) rfl rfl (by omega) d_Mo_share_83 ?_
        refine aw_icmp_eq (tgt := 104) d_Mo_share_84 rfl (fun h84 => ?_) (fun h84 => ?_)
        · refine aw_iconst d_Mo_share_104 (in_c rfl) ?_
          refine aw_goto (tgt := 109) d_Mo_share_105 rfl ?_
          exact aw_zret d_Mo_share_109 rfl rfl ⟨by first | (rw [show oH μ i a b = true from decide_eq_true (by omega)]; rfl) | (rw [show oH μ i a b = false from decide_eq_false (by omega)]; rfl), rfl, rfl⟩
        · refine aw_aload_n d_Mo_share_87 rfl rfl ?_
          refine aw_getR fd_Mo_two lk_Mo_22 (by omega) rfl d_Mo_share_88 (hR _ _) ?_
          refine aw_iload d_Mo_share_91 rfl ?_
          refine aw_iald (n := oU μ i a) (by omega) rfl rfl (by omega) d_Mo_share_93 ?_
          refine aw_aload_n d_Mo_share_94 rfl rfl ?_
          refine aw_getR fd_Mo_two lk_Mo_22 (by omega) rfl d_Mo_share_95 (hR _ _) ?_
          refine aw_iload d_Mo_share_98 rfl ?_
          refine aw_iald (n := oU μ i b) (by omega) rfl rfl (by omega) d_Mo_share_100 ?_
          refine aw_icmp_ne (tgt := 108) d_Mo_share_101 rfl (fun h101 => ?_) (fun h101 => ?_)
          · refine aw_iconst d_Mo_share_108 (in_c rfl) ?_
            exact aw_zret d_Mo_share_109 rfl rfl ⟨by first | (rw [show oH μ i a b = true from decide_eq_true (by omega)]; rfl) | (rw [show oH μ i a b = false from decide_eq_false (by omega)]; rfl), rfl, rfl⟩
          · refine aw_iconst d_Mo_share_104 (in_c rfl) ?_
            refine aw_goto (tgt := 109) d_Mo_share_105 rfl ?_
            exact aw_zret d_Mo_share_109 rfl rfl ⟨by first | (rw [show oH μ i a b = true from decide_eq_true (by omega)]; rfl) | (rw [show oH μ i a b = false from decide_eq_false (by omega)]; rfl), rfl, rfl⟩
set_option maxRecDepth 100000 in
theorem m_Mo_shows {d : Nat} (hd : 1 ≤ d) {i : Nat} (h4 : i < 4) {k : Nat} (hk : mI μ 78 i = (k : Int)) (h6 : k ≤ 6) {c v w : Nat} {q : Int} (hc : c < k) (hq0 : 0 ≤ q) (hq2 : q ≤ 2) (hv : v < 64) (hw : w < 64) (hse : ∀ j, j < 256 → 0 ≤ mI μ 83 j ∧ mI μ 83 j < 64) (hu : ∀ j, j < 6 → 0 ≤ mI μ 79 (6 * i + j) ∧ mI μ 79 (6 * i + j) < 8) (hR : ∀ k j, mR μ k j = R0 pg k j)  : AM G false d 0 0 y_Mo_shows [aP 67, aI (i : Int), aI (c : Int), aI q, aI (v : Int), aI (w : Int)] 94 μ (Qe (some (aI (bI (oW μ i k c q v w)))) 94 μ) := by
  refine am_of (n := 4) pf_Mo_shows (Nat.le_of_ble_eq_true rfl) (by intro v hv; simp only [List.mem_cons, List.not_mem_nil, or_false] at hv; rcases hv with rfl | rfl | rfl | rfl | rfl | rfl <;> first | trivial | assumption | exact in_c rfl | (show inR _; unfold inR; omega)) rfl ?_
  have hxw : v ^^^ w < 2 ^ 6 := Nat.xor_lt_two_pow (by omega) (by omega)
  have key : ∀ (m : Nat) (j : Nat) (o9 : Option aV), k - j = m → (j ≤ k ∧ oQ μ i c v w = true ∧ oB μ i v w < 64) → AW G false y_Mo_shows d 0 0 (Qe (some (aI (bI (oW μ i k c q v w)))) 94 μ) 143 [some (aP 67), some (aI (i : Int)), some (aI (c : Int)), some (aI q), some (aI (v : Int)), some (aI (w : Int)), some (aI ((oB μ i v w : Nat) : Int)), some (aI (bI (oG μ i c q v w && allB (oJ μ i c q v w) j))), some (aI (j : Int)), o9] [] 94 μ := by
    intro m
    induction m using Nat.strongRecOn with | _ m ih =>
    intro j o9 hm hj
    refine aw_iload d_Mo_shows_143 rfl ?_
    refine aw_aload_n d_Mo_shows_145 rfl rfl ?_
    refine aw_getR fd_Mo_many lk_Mo_41 (by omega) rfl d_Mo_shows_146 (hR _ _) ?_
    refine aw_iload_n d_Mo_shows_149 rfl rfl ?_
    refine aw_iald (n := i) (by omega) rfl rfl (by omega) d_Mo_shows_150 ?_
    refine aw_tv (v' := (k : Int)) hk ?_
    refine aw_icmp_ge (tgt := 233) d_Mo_shows_151 rfl (fun h151 => ?_) (fun h151 => ?_)
    · refine aw_iload d_Mo_shows_233 rfl ?_
      exact aw_zret d_Mo_shows_235 rfl (bI_nr _) ⟨by rw [show j = k by omega]; unfold oW; rw [hj.2.1, Bool.true_and], rfl, rfl⟩
    · refine aw_iload d_Mo_shows_154 rfl ?_
      refine aw_iload_n d_Mo_shows_156 rfl rfl ?_
      refine aw_icmp_eq (tgt := 194) d_Mo_shows_157 rfl (fun h157 => ?_) (fun h157 => ?_)
      · refine aw_iconst d_Mo_shows_194 (in_c rfl) ?_
        refine aw_istore (lst' := [_, _, _, _, _, _, _, _, _, _]) d_Mo_shows_195 (Nat.le_of_ble_eq_true rfl) rfl ?_
        refine aw_iload d_Mo_shows_197 rfl ?_
        refine aw_if_eq (tgt := 224) d_Mo_shows_199 rfl (fun h199 => ?_) (fun h199 => ?_)
        · replace h199 := bz h199
          refine aw_iconst d_Mo_shows_224 (in_c rfl) ?_
          refine aw_tv (v' := bI (oG μ i c q v w && allB (oJ μ i c q v w) (j + 1))) (by rw [allB, ← Bool.and_assoc, h199]; rfl) ?_
          refine aw_istore (lst' := [_, _, _, _, _, _, _, _, _, _]) d_Mo_shows_225 (Nat.le_of_ble_eq_true rfl) rfl ?_
          refine aw_iinc (lst' := [_, _, _, _, _, _, _, _, some (aI ((j + 1 : Nat) : Int)), _]) d_Mo_shows_227 (Nat.le_of_ble_eq_true rfl) rfl (by unfold inR; omega) rfl ?_
          refine aw_goto (tgt := 143) d_Mo_shows_230 rfl ?_
          exact ih (k - (j + 1)) (by omega) (j + 1) _ rfl ⟨by omega, hj.2⟩
        · replace h199 := bn h199
          refine aw_iload d_Mo_shows_202 rfl ?_
          refine aw_if_eq (tgt := 220) d_Mo_shows_204 rfl (fun h204 => ?_) (fun h204 => absurd (by omega) h204)
          refine aw_iconst d_Mo_shows_220 (in_c rfl) ?_
          refine aw_tv (v' := bI (oG μ i c q v w && allB (oJ μ i c q v w) (j + 1))) (by rw [allB, ← Bool.and_assoc, h199]; simp [-Nat.testBit_xor, oJ, bI, (show j = c from by omega)]) ?_
          refine aw_goto (tgt := 225) d_Mo_shows_221 rfl ?_
          refine aw_istore (lst' := [_, _, _, _, _, _, _, _, _, _]) d_Mo_shows_225 (Nat.le_of_ble_eq_true rfl) rfl ?_
          refine aw_iinc (lst' := [_, _, _, _, _, _, _, _, some (aI ((j + 1 : Nat) : Int)), _]) d_Mo_shows_227 (Nat.le_of_ble_eq_true rfl) rfl (by unfold inR; omega) rfl ?_
          refine aw_goto (tgt := 143) d_Mo_shows_230 rfl ?_
          exact ih (k - (j + 1)) (by omega) (j + 1) _ rfl ⟨by omega, hj.2⟩
      · refine aw_iload d_Mo_shows_160 rfl ?_
        refine aw_iload d_Mo_shows_162 rfl ?_
        refine aw_se (as := [_, _]) rfl cs_Mo_134 d_Mo_shows_164 (Nat.le_of_ble_eq_true rfl) (d' := d - 1) (by omega) (m_Mo_isIn (by omega) (by omega) (by omega)) ?_
        refine aw_if_eq (tgt := 194) d_Mo_shows_167 rfl (fun h167 => ?_) (fun h167 => ?_)
        · replace h167 := ite_z h167
          refine aw_iconst d_Mo_shows_194 (in_c rfl) ?_
          refine aw_istore (lst' := [_, _, _, _, _, _, _, _, _, _]) d_Mo_shows_195 (Nat.le_of_ble_eq_true rfl) rfl ?_
          refine aw_iload d_Mo_shows_197 rfl ?_
          refine aw_if_eq (tgt := 224) d_Mo_shows_199 rfl (fun h199 => ?_) (fun h199 => ?_)
          · replace h199 := bz h199
            refine aw_iconst d_Mo_shows_224 (in_c rfl) ?_
            refine aw_tv (v' := bI (oG μ i c q v w && allB (oJ μ i c q v w) (j + 1))) (by rw [allB, ← Bool.and_assoc, h199]; rfl) ?_
            refine aw_istore (lst' := [_, _, _, _, _, _, _, _, _, _]) d_Mo_shows_225 (Nat.le_of_ble_eq_true rfl) rfl ?_
            refine aw_iinc (lst' := [_, _, _, _, _, _, _, _, some (aI ((j + 1 : Nat) : Int)), _]) d_Mo_shows_227 (Nat.le_of_ble_eq_true rfl) rfl (by unfold inR; omega) rfl ?_
            refine aw_goto (tgt := 143) d_Mo_shows_230 rfl ?_
            exact ih (k - (j + 1)) (by omega) (j + 1) _ rfl ⟨by omega, hj.2⟩
          · replace h199 := bn h199
            refine aw_iload d_Mo_shows_202 rfl ?_
            refine aw_if_eq (tgt := 220) d_Mo_shows_204 rfl (fun h204 => ?_) (fun h204 => absurd (by omega) h204)
            refine aw_iconst d_Mo_shows_220 (in_c rfl) ?_
            refine aw_tv (v' := bI (oG μ i c q v w && allB (oJ μ i c q v w) (j + 1))) (by rw [allB, ← Bool.and_assoc, h199]; simp [-Nat.testBit_xor, oJ, bI, (show ¬ j = c from by omega), h167]) ?_
            refine aw_goto (tgt := 225) d_Mo_shows_221 rfl ?_
            refine aw_istore (lst' := [_, _, _, _, _, _, _, _, _, _]) d_Mo_shows_225 (Nat.le_of_ble_eq_true rfl) rfl ?_
            refine aw_iinc (lst' := [_, _, _, _, _, _, _, _, some (aI ((j + 1 : Nat) : Int)), _]) d_Mo_shows_227 (Nat.le_of_ble_eq_true rfl) rfl (by unfold inR; omega) rfl ?_
            refine aw_goto (tgt := 143) d_Mo_shows_230 rfl ?_
            exact ih (k - (j + 1)) (by omega) (j + 1) _ rfl ⟨by omega, hj.2⟩
        · replace h167 := ite_n h167
          refine aw_iload_n d_Mo_shows_170 rfl rfl ?_
          refine aw_if_eq (tgt := 190) d_Mo_shows_171 rfl (fun h171 => ?_) (fun h171 => ?_)
          · refine aw_iconst d_Mo_shows_190 (in_c rfl) ?_
            refine aw_goto (tgt := 195) d_Mo_shows_191 rfl ?_
            refine aw_istore (lst' := [_, _, _, _, _, _, _, _, _, _]) d_Mo_shows_195 (Nat.le_of_ble_eq_true rfl) rfl ?_
            refine aw_iload d_Mo_shows_197 rfl ?_
            refine aw_if_eq (tgt := 224) d_Mo_shows_199 rfl (fun h199 => ?_) (fun h199 => ?_)
            · replace h199 := bz h199
              refine aw_iconst d_Mo_shows_224 (in_c rfl) ?_
              refine aw_tv (v' := bI (oG μ i c q v w && allB (oJ μ i c q v w) (j + 1))) (by rw [allB, ← Bool.and_assoc, h199]; rfl) ?_
              refine aw_istore (lst' := [_, _, _, _, _, _, _, _, _, _]) d_Mo_shows_225 (Nat.le_of_ble_eq_true rfl) rfl ?_
              refine aw_iinc (lst' := [_, _, _, _, _, _, _, _, some (aI ((j + 1 : Nat) : Int)), _]) d_Mo_shows_227 (Nat.le_of_ble_eq_true rfl) rfl (by unfold inR; omega) rfl ?_
              refine aw_goto (tgt := 143) d_Mo_shows_230 rfl ?_
              exact ih (k - (j + 1)) (by omega) (j + 1) _ rfl ⟨by omega, hj.2⟩
            · replace h199 := bn h199
              refine aw_iload d_Mo_shows_202 rfl ?_
              refine aw_if_eq (tgt := 220) d_Mo_shows_204 rfl (fun h204 => absurd h204 (by omega)) (fun h204 => ?_)
              refine aw_iload d_Mo_shows_207 rfl ?_
              refine aw_iload d_Mo_shows_209 rfl ?_
              refine aw_ixor (a := v) (b := w) rfl rfl d_Mo_shows_211 ?_
              refine aw_iload d_Mo_shows_212 rfl ?_
              refine aw_se (as := [_, _]) rfl cs_Mo_134 d_Mo_shows_214 (Nat.le_of_ble_eq_true rfl) (d' := d - 1) (by omega) (m_Mo_isIn (by omega) (by omega) (by omega)) ?_
              refine aw_if_ne (tgt := 224) d_Mo_shows_217 rfl (fun h217 => ?_) (fun h217 => ?_)
              · replace h217 := ite_n h217
                refine aw_iconst d_Mo_shows_224 (in_c rfl) ?_
                refine aw_tv (v' := bI (oG μ i c q v w && allB (oJ μ i c q v w) (j + 1))) (by rw [allB, ← Bool.and_assoc, h199]; simp [-Nat.testBit_xor, oJ, bI, (show ¬ j = c from by omega), h167, h171, h217]) ?_
                refine aw_istore (lst' := [_, _, _, _, _, _, _, _, _, _]) d_Mo_shows_225 (Nat.le_of_ble_eq_true rfl) rfl ?_
                refine aw_iinc (lst' := [_, _, _, _, _, _, _, _, some (aI ((j + 1 : Nat) : Int)), _]) d_Mo_shows_227 (Nat.le_of_ble_eq_true rfl) rfl (by unfold inR; omega) rfl ?_
                refine aw_goto (tgt := 143) d_Mo_shows_230 rfl ?_
                exact ih (k - (j + 1)) (by omega) (j + 1) _ rfl ⟨by omega, hj.2⟩
              · replace h217 := ite_z h217
                refine aw_iconst d_Mo_shows_220 (in_c rfl) ?_
                refine aw_tv (v' := bI (oG μ i c q v w && allB (oJ μ i c q v w) (j + 1))) (by rw [allB, ← Bool.and_assoc, h199]; simp [-Nat.testBit_xor, oJ, bI, (show ¬ j = c from by omega), h167, h171, h217]) ?_
                refine aw_goto (tgt := 225) d_Mo_shows_221 rfl ?_
                refine aw_istore (lst' := [_, _, _, _, _, _, _, _, _, _]) d_Mo_shows_225 (Nat.le_of_ble_eq_true rfl) rfl ?_
                refine aw_iinc (lst' := [_, _, _, _, _, _, _, _, some (aI ((j + 1 : Nat) : Int)), _]) d_Mo_shows_227 (Nat.le_of_ble_eq_true rfl) rfl (by unfold inR; omega) rfl ?_
                refine aw_goto (tgt := 143) d_Mo_shows_230 rfl ?_
                exact ih (k - (j + 1)) (by omega) (j + 1) _ rfl ⟨by omega, hj.2⟩
          · refine aw_iload_n d_Mo_shows_174 rfl rfl ?_
            refine aw_iconst d_Mo_shows_175 (in_c rfl) ?_
            refine aw_icmp_ne (tgt := 194) d_Mo_shows_176 rfl (fun h176 => ?_) (fun h176 => ?_)
            · refine aw_iconst d_Mo_shows_194 (in_c rfl) ?_
              refine aw_istore (lst' := [_, _, _, _, _, _, _, _, _, _]) d_Mo_shows_195 (Nat.le_of_ble_eq_true rfl) rfl ?_
              refine aw_iload d_Mo_shows_197 rfl ?_
              refine aw_if_eq (tgt := 224) d_Mo_shows_199 rfl (fun h199 => ?_) (fun h199 => ?_)
              · replace h199 := bz h199
                refine aw_iconst d_Mo_shows_224 (in_c rfl) ?_
                refine aw_tv (v' := bI (oG μ i c q v w && allB (oJ μ i c q v w) (j + 1))) (by rw [allB, ← Bool.and_assoc, h199]; rfl) ?_
                refine aw_istore (lst' := [_, _, _, _, _, _, _, _, _, _]) d_Mo_shows_225 (Nat.le_of_ble_eq_true rfl) rfl ?_
                refine aw_iinc (lst' := [_, _, _, _, _, _, _, _, some (aI ((j + 1 : Nat) : Int)), _]) d_Mo_shows_227 (Nat.le_of_ble_eq_true rfl) rfl (by unfold inR; omega) rfl ?_
                refine aw_goto (tgt := 143) d_Mo_shows_230 rfl ?_
                exact ih (k - (j + 1)) (by omega) (j + 1) _ rfl ⟨by omega, hj.2⟩
              · replace h199 := bn h199
                refine aw_iload d_Mo_shows_202 rfl ?_
                refine aw_if_eq (tgt := 220) d_Mo_shows_204 rfl (fun h204 => ?_) (fun h204 => absurd (by omega) h204)
                refine aw_iconst d_Mo_shows_220 (in_c rfl) ?_
                refine aw_tv (v' := bI (oG μ i c q v w && allB (oJ μ i c q v w) (j + 1))) (by rw [allB, ← Bool.and_assoc, h199]; simp [-Nat.testBit_xor, oJ, bI, (show ¬ j = c from by omega), h167, h171, h176]) ?_
                refine aw_goto (tgt := 225) d_Mo_shows_221 rfl ?_
                refine aw_istore (lst' := [_, _, _, _, _, _, _, _, _, _]) d_Mo_shows_225 (Nat.le_of_ble_eq_true rfl) rfl ?_
                refine aw_iinc (lst' := [_, _, _, _, _, _, _, _, some (aI ((j + 1 : Nat) : Int)), _]) d_Mo_shows_227 (Nat.le_of_ble_eq_true rfl) rfl (by unfold inR; omega) rfl ?_
                refine aw_goto (tgt := 143) d_Mo_shows_230 rfl ?_
                exact ih (k - (j + 1)) (by omega) (j + 1) _ rfl ⟨by omega, hj.2⟩
            · refine aw_aload_n d_Mo_shows_179 rfl rfl ?_
              refine aw_iload_n d_Mo_shows_180 rfl rfl ?_
              refine aw_iload_n d_Mo_shows_181 rfl rfl ?_
              refine aw_iload d_Mo_shows_182 rfl ?_
              refine aw_ve (as := [_, _, _]) rfl cv_Mo_184 (by omega) rfl rfl d_Mo_shows_184 (Nat.le_of_ble_eq_true rfl) (d' := d - 1) (by omega) (m_Mo_share (by omega) h4 (by omega) (by omega) hu hR) ?_
              refine aw_if_ne (tgt := 194) d_Mo_shows_187 rfl (fun h187 => ?_) (fun h187 => ?_)
              · replace h187 := bn h187
                refine aw_iconst d_Mo_shows_194 (in_c rfl) ?_
                refine aw_istore (lst' := [_, _, _, _, _, _, _, _, _, _]) d_Mo_shows_195 (Nat.le_of_ble_eq_true rfl) rfl ?_
                refine aw_iload d_Mo_shows_197 rfl ?_
                refine aw_if_eq (tgt := 224) d_Mo_shows_199 rfl (fun h199 => ?_) (fun h199 => ?_)
                · replace h199 := bz h199
                  refine aw_iconst d_Mo_shows_224 (in_c rfl) ?_
                  refine aw_tv (v' := bI (oG μ i c q v w && allB (oJ μ i c q v w) (j + 1))) (by rw [allB, ← Bool.and_assoc, h199]; rfl) ?_
                  refine aw_istore (lst' := [_, _, _, _, _, _, _, _, _, _]) d_Mo_shows_225 (Nat.le_of_ble_eq_true rfl) rfl ?_
                  refine aw_iinc (lst' := [_, _, _, _, _, _, _, _, some (aI ((j + 1 : Nat) : Int)), _]) d_Mo_shows_227 (Nat.le_of_ble_eq_true rfl) rfl (by unfold inR; omega) rfl ?_
                  refine aw_goto (tgt := 143) d_Mo_shows_230 rfl ?_
                  exact ih (k - (j + 1)) (by omega) (j + 1) _ rfl ⟨by omega, hj.2⟩
                · replace h199 := bn h199
                  refine aw_iload d_Mo_shows_202 rfl ?_
                  refine aw_if_eq (tgt := 220) d_Mo_shows_204 rfl (fun h204 => ?_) (fun h204 => absurd (by omega) h204)
                  refine aw_iconst d_Mo_shows_220 (in_c rfl) ?_
                  refine aw_tv (v' := bI (oG μ i c q v w && allB (oJ μ i c q v w) (j + 1))) (by rw [allB, ← Bool.and_assoc, h199]; simp [-Nat.testBit_xor, oJ, bI, (show ¬ j = c from by omega), h167, h171, h176, h187]) ?_
                  refine aw_goto (tgt := 225) d_Mo_shows_221 rfl ?_
                  refine aw_istore (lst' := [_, _, _, _, _, _, _, _, _, _]) d_Mo_shows_225 (Nat.le_of_ble_eq_true rfl) rfl ?_
                  refine aw_iinc (lst' := [_, _, _, _, _, _, _, _, some (aI ((j + 1 : Nat) : Int)), _]) d_Mo_shows_227 (Nat.le_of_ble_eq_true rfl) rfl (by unfold inR; omega) rfl ?_
                  refine aw_goto (tgt := 143) d_Mo_shows_230 rfl ?_
                  exact ih (k - (j + 1)) (by omega) (j + 1) _ rfl ⟨by omega, hj.2⟩
              · replace h187 := bz h187
                refine aw_iconst d_Mo_shows_190 (in_c rfl) ?_
                refine aw_goto (tgt := 195) d_Mo_shows_191 rfl ?_
                refine aw_istore (lst' := [_, _, _, _, _, _, _, _, _, _]) d_Mo_shows_195 (Nat.le_of_ble_eq_true rfl) rfl ?_
                refine aw_iload d_Mo_shows_197 rfl ?_
                refine aw_if_eq (tgt := 224) d_Mo_shows_199 rfl (fun h199 => ?_) (fun h199 => ?_)
                · replace h199 := bz h199
                  refine aw_iconst d_Mo_shows_224 (in_c rfl) ?_
                  refine aw_tv (v' := bI (oG μ i c q v w && allB (oJ μ i c q v w) (j + 1))) (by rw [allB, ← Bool.and_assoc, h199]; rfl) ?_
                  refine aw_istore (lst' := [_, _, _, _, _, _, _, _, _, _]) d_Mo_shows_225 (Nat.le_of_ble_eq_true rfl) rfl ?_
                  refine aw_iinc (lst' := [_, _, _, _, _, _, _, _, some (aI ((j + 1 : Nat) : Int)), _]) d_Mo_shows_227 (Nat.le_of_ble_eq_true rfl) rfl (by unfold inR; omega) rfl ?_
                  refine aw_goto (tgt := 143) d_Mo_shows_230 rfl ?_
                  exact ih (k - (j + 1)) (by omega) (j + 1) _ rfl ⟨by omega, hj.2⟩
                · replace h199 := bn h199
                  refine aw_iload d_Mo_shows_202 rfl ?_
                  refine aw_if_eq (tgt := 220) d_Mo_shows_204 rfl (fun h204 => absurd h204 (by omega)) (fun h204 => ?_)
                  refine aw_iload d_Mo_shows_207 rfl ?_
                  refine aw_iload d_Mo_shows_209 rfl ?_
                  refine aw_ixor (a := v) (b := w) rfl rfl d_Mo_shows_211 ?_
                  refine aw_iload d_Mo_shows_212 rfl ?_
                  refine aw_se (as := [_, _]) rfl cs_Mo_134 d_Mo_shows_214 (Nat.le_of_ble_eq_true rfl) (d' := d - 1) (by omega) (m_Mo_isIn (by omega) (by omega) (by omega)) ?_
                  refine aw_if_ne (tgt := 224) d_Mo_shows_217 rfl (fun h217 => ?_) (fun h217 => ?_)
                  · replace h217 := ite_n h217
                    refine aw_iconst d_Mo_shows_224 (in_c rfl) ?_
                    refine aw_tv (v' := bI (oG μ i c q v w && allB (oJ μ i c q v w) (j + 1))) (by rw [allB, ← Bool.and_assoc, h199]; simp [-Nat.testBit_xor, oJ, bI, (show ¬ j = c from by omega), h167, h171, h176, h187, h217]) ?_
                    refine aw_istore (lst' := [_, _, _, _, _, _, _, _, _, _]) d_Mo_shows_225 (Nat.le_of_ble_eq_true rfl) rfl ?_
                    refine aw_iinc (lst' := [_, _, _, _, _, _, _, _, some (aI ((j + 1 : Nat) : Int)), _]) d_Mo_shows_227 (Nat.le_of_ble_eq_true rfl) rfl (by unfold inR; omega) rfl ?_
                    refine aw_goto (tgt := 143) d_Mo_shows_230 rfl ?_
                    exact ih (k - (j + 1)) (by omega) (j + 1) _ rfl ⟨by omega, hj.2⟩
                  · replace h217 := ite_z h217
                    refine aw_iconst d_Mo_shows_220 (in_c rfl) ?_
                    refine aw_tv (v' := bI (oG μ i c q v w && allB (oJ μ i c q v w) (j + 1))) (by rw [allB, ← Bool.and_assoc, h199]; simp [-Nat.testBit_xor, oJ, bI, (show ¬ j = c from by omega), h167, h171, h176, h187, h217]) ?_
                    refine aw_goto (tgt := 225) d_Mo_shows_221 rfl ?_
                    refine aw_istore (lst' := [_, _, _, _, _, _, _, _, _, _]) d_Mo_shows_225 (Nat.le_of_ble_eq_true rfl) rfl ?_
                    refine aw_iinc (lst' := [_, _, _, _, _, _, _, _, some (aI ((j + 1 : Nat) : Int)), _]) d_Mo_shows_227 (Nat.le_of_ble_eq_true rfl) rfl (by unfold inR; omega) rfl ?_
                    refine aw_goto (tgt := 143) d_Mo_shows_230 rfl ?_
                    exact ih (k - (j + 1)) (by omega) (j + 1) _ rfl ⟨by omega, hj.2⟩
  refine aw_aload_n d_Mo_shows_0 rfl rfl ?_
  refine aw_getR fd_Mo_sees lk_Mo_56 (by omega) rfl d_Mo_shows_1 (hR _ _) ?_
  refine aw_bipush (z := 64) d_Mo_shows_4 (in_c rfl) rfl ?_
  refine aw_iload_n d_Mo_shows_6 rfl rfl ?_
  refine aw_imul d_Mo_shows_7 (by unfold inR; omega) ?_
  refine aw_iload d_Mo_shows_8 rfl ?_
  refine aw_iadd d_Mo_shows_10 (by unfold inR; omega) ?_
  refine aw_iald (n := 64 * i + v) (by omega) rfl (by omega) (by omega) d_Mo_shows_11 ?_
  have hsv := hse (64 * i + v) (by omega)
  refine aw_tv (v' := ((oS μ i v : Nat) : Int)) (by unfold oS; omega) ?_
  refine aw_aload_n d_Mo_shows_12 rfl rfl ?_
  refine aw_getR fd_Mo_sees lk_Mo_56 (by omega) rfl d_Mo_shows_13 (hR _ _) ?_
  refine aw_bipush (z := 64) d_Mo_shows_16 (in_c rfl) rfl ?_
  refine aw_pc (pc' := 18) rfl ?_
  refine aw_iload_n d_Mo_shows_18 rfl rfl ?_
  refine aw_imul d_Mo_shows_19 (by unfold inR; omega) ?_
  refine aw_iload d_Mo_shows_20 rfl ?_
  refine aw_iadd d_Mo_shows_22 (by unfold inR; omega) ?_
  refine aw_iald (n := 64 * i + w) (by omega) rfl (by omega) (by omega) d_Mo_shows_23 ?_
  have hsw := hse (64 * i + w) (by omega)
  refine aw_tv (v' := ((oS μ i w : Nat) : Int)) (by unfold oS; omega) ?_
  refine aw_iand (a := oS μ i v) (b := oS μ i w) rfl rfl d_Mo_shows_24 ?_
  have hbl : oB μ i v w < 64 := by
    have h9 : oS μ i v &&& oS μ i w ≤ oS μ i v := Nat.and_le_left
    have h8 : oS μ i v < 64 := by unfold oS; omega
    unfold oB; omega
  refine aw_tv (v' := ((oB μ i v w : Nat) : Int)) rfl ?_
  refine aw_istore (lst' := [_, _, _, _, _, _, _, _, _, _]) d_Mo_shows_25 (Nat.le_of_ble_eq_true rfl) rfl ?_
  refine aw_aload_n d_Mo_shows_27 rfl rfl ?_
  refine aw_getR fd_Mo_can lk_Mo_47 (by omega) rfl d_Mo_shows_28 (hR _ _) ?_
  refine aw_bipush (z := 64) d_Mo_shows_31 (in_c rfl) rfl ?_
  refine aw_iload_n d_Mo_shows_33 rfl rfl ?_
  refine aw_imul d_Mo_shows_34 (by unfold inR; omega) ?_
  refine aw_pc (pc' := 35) rfl ?_
  refine aw_iload d_Mo_shows_35 rfl ?_
  refine aw_iadd d_Mo_shows_37 (by unfold inR; omega) ?_
  refine aw_zald (n := 64 * i + v) (by omega) rfl (by omega) (by omega) d_Mo_shows_38 ?_
  refine aw_if_eq (tgt := 105) d_Mo_shows_39 rfl (fun h39 => ?_) (fun h39 => ?_)
  · refine aw_iconst d_Mo_shows_105 (in_c rfl) ?_
    exact aw_zret d_Mo_shows_106 rfl rfl ⟨by rw [show oW μ i k c q v w = false from by simp [-Nat.testBit_xor, oW, oQ, oK, h39]]; rfl, rfl, rfl⟩
  · refine aw_aload_n d_Mo_shows_42 rfl rfl ?_
    refine aw_getR fd_Mo_can lk_Mo_47 (by omega) rfl d_Mo_shows_43 (hR _ _) ?_
    refine aw_bipush (z := 64) d_Mo_shows_46 (in_c rfl) rfl ?_
    refine aw_iload_n d_Mo_shows_48 rfl rfl ?_
    refine aw_imul d_Mo_shows_49 (by unfold inR; omega) ?_
    refine aw_iload d_Mo_shows_50 rfl ?_
    refine aw_iadd d_Mo_shows_52 (by unfold inR; omega) ?_
    refine aw_zald (n := 64 * i + w) (by omega) rfl (by omega) (by omega) d_Mo_shows_53 ?_
    refine aw_if_eq (tgt := 105) d_Mo_shows_54 rfl (fun h54 => ?_) (fun h54 => ?_)
    · refine aw_iconst d_Mo_shows_105 (in_c rfl) ?_
      exact aw_zret d_Mo_shows_106 rfl rfl ⟨by rw [show oW μ i k c q v w = false from by simp [-Nat.testBit_xor, oW, oQ, oK, h39, h54]]; rfl, rfl, rfl⟩
    · refine aw_iload d_Mo_shows_57 rfl ?_
      refine aw_iload_n d_Mo_shows_59 rfl rfl ?_
      refine aw_se (as := [_, _]) rfl cs_Mo_134 d_Mo_shows_60 (Nat.le_of_ble_eq_true rfl) (d' := d - 1) (by omega) (m_Mo_isIn (by omega) (by omega) (by omega)) ?_
      refine aw_if_eq (tgt := 105) d_Mo_shows_63 rfl (fun h63 => ?_) (fun h63 => ?_)
      · replace h63 := ite_z h63
        refine aw_iconst d_Mo_shows_105 (in_c rfl) ?_
        exact aw_zret d_Mo_shows_106 rfl rfl ⟨by rw [show oW μ i k c q v w = false from by simp [-Nat.testBit_xor, oW, oQ, oK, h39, h54, h63]]; rfl, rfl, rfl⟩
      · replace h63 := ite_n h63
        refine aw_iload d_Mo_shows_66 rfl ?_
        refine aw_iload d_Mo_shows_68 rfl ?_
        refine aw_ixor (a := v) (b := w) rfl rfl d_Mo_shows_70 ?_
        refine aw_iload_n d_Mo_shows_71 rfl rfl ?_
        refine aw_se (as := [_, _]) rfl cs_Mo_134 d_Mo_shows_72 (Nat.le_of_ble_eq_true rfl) (d' := d - 1) (by omega) (m_Mo_isIn (by omega) (by omega) (by omega)) ?_
        refine aw_if_eq (tgt := 105) d_Mo_shows_75 rfl (fun h75 => ?_) (fun h75 => ?_)
        · replace h75 := ite_z h75
          refine aw_iconst d_Mo_shows_105 (in_c rfl) ?_
          exact aw_zret d_Mo_shows_106 rfl rfl ⟨by rw [show oW μ i k c q v w = false from by simp [-Nat.testBit_xor, oW, oQ, oK, h39, h54, h63, h75]]; rfl, rfl, rfl⟩
        · replace h75 := ite_n h75
          refine aw_aload_n d_Mo_shows_78 rfl rfl ?_
          refine aw_getR fd_Mo_comes lk_Mo_53 (by omega) rfl d_Mo_shows_79 (hR _ _) ?_
          refine aw_bipush (z := 64) d_Mo_shows_82 (in_c rfl) rfl ?_
          refine aw_iload_n d_Mo_shows_84 rfl rfl ?_
          refine aw_imul d_Mo_shows_85 (by unfold inR; omega) ?_
          refine aw_iload d_Mo_shows_86 rfl ?_
          refine aw_iadd d_Mo_shows_88 (by unfold inR; omega) ?_
          refine aw_zald (n := 64 * i + v) (by omega) rfl (by omega) (by omega) d_Mo_shows_89 ?_
          refine aw_tv (v' := oC μ i v) rfl ?_
          refine aw_aload_n d_Mo_shows_90 rfl rfl ?_
          refine aw_getR fd_Mo_comes lk_Mo_53 (by omega) rfl d_Mo_shows_91 (hR _ _) ?_
          refine aw_bipush (z := 64) d_Mo_shows_94 (in_c rfl) rfl ?_
          refine aw_pc (pc' := 96) rfl ?_
          refine aw_iload_n d_Mo_shows_96 rfl rfl ?_
          refine aw_imul d_Mo_shows_97 (by unfold inR; omega) ?_
          refine aw_iload d_Mo_shows_98 rfl ?_
          refine aw_iadd d_Mo_shows_100 (by unfold inR; omega) ?_
          refine aw_zald (n := 64 * i + w) (by omega) rfl (by omega) (by omega) d_Mo_shows_101 ?_
          refine aw_tv (v' := oC μ i w) rfl ?_
          refine aw_icmp_ne (tgt := 107) d_Mo_shows_102 rfl (fun h102 => ?_) (fun h102 => ?_)
          · refine aw_iload_n d_Mo_shows_107 rfl rfl ?_
            refine aw_if_eq (tgt := 133) d_Mo_shows_108 rfl (fun h108 => ?_) (fun h108 => ?_)
            · refine aw_iconst d_Mo_shows_133 (in_c rfl) ?_
              refine aw_tv (v' := bI (oG μ i c q v w && allB (oJ μ i c q v w) 0)) (by simp [oG, allB, bI, h108]) ?_
              refine aw_goto (tgt := 138) d_Mo_shows_134 rfl ?_
              refine aw_istore (lst' := [_, _, _, _, _, _, _, _, _, _]) d_Mo_shows_138 (Nat.le_of_ble_eq_true rfl) rfl ?_
              refine aw_iconst d_Mo_shows_140 (in_c rfl) ?_
              refine aw_istore (lst' := [_, _, _, _, _, _, _, _, _, _]) d_Mo_shows_141 (Nat.le_of_ble_eq_true rfl) rfl ?_
              exact key (k - 0) 0 none rfl ⟨Nat.zero_le _, by simp [-Nat.testBit_xor, oQ, oK, h39, h54, h63, h75, h102], hbl⟩
            · refine aw_aload_n d_Mo_shows_111 rfl rfl ?_
              refine aw_iload_n d_Mo_shows_112 rfl rfl ?_
              refine aw_iload d_Mo_shows_113 rfl ?_
              refine aw_iload_n d_Mo_shows_115 rfl rfl ?_
              refine aw_ve (as := [_, _, _]) rfl cv_Mo_180 (by omega) rfl rfl d_Mo_shows_116 (Nat.le_of_ble_eq_true rfl) (d' := d - 1) (by omega) (m_Mo_isTurned (by omega) h4 (by omega) (by omega) hR) ?_
              refine aw_if_eq (tgt := 137) d_Mo_shows_119 rfl (fun h119 => ?_) (fun h119 => ?_)
              · replace h119 := bz h119
                refine aw_iconst d_Mo_shows_137 (in_c rfl) ?_
                refine aw_tv (v' := bI (oG μ i c q v w && allB (oJ μ i c q v w) 0)) (by simp [oG, allB, bI, h108, h119]) ?_
                refine aw_istore (lst' := [_, _, _, _, _, _, _, _, _, _]) d_Mo_shows_138 (Nat.le_of_ble_eq_true rfl) rfl ?_
                refine aw_iconst d_Mo_shows_140 (in_c rfl) ?_
                refine aw_istore (lst' := [_, _, _, _, _, _, _, _, _, _]) d_Mo_shows_141 (Nat.le_of_ble_eq_true rfl) rfl ?_
                exact key (k - 0) 0 none rfl ⟨Nat.zero_le _, by simp [-Nat.testBit_xor, oQ, oK, h39, h54, h63, h75, h102], hbl⟩
              · replace h119 := bn h119
                refine aw_aload_n d_Mo_shows_122 rfl rfl ?_
                refine aw_iload_n d_Mo_shows_123 rfl rfl ?_
                refine aw_iload d_Mo_shows_124 rfl ?_
                refine aw_iload_n d_Mo_shows_126 rfl rfl ?_
                refine aw_ve (as := [_, _, _]) rfl cv_Mo_180 (by omega) rfl rfl d_Mo_shows_127 (Nat.le_of_ble_eq_true rfl) (d' := d - 1) (by omega) (m_Mo_isTurned (by omega) h4 (by omega) (by omega) hR) ?_
                refine aw_if_eq (tgt := 137) d_Mo_shows_130 rfl (fun h130 => ?_) (fun h130 => ?_)
                · replace h130 := bz h130
                  refine aw_iconst d_Mo_shows_137 (in_c rfl) ?_
                  refine aw_tv (v' := bI (oG μ i c q v w && allB (oJ μ i c q v w) 0)) (by simp [oG, allB, bI, h108, h119, h130]) ?_
                  refine aw_istore (lst' := [_, _, _, _, _, _, _, _, _, _]) d_Mo_shows_138 (Nat.le_of_ble_eq_true rfl) rfl ?_
                  refine aw_iconst d_Mo_shows_140 (in_c rfl) ?_
                  refine aw_istore (lst' := [_, _, _, _, _, _, _, _, _, _]) d_Mo_shows_141 (Nat.le_of_ble_eq_true rfl) rfl ?_
                  exact key (k - 0) 0 none rfl ⟨Nat.zero_le _, by simp [-Nat.testBit_xor, oQ, oK, h39, h54, h63, h75, h102], hbl⟩
                · replace h130 := bn h130
                  refine aw_iconst d_Mo_shows_133 (in_c rfl) ?_
                  refine aw_tv (v' := bI (oG μ i c q v w && allB (oJ μ i c q v w) 0)) (by simp [oG, allB, bI, h108, h119, h130]) ?_
                  refine aw_goto (tgt := 138) d_Mo_shows_134 rfl ?_
                  refine aw_istore (lst' := [_, _, _, _, _, _, _, _, _, _]) d_Mo_shows_138 (Nat.le_of_ble_eq_true rfl) rfl ?_
                  refine aw_iconst d_Mo_shows_140 (in_c rfl) ?_
                  refine aw_istore (lst' := [_, _, _, _, _, _, _, _, _, _]) d_Mo_shows_141 (Nat.le_of_ble_eq_true rfl) rfl ?_
                  exact key (k - 0) 0 none rfl ⟨Nat.zero_le _, by simp [-Nat.testBit_xor, oQ, oK, h39, h54, h63, h75, h102], hbl⟩
          · refine aw_iconst d_Mo_shows_105 (in_c rfl) ?_
            exact aw_zret d_Mo_shows_106 rfl rfl ⟨by rw [show oW μ i k c q v w = false from by simp [-Nat.testBit_xor, oW, oQ, oK, h39, h54, h63, h75, h102]]; rfl, rfl, rfl⟩
end
