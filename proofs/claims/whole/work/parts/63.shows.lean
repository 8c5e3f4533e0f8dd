/-! the reference: shows -/
section
def bI (b : Bool) : Int := if b then 1 else 0
theorem bz {b : Bool} (h : bI b = 0) : b = false := by cases b with | true => exact absurd h (by decide) | false => rfl
theorem bn {b : Bool} (h : ¬ bI b = 0) : b = true := by cases b with | true => rfl | false => exact absurd rfl h
theorem bI_01 (b : Bool) : bI b = 0 ∨ bI b = 1 := by cases b with | true => exact Or.inr rfl | false => exact Or.inl rfl
theorem bI_in (b : Bool) : inR (bI b) := by cases b with | true => exact in_c rfl | false => exact in_c rfl
theorem bI_nr (b : Bool) : narrow .boolean (.int (Int32.ofInt (bI b))) = .int (Int32.ofInt (bI b)) := by cases b with | true => rfl | false => rfl
def allB (f : Nat → Bool) : Nat → Bool
  | 0 => true
  | n + 1 => allB f n && f n
/-- what the reference's arrays say of decision i -/
def oC (μ : aM) (i w : Nat) : Int := mI μ 82 (64 * i + w)
def oK (μ : aM) (i w : Nat) : Bool := decide (¬ mI μ 80 (64 * i + w) = 0)
def oS (μ : aM) (i w : Nat) : Nat := (mI μ 83 (64 * i + w)).toNat
def oU (μ : aM) (i j : Nat) : Nat := (mI μ 79 (6 * i + j)).toNat
def oT (μ : aM) (i w c : Nat) : Bool := decide (¬ oC μ i w = oC μ i (w ^^^ 2 ^ c))
def oH (μ : aM) (i a b : Nat) : Bool := decide (mI μ 71 (oU μ i a) = mI μ 71 (oU μ i b) ∨ mI μ 71 (oU μ i a) = mI μ 72 (oU μ i b) ∨ (0 ≤ mI μ 72 (oU μ i a) ∧ (mI μ 72 (oU μ i a) = mI μ 71 (oU μ i b) ∨ mI μ 72 (oU μ i a) = mI μ 72 (oU μ i b))))
variable {G : aG} {pg : Nat} {μ : aM}
set_option maxRecDepth 100000 in
theorem m_Mo_isTurned {d : Nat} (hd : 0 ≤ d) {i : Nat} (h4 : i < 4) {w c : Nat} (hw : w < 64) (hc : c < 6) (hR : ∀ k j, mR μ k j = R0 pg k j)  : AM G false d 0 0 y_Mo_isTurned [aP 67, aI (i : Int), aI (w : Int), aI (c : Int)] 94 μ (Qe (some (aI (bI (oT μ i w c)))) 94 μ) := by
  refine am_of (n := 0) pf_Mo_isTurned (Nat.le_of_ble_eq_true rfl) (by intro v hv; simp only [List.mem_cons, List.not_mem_nil, or_false] at hv; rcases hv with rfl | rfl | rfl | rfl <;> first | trivial | assumption | exact in_c rfl | (show inR _; unfold inR; omega)) rfl ?_
  have hpc : 2 ^ c ≤ 32 := Nat.pow_le_pow_right (n := 2) (by omega) (show c ≤ 5 by omega)
  have hxw : w ^^^ 2 ^ c < 2 ^ 6 := Nat.xor_lt_two_pow (by omega) (by omega)
  refine aw_aload_n d_Mo_isTurned_0 rfl rfl ?_
  refine aw_getR fd_Mo_comes lk_Mo_53 (by omega) rfl d_Mo_isTurned_1 (hR _ _) ?_
  refine aw_bipush (z := 64) d_Mo_isTurned_4 (in_c rfl) rfl ?_
  refine aw_iload_n d_Mo_isTurned_6 rfl rfl ?_
  refine aw_imul d_Mo_isTurned_7 (by unfold inR; omega) ?_
  refine aw_iload_n d_Mo_isTurned_8 rfl rfl ?_
  refine aw_iadd d_Mo_isTurned_9 (by unfold inR; omega) ?_
  refine aw_zald (n := 64 * i + w) (by omega) rfl (by omega) (by omega) d_Mo_isTurned_10 ?_
  refine aw_aload_n d_Mo_isTurned_11 rfl rfl ?_
  refine aw_getR fd_Mo_comes lk_Mo_53 (by omega) rfl d_Mo_isTurned_12 (hR _ _) ?_
  refine aw_bipush (z := 64) d_Mo_isTurned_15 (in_c rfl) rfl ?_
  refine aw_pc (pc' := 17) rfl ?_
  refine aw_iload_n d_Mo_isTurned_17 rfl rfl ?_
  refine aw_imul d_Mo_isTurned_18 (by unfold inR; omega) ?_
  refine aw_iload_n d_Mo_isTurned_19 rfl rfl ?_
  refine aw_iconst d_Mo_isTurned_20 (in_c rfl) ?_
  refine aw_iload_n d_Mo_isTurned_21 rfl rfl ?_
  refine aw_ishl (a := 1) (k0 := c) rfl rfl (by omega) (by omega) d_Mo_isTurned_22 ?_
  refine aw_tv (v' := ((2 ^ c : Nat) : Int)) (by rw [Nat.one_mul]) ?_
  refine aw_ixor (a := w) (b := 2 ^ c) rfl rfl d_Mo_isTurned_23 ?_
  refine aw_iadd d_Mo_isTurned_24 (by unfold inR; omega) ?_
  refine aw_zald (n := 64 * i + (w ^^^ 2 ^ c)) (by omega) rfl (by omega) (by omega) d_Mo_isTurned_25 ?_
  refine aw_icmp_eq (tgt := 33) d_Mo_isTurned_26 rfl (fun h26 => ?_) (fun h26 => ?_)
  · refine aw_iconst d_Mo_isTurned_33 (in_c rfl) ?_
    exact aw_zret d_Mo_isTurned_34 rfl rfl ⟨by rw [show oT μ i w c = false from decide_eq_false (fun q => q h26)]; rfl, rfl, rfl⟩
  · refine aw_iconst d_Mo_isTurned_29 (in_c rfl) ?_
    refine aw_goto (tgt := 34) d_Mo_isTurned_30 rfl ?_
    exact aw_zret d_Mo_isTurned_34 rfl rfl ⟨by rw [show oT μ i w c = true from decide_eq_true h26]; rfl, rfl, rfl⟩
set_option maxRecDepth 100000 in
theorem m_Mo_share {d : Nat} (hd : 0 ≤ d) {i : Nat} (h4 : i < 4) {a b : Nat} (ha : a < 6) (hb : b < 6) (hu : ∀ j, j < 6 → 0 ≤ mI μ 79 (6 * i + j) ∧ mI μ 79 (6 * i + j) < 8) (hR : ∀ k j, mR μ k j = R0 pg k j)  : AM G false d 0 0 y_Mo_share [aP 67, aI (i : Int), aI (a : Int), aI (b : Int)] 94 μ (Qe (some (aI (bI (oH μ i a b)))) 94 μ) := by
  refine am_of (n := 2) pf_Mo_share (Nat.le_of_ble_eq_true rfl) (by intro v hv; simp only [List.mem_cons, List.not_mem_nil, or_false] at hv; rcases hv with rfl | rfl | rfl | rfl <;> first | trivial | assumption | exact in_c rfl | (show inR _; unfold inR; omega)) rfl ?_
  have hua := hu a ha
  have hub := hu b hb
  have hA : oU μ i a < 8 := by unfold oU; omega
  have hB : oU μ i b < 8 := by unfold oU; omega
  refine aw_aload_n d_Mo_share_0 rfl rfl ?_
  refine aw_getR fd_Mo_uses lk_Mo_44 (by omega) rfl d_Mo_share_1 (hR _ _) ?_
  refine aw_bipush (z := 6) d_Mo_share_4 (in_c rfl) rfl ?_
  refine aw_iload_n d_Mo_share_6 rfl rfl ?_
  refine aw_imul d_Mo_share_7 (by unfold inR; omega) ?_
  refine aw_iload_n d_Mo_share_8 rfl rfl ?_
  refine aw_iadd d_Mo_share_9 (by unfold inR; omega) ?_
  refine aw_iald (n := 6 * i + a) (by omega) rfl (by omega) (by omega) d_Mo_share_10 ?_
  refine aw_tv (v' := ((oU μ i a : Nat) : Int)) (by unfold oU; omega) ?_
  refine aw_istore (lst' := [_, _, _, _, _, _]) d_Mo_share_11 (Nat.le_of_ble_eq_true rfl) rfl ?_
  refine aw_aload_n d_Mo_share_13 rfl rfl ?_
  refine aw_getR fd_Mo_uses lk_Mo_44 (by omega) rfl d_Mo_share_14 (hR _ _) ?_
  refine aw_pc (pc' := 17) rfl ?_
  refine aw_bipush (z := 6) d_Mo_share_17 (in_c rfl) rfl ?_
  refine aw_iload_n d_Mo_share_19 rfl rfl ?_
  refine aw_imul d_Mo_share_20 (by unfold inR; omega) ?_
  refine aw_iload_n d_Mo_share_21 rfl rfl ?_
  refine aw_iadd d_Mo_share_22 (by unfold inR; omega) ?_
  refine aw_iald (n := 6 * i + b) (by omega) rfl (by omega) (by omega) d_Mo_share_23 ?_
  refine aw_tv (v' := ((oU μ i b : Nat) : Int)) (by unfold oU; omega) ?_
  refine aw_istore (lst' := [_, _, _, _, _, _]) d_Mo_share_24 (Nat.le_of_ble_eq_true rfl) rfl ?_
  refine aw_aload_n d_Mo_share_26 rfl rfl ?_
  refine aw_getR fd_Mo_one lk_Mo_19 (by omega) rfl d_Mo_share_27 (hR _ _) ?_
  refine aw_iload d_Mo_share_30 rfl ?_
  refine aw_iald (n := oU μ i a) (by omega) rfl rfl (by omega) d_Mo_share_32 ?_
  refine aw_aload_n d_Mo_share_33 rfl rfl ?_
  refine aw_pc (pc' := 34) rfl ?_
  refine aw_getR fd_Mo_one lk_Mo_19 (by omega) rfl d_Mo_share_34 (hR _ _) ?_
  refine aw_iload d_Mo_share_37 rfl ?_
  refine aw_iald (n := oU μ i b) (by omega) rfl rfl (by omega) d_Mo_share_39 ?_
  refine aw_icmp_eq (tgt := 104) d_Mo_share_40 rfl (fun h40 => ?_) (fun h40 => ?_)
  · refine aw_iconst d_Mo_share_104 (in_c rfl) ?_
    refine aw_goto (tgt := 109) d_Mo_share_105 rfl ?_
    exact aw_zret d_Mo_share_109 rfl rfl ⟨by first | (rw [show oH μ i a b = true from decide_eq_true (by omega)]; rfl) | (rw [show oH μ i a b = false from decide_eq_false (by omega)]; rfl), rfl, rfl⟩
  · refine aw_aload_n d_Mo_share_43 rfl rfl ?_
    refine aw_getR fd_Mo_one lk_Mo_19 (by omega) rfl d_Mo_share_44 (hR _ _) ?_
    refine aw_iload d_Mo_share_47 rfl ?_
    refine aw_iald (n := oU μ i a) (by omega) rfl rfl (by omega) d_Mo_share_49 ?_
    refine aw_aload_n d_Mo_share_50 rfl rfl ?_
    refine aw_getR fd_Mo_two lk_Mo_22 (by omega) rfl d_Mo_share_51 (hR _ _) ?_
    refine aw_iload d_Mo_share_54 rfl ?_
    refine aw_iald (n := oU μ i b) (by omega) rfl rfl (by omega) d_Mo_share_56 ?_
    refine aw_icmp_eq (tgt := 104) d_Mo_share_57 rfl (fun h57 => ?_) (fun h57 => ?_)
    · refine aw_iconst d_Mo_share_104 (in_c rfl) ?_
      refine aw_goto (tgt := 109) d_Mo_share_105 rfl ?_
      exact aw_zret d_Mo_share_109 rfl rfl ⟨by first | (rw [show oH μ i a b = true from decide_eq_true (by omega)]; rfl) | (rw [show oH μ i a b = false from decide_eq_false (by omega)]; rfl), rfl, rfl⟩
    · refine aw_aload_n d_Mo_share_60 rfl rfl ?_
      refine aw_getR fd_Mo_two lk_Mo_22 (by omega) rfl d_Mo_share_61 (hR _ _) ?_
      refine aw_iload d_Mo_share_64 rfl ?_
      refine aw_iald (n := oU μ i a) (by omega) rfl rfl (by omega) d_Mo_share_66 ?_
      refine aw_if_lt (tgt := 108) d_Mo_share_67 rfl (fun h67 => ?_) (fun h67 => ?_)
      · refine aw_iconst d_Mo_share_108 (in_c rfl) ?_
        exact aw_zret d_Mo_share_109 rfl rfl ⟨by first | (rw [show oH μ i a b = true from decide_eq_true (by omega)]; rfl) | (rw [show oH μ i a b = false from decide_eq_false (by omega)]; rfl), rfl, rfl⟩
      · refine aw_aload_n d_Mo_share_70 rfl rfl ?_
        refine aw_getR fd_Mo_two lk_Mo_22 (by omega) rfl d_Mo_share_71 (hR _ _) ?_
        refine aw_iload d_Mo_share_74 rfl ?_
        refine aw_iald (n := oU μ i a) (by omega) rfl rfl (by omega) d_Mo_share_76 ?_
        refine aw_aload_n d_Mo_share_77 rfl rfl ?_
        refine aw_getR fd_Mo_one lk_Mo_19 (by omega) rfl d_Mo_share_78 (hR _ _) ?_
        refine aw_iload d_Mo_share_81 rfl ?_
        refine aw_iald (n := oU μ i b) (by omega) rfl rfl (by omega) d_Mo_share_83 ?_
        refine aw_icmp_eq (tgt := 104) d_Mo_share_84 rfl (fun h84 => ?_) (fun h84 => ?_)
        · refine aw_iconst d_Mo_share_104 (in_c rfl) ?_
          refine aw_goto (tgt := 109) d_Mo_share_105 rfl ?_
          exact aw_zret d_Mo_share_109 rfl rfl ⟨by first | (rw [show oH μ i a b = true from decide_eq_true (by omega)]; rfl) | (rw [show oH μ i a b = false from decide_eq_false (by omega)]; rfl), rfl, rfl⟩
        · refine aw_aload_n d_Mo_share_87 rfl rfl ?_
          refine aw_getR fd_Mo_two lk_Mo_22 (by omega) rfl d_Mo_share_88 (hR _ _) ?_
          refine aw_iload d_Mo_share_91 rfl ?_
          refine aw_iald (n := oU μ i a) (by omega) rfl rfl (by omega) d_Mo_share_93 ?_
          refine aw_aload_n d_Mo_share_94 rfl rfl ?_
          refine aw_getR fd_Mo_two lk_Mo_22 (by omega) rfl d_Mo_share_95 (hR _ _) ?_
          refine aw_iload d_Mo_share_98 rfl ?_
          refine aw_iald (n := oU μ i b) (by omega) rfl rfl (by omega) d_Mo_share_100 ?_
          refine aw_icmp_ne (tgt := 108) d_Mo_share_101 rfl (fun h101 => ?_) (fun h101 => ?_)
          · refine aw_iconst d_Mo_share_108 (in_c rfl) ?_
            exact aw_zret d_Mo_share_109 rfl rfl ⟨by first | (rw [show oH μ i a b = true from decide_eq_true (by omega)]; rfl) | (rw [show oH μ i a b = false from decide_eq_false (by omega)]; rfl), rfl, rfl⟩
          · refine aw_iconst d_Mo_share_104 (in_c rfl) ?_
            refine aw_goto (tgt := 109) d_Mo_share_105 rfl ?_
            exact aw_zret d_Mo_share_109 rfl rfl ⟨by first | (rw [show oH μ i a b = true from decide_eq_true (by omega)]; rfl) | (rw [show oH μ i a b = false from decide_eq_false (by omega)]; rfl), rfl, rfl⟩
end
