/-! the reference: a decision that there is -/
section
variable {G : aG} {pg : Nat} {μ : aM}
set_option maxRecDepth 100000 in
theorem m_Mo_isIn {d : Nat} (hd : 0 ≤ d) {s k : Nat} (hs : s < 2147483648) (hk : k < 31) : AM G false d 0 0 y_Mo_isIn [aI (s : Int), aI (k : Int)] 94 μ (Qe (some (aI (if s.testBit k then 1 else 0))) 94 μ) := by
  refine am_of (n := 0) pf_Mo_isIn (Nat.le_of_ble_eq_true rfl) (by intro v hv; simp only [List.mem_cons, List.not_mem_nil, or_false] at hv; rcases hv with rfl | rfl <;> first | trivial | assumption | exact in_c rfl | (show inR _; unfold inR; omega)) rfl ?_
  refine aw_iload_n d_Mo_isIn_0 rfl rfl ?_
  refine aw_iload_n d_Mo_isIn_1 rfl rfl ?_
  refine aw_ishr (a := s) (k0 := k) rfl rfl (by omega) d_Mo_isIn_2 ?_
  refine aw_iconst d_Mo_isIn_3 (in_c rfl) ?_
  refine aw_imask (k0 := 1) rfl (by omega) d_Mo_isIn_4 ?_
  refine aw_tv (v' := ((s / 2 ^ k % 2 : Nat) : Int)) (by omega) ?_
  refine aw_iconst d_Mo_isIn_5 (in_c rfl) ?_
  refine aw_icmp_ne (tgt := 13) d_Mo_isIn_6 rfl (fun h6 => ?_) (fun h6 => ?_)
  · refine aw_iconst d_Mo_isIn_13 (in_c rfl) ?_
    exact aw_zret d_Mo_isIn_14 rfl rfl ⟨by rw [if_neg (by rw [Nat.testBit_eq_decide_div_mod_eq]; simp only [decide_eq_true_eq]; omega)], rfl, rfl⟩
  · refine aw_iconst d_Mo_isIn_9 (in_c rfl) ?_
    refine aw_goto (tgt := 14) d_Mo_isIn_10 rfl ?_
    exact aw_zret d_Mo_isIn_14 rfl rfl ⟨by rw [if_pos (by rw [Nat.testBit_eq_decide_div_mod_eq]; simp only [decide_eq_true_eq]; omega)], rfl, rfl⟩
set_option maxRecDepth 100000 in
theorem g_Mo_isDecision {d : Nat} (hd : 0 ≤ d) {i : Nat} (hi : (i : Int) < mI μ 67 11) (h4 : mI μ 67 11 ≤ 4)  : AM G false d 0 0 y_Mo_isDecision [aP 67, aI (i : Int)] 94 μ (Qe (some (aI 1)) 94 μ) := by
  refine am_of (n := 0) pf_Mo_isDecision (Nat.le_of_ble_eq_true rfl) (by intro v hv; simp only [List.mem_cons, List.not_mem_nil, or_false] at hv; rcases hv with rfl | rfl <;> first | trivial | assumption | exact in_c rfl | (show inR _; unfold inR; omega)) rfl ?_
  refine aw_iload_n d_Mo_isDecision_0 rfl rfl ?_
  refine aw_if_lt (tgt := 16) d_Mo_isDecision_1 rfl (fun h1 => absurd h1 (by omega)) (fun h1 => ?_)
  refine aw_iload_n d_Mo_isDecision_4 rfl rfl ?_
  refine aw_aload_n d_Mo_isDecision_5 rfl rfl ?_
  refine aw_getI fd_Mo_decisions lk_Mo_146 (by omega) rfl d_Mo_isDecision_6 ?_
  refine aw_icmp_ge (tgt := 16) d_Mo_isDecision_9 rfl (fun h9 => absurd h9 (by omega)) (fun h9 => ?_)
  refine aw_iconst d_Mo_isDecision_12 (in_c rfl) ?_
  refine aw_goto (tgt := 17) d_Mo_isDecision_13 rfl ?_
  exact aw_zret d_Mo_isDecision_17 rfl rfl ⟨rfl, rfl, rfl⟩
set_option maxRecDepth 100000 in
theorem g_Mo_isWord {d : Nat} (hd : 1 ≤ d) {i : Nat} (hi : (i : Int) < mI μ 67 11) (h4 : mI μ 67 11 ≤ 4) {k : Nat} (hk : mI μ 78 i = (k : Int)) (h6 : k ≤ 6) (hR : ∀ k j, mR μ k j = R0 pg k j) {w : Int} (hw : inR w) : AM G false d 0 0 y_Mo_isWord [aP 67, aI (i : Int), aI w] 94 μ (Qe (some (aI (if (0 ≤ w ∧ w < ((2 ^ k : Nat) : Int)) then 1 else 0))) 94 μ) := by
  refine am_of (n := 0) pf_Mo_isWord (Nat.le_of_ble_eq_true rfl) (by intro v hv; simp only [List.mem_cons, List.not_mem_nil, or_false] at hv; rcases hv with rfl | rfl | rfl <;> first | trivial | assumption | exact in_c rfl | (show inR _; unfold inR; omega)) rfl ?_
  have hpw : 2 ^ k ≤ 64 := Nat.pow_le_pow_right (n := 2) (by omega) h6
  refine aw_aload_n d_Mo_isWord_0 rfl rfl ?_
  refine aw_iload_n d_Mo_isWord_1 rfl rfl ?_
  refine aw_ve (as := [_]) rfl cv_Mo_159 (by omega) rfl rfl d_Mo_isWord_2 (Nat.le_of_ble_eq_true rfl) (d' := d - 1) (by omega) (g_Mo_isDecision (by omega) hi h4) ?_
  refine aw_if_eq (tgt := 28) d_Mo_isWord_5 rfl (fun h5 => absurd h5 (by omega)) (fun h5 => ?_)
  refine aw_iload_n d_Mo_isWord_8 rfl rfl ?_
  refine aw_if_lt (tgt := 28) d_Mo_isWord_9 rfl (fun h9 => ?_) (fun h9 => ?_)
  · refine aw_iconst d_Mo_isWord_28 (in_c rfl) ?_
    exact aw_zret d_Mo_isWord_29 rfl rfl ⟨by first | rfl | rw [if_pos (by omega)] | rw [if_neg (by omega)], rfl, rfl⟩
  · refine aw_iload_n d_Mo_isWord_12 rfl rfl ?_
    refine aw_iconst d_Mo_isWord_13 (in_c rfl) ?_
    refine aw_aload_n d_Mo_isWord_14 rfl rfl ?_
    refine aw_getR fd_Mo_many lk_Mo_41 (by omega) rfl d_Mo_isWord_15 (hR _ _) ?_
    refine aw_iload_n d_Mo_isWord_18 rfl rfl ?_
    refine aw_iald (n := i) (by omega) rfl rfl (by omega) d_Mo_isWord_19 ?_
    refine aw_tv (v' := (k : Int)) hk ?_
    refine aw_ishl (a := 1) (k0 := k) rfl rfl (by omega) (by omega) d_Mo_isWord_20 ?_
    refine aw_tv (v' := ((2 ^ k : Nat) : Int)) (by rw [Nat.one_mul]) ?_
    refine aw_icmp_ge (tgt := 28) d_Mo_isWord_21 rfl (fun h21 => ?_) (fun h21 => ?_)
    · refine aw_iconst d_Mo_isWord_28 (in_c rfl) ?_
      exact aw_zret d_Mo_isWord_29 rfl rfl ⟨by first | rfl | rw [if_pos (by omega)] | rw [if_neg (by omega)], rfl, rfl⟩
    · refine aw_iconst d_Mo_isWord_24 (in_c rfl) ?_
      refine aw_goto (tgt := 29) d_Mo_isWord_25 rfl ?_
      exact aw_zret d_Mo_isWord_29 rfl rfl ⟨by first | rfl | rw [if_pos (by omega)] | rw [if_neg (by omega)], rfl, rfl⟩
set_option maxRecDepth 100000 in
theorem g_Mo_isCondition {d : Nat} (hd : 1 ≤ d) {i : Nat} (hi : (i : Int) < mI μ 67 11) (h4 : mI μ 67 11 ≤ 4) {k : Nat} (hk : mI μ 78 i = (k : Int)) (h6 : k ≤ 6) (hR : ∀ k j, mR μ k j = R0 pg k j) {w2 : Int} (hw2 : inR w2) : AM G false d 0 0 y_Mo_isCondition [aP 67, aI (i : Int), aI w2] 94 μ (Qe (some (aI (if (0 ≤ w2 ∧ w2 < (k : Int)) then 1 else 0))) 94 μ) := by
  refine am_of (n := 0) pf_Mo_isCondition (Nat.le_of_ble_eq_true rfl) (by intro v hv; simp only [List.mem_cons, List.not_mem_nil, or_false] at hv; rcases hv with rfl | rfl | rfl <;> first | trivial | assumption | exact in_c rfl | (show inR _; unfold inR; omega)) rfl ?_
  refine aw_aload_n d_Mo_isCondition_0 rfl rfl ?_
  refine aw_iload_n d_Mo_isCondition_1 rfl rfl ?_
  refine aw_ve (as := [_]) rfl cv_Mo_159 (by omega) rfl rfl d_Mo_isCondition_2 (Nat.le_of_ble_eq_true rfl) (d' := d - 1) (by omega) (g_Mo_isDecision (by omega) hi h4) ?_
  refine aw_if_eq (tgt := 26) d_Mo_isCondition_5 rfl (fun h5 => absurd h5 (by omega)) (fun h5 => ?_)
  refine aw_iload_n d_Mo_isCondition_8 rfl rfl ?_
  refine aw_if_lt (tgt := 26) d_Mo_isCondition_9 rfl (fun h9 => ?_) (fun h9 => ?_)
  · refine aw_iconst d_Mo_isCondition_26 (in_c rfl) ?_
    exact aw_zret d_Mo_isCondition_27 rfl rfl ⟨by first | rfl | rw [if_pos (by omega)] | rw [if_neg (by omega)], rfl, rfl⟩
  · refine aw_iload_n d_Mo_isCondition_12 rfl rfl ?_
    refine aw_aload_n d_Mo_isCondition_13 rfl rfl ?_
    refine aw_getR fd_Mo_many lk_Mo_41 (by omega) rfl d_Mo_isCondition_14 (hR _ _) ?_
    refine aw_iload_n d_Mo_isCondition_17 rfl rfl ?_
    refine aw_iald (n := i) (by omega) rfl rfl (by omega) d_Mo_isCondition_18 ?_
    refine aw_tv (v' := (k : Int)) hk ?_
    refine aw_icmp_ge (tgt := 26) d_Mo_isCondition_19 rfl (fun h19 => ?_) (fun h19 => ?_)
    · refine aw_iconst d_Mo_isCondition_26 (in_c rfl) ?_
      exact aw_zret d_Mo_isCondition_27 rfl rfl ⟨by first | rfl | rw [if_pos (by omega)] | rw [if_neg (by omega)], rfl, rfl⟩
    · refine aw_iconst d_Mo_isCondition_22 (in_c rfl) ?_
      refine aw_goto (tgt := 27) d_Mo_isCondition_23 rfl ?_
      exact aw_zret d_Mo_isCondition_27 rfl rfl ⟨by first | rfl | rw [if_pos (by omega)] | rw [if_neg (by omega)], rfl, rfl⟩
set_option maxRecDepth 100000 in
theorem g_Mo_conditions {d : Nat} (hd : 2 ≤ d) {i : Nat} (hi : (i : Int) < mI μ 67 11) (h4 : mI μ 67 11 ≤ 4) (hR : ∀ k j, mR μ k j = R0 pg k j)  : AM G false d 0 0 y_Mo_conditions [aP 67, aI (i : Int)] 94 μ (Qe (some (aI (mI μ 78 i))) 94 (wI μ 67 0 0)) := by
  refine am_of (n := 0) pf_Mo_conditions (Nat.le_of_ble_eq_true rfl) (by intro v hv; simp only [List.mem_cons, List.not_mem_nil, or_false] at hv; rcases hv with rfl | rfl <;> first | trivial | assumption | exact in_c rfl | (show inR _; unfold inR; omega)) rfl ?_
  refine aw_aload_n d_Mo_conditions_0 rfl rfl ?_
  refine aw_aload_n d_Mo_conditions_1 rfl rfl ?_
  refine aw_iload_n d_Mo_conditions_2 rfl rfl ?_
  refine aw_ve (as := [_]) rfl cv_Mo_159 (by omega) rfl rfl d_Mo_conditions_3 (Nat.le_of_ble_eq_true rfl) (d' := d - 1) (by omega) (g_Mo_isDecision (by omega) hi h4) ?_
  refine aw_if_ne (tgt := 13) d_Mo_conditions_6 rfl (fun h6 => ?_) (fun h6 => absurd h6 (by omega))
  refine aw_iconst d_Mo_conditions_13 (in_c rfl) ?_
  refine aw_iconst d_Mo_conditions_14 (in_c rfl) ?_
  refine aw_ve (as := [_, _]) rfl cv_Mo_96 (by omega) rfl rfl d_Mo_conditions_15 (Nat.le_of_ble_eq_true rfl) (d' := d - 1) (by omega) (m_Mo_refused_0 (by omega)) ?_
  refine aw_if_eq (tgt := 25) d_Mo_conditions_18 rfl (fun h18 => ?_) (fun h18 => absurd (by omega) h18)
  refine aw_aload_n d_Mo_conditions_25 rfl rfl ?_
  refine aw_getR fd_Mo_many lk_Mo_41 (by omega) rfl d_Mo_conditions_26 (hR _ _) ?_
  refine aw_pc (pc' := 29) rfl ?_
  refine aw_iload_n d_Mo_conditions_29 rfl rfl ?_
  refine aw_iald (n := i) (by omega) rfl rfl (by omega) d_Mo_conditions_30 ?_
  exact aw_iret d_Mo_conditions_31 rfl ⟨rfl, rfl, rfl⟩
set_option maxRecDepth 100000 in
theorem g_Mo_outcome {d : Nat} (hd : 2 ≤ d) {i : Nat} (hi : (i : Int) < mI μ 67 11) (h4 : mI μ 67 11 ≤ 4) {k : Nat} (hk : mI μ 78 i = (k : Int)) (h6 : k ≤ 6) (hR : ∀ k j, mR μ k j = R0 pg k j) {w : Int} (hw : inR w) : AM G false d 0 0 y_Mo_outcome [aP 67, aI (i : Int), aI w] 94 μ (fun r n9 m => n9 = 94 ∧ (((0 ≤ w ∧ w < ((2 ^ k : Nat) : Int)) ∧ r = .inl (some (aI (if mI μ 82 (64 * i + w.toNat) = 0 then 0 else 1))) ∧ m = wI μ 67 0 0) ∨ (¬ (0 ≤ w ∧ w < ((2 ^ k : Nat) : Int)) ∧ r = .inl (some (aI 0)) ∧ m = wI μ 67 0 1))) := by
  refine am_of (n := 0) pf_Mo_outcome (Nat.le_of_ble_eq_true rfl) (by intro v hv; simp only [List.mem_cons, List.not_mem_nil, or_false] at hv; rcases hv with rfl | rfl | rfl <;> first | trivial | assumption | exact in_c rfl | (show inR _; unfold inR; omega)) rfl ?_
  have hpw : 2 ^ k ≤ 64 := Nat.pow_le_pow_right (n := 2) (by omega) h6
  refine aw_aload_n d_Mo_outcome_0 rfl rfl ?_
  refine aw_aload_n d_Mo_outcome_1 rfl rfl ?_
  refine aw_iload_n d_Mo_outcome_2 rfl rfl ?_
  refine aw_iload_n d_Mo_outcome_3 rfl rfl ?_
  refine aw_ve (as := [_, _]) rfl cv_Mo_174 (by omega) rfl rfl d_Mo_outcome_4 (Nat.le_of_ble_eq_true rfl) (d' := d - 1) (by omega) (g_Mo_isWord (by omega) hi h4 hk h6 hR (by assumption)) ?_
  refine aw_if_ne (tgt := 14) d_Mo_outcome_7 rfl (fun h7 => ?_) (fun h7 => ?_)
  · replace h7 := ite_n h7
    refine aw_iconst d_Mo_outcome_14 (in_c rfl) ?_
    refine aw_iconst d_Mo_outcome_15 (in_c rfl) ?_
    refine aw_ve (as := [_, _]) rfl cv_Mo_96 (by omega) rfl rfl d_Mo_outcome_16 (Nat.le_of_ble_eq_true rfl) (d' := d - 1) (by omega) (m_Mo_refused_0 (by omega)) ?_
    refine aw_if_ne (tgt := 40) d_Mo_outcome_19 rfl (fun h19 => absurd h19 (by omega)) (fun h19 => ?_)
    refine aw_aload_n d_Mo_outcome_22 rfl rfl ?_
    refine aw_getR fd_Mo_comes lk_Mo_53 (by omega) rfl d_Mo_outcome_23 (hR _ _) ?_
    refine aw_bipush (z := 64) d_Mo_outcome_26 (in_c rfl) rfl ?_
    refine aw_iload_n d_Mo_outcome_28 rfl rfl ?_
    refine aw_imul d_Mo_outcome_29 (by unfold inR; omega) ?_
    refine aw_iload_n d_Mo_outcome_30 rfl rfl ?_
    refine aw_iadd d_Mo_outcome_31 (by unfold inR; omega) ?_
    refine aw_pc (pc' := 32) rfl ?_
    refine aw_zald (n := 64 * i + w.toNat) (by omega) rfl (by omega) (by omega) d_Mo_outcome_32 ?_
    refine aw_tv (v' := mI μ 82 (64 * i + w.toNat)) rfl ?_
    refine aw_if_eq (tgt := 40) d_Mo_outcome_33 rfl (fun h33 => ?_) (fun h33 => ?_)
    · refine aw_iconst d_Mo_outcome_40 (in_c rfl) ?_
      exact aw_zret d_Mo_outcome_41 rfl rfl ⟨rfl, Or.inl ⟨h7, by rw [if_pos h33], rfl⟩⟩
    · refine aw_iconst d_Mo_outcome_36 (in_c rfl) ?_
      refine aw_goto (tgt := 41) d_Mo_outcome_37 rfl ?_
      exact aw_zret d_Mo_outcome_41 rfl rfl ⟨rfl, Or.inl ⟨h7, by rw [if_neg h33], rfl⟩⟩
  · replace h7 := ite_z h7
    refine aw_iconst d_Mo_outcome_10 (in_c rfl) ?_
    refine aw_goto (tgt := 15) d_Mo_outcome_11 rfl ?_
    refine aw_iconst d_Mo_outcome_15 (in_c rfl) ?_
    refine aw_ve (as := [_, _]) rfl cv_Mo_96 (by omega) rfl rfl d_Mo_outcome_16 (Nat.le_of_ble_eq_true rfl) (d' := d - 1) (by omega) (m_Mo_refused_1 (by omega) (in_c rfl)) ?_
    refine aw_if_ne (tgt := 40) d_Mo_outcome_19 rfl (fun h19 => ?_) (fun h19 => absurd h19 (by omega))
    refine aw_iconst d_Mo_outcome_40 (in_c rfl) ?_
    exact aw_zret d_Mo_outcome_41 rfl rfl ⟨rfl, Or.inr ⟨h7, rfl, rfl⟩⟩
set_option maxRecDepth 100000 in
theorem g_Mo_evaluated {d : Nat} (hd : 2 ≤ d) {i : Nat} (hi : (i : Int) < mI μ 67 11) (h4 : mI μ 67 11 ≤ 4) {k : Nat} (hk : mI μ 78 i = (k : Int)) (h6 : k ≤ 6) (hR : ∀ k j, mR μ k j = R0 pg k j) {w w2 : Int} (hw : inR w) (hw2 : inR w2) (hse : ∀ j, 0 ≤ mI μ 83 j ∧ mI μ 83 j < 2147483648) : AM G false d 0 0 y_Mo_evaluated [aP 67, aI (i : Int), aI w, aI w2] 94 μ (fun r n9 m => n9 = 94 ∧ ((((0 ≤ w ∧ w < ((2 ^ k : Nat) : Int)) ∧ (0 ≤ w2 ∧ w2 < (k : Int))) ∧ r = .inl (some (aI (if (mI μ 83 (64 * i + w.toNat)).toNat.testBit w2.toNat then 1 else 0))) ∧ m = wI μ 67 0 0) ∨ (¬ ((0 ≤ w ∧ w < ((2 ^ k : Nat) : Int)) ∧ (0 ≤ w2 ∧ w2 < (k : Int))) ∧ r = .inl (some (aI 0)) ∧ m = wI μ 67 0 1))) := by
  refine am_of (n := 0) pf_Mo_evaluated (Nat.le_of_ble_eq_true rfl) (by intro v hv; simp only [List.mem_cons, List.not_mem_nil, or_false] at hv; rcases hv with rfl | rfl | rfl | rfl <;> first | trivial | assumption | exact in_c rfl | (show inR _; unfold inR; omega)) rfl ?_
  have hpw : 2 ^ k ≤ 64 := Nat.pow_le_pow_right (n := 2) (by omega) h6
  refine aw_aload_n d_Mo_evaluated_0 rfl rfl ?_
  refine aw_aload_n d_Mo_evaluated_1 rfl rfl ?_
  refine aw_iload_n d_Mo_evaluated_2 rfl rfl ?_
  refine aw_iload_n d_Mo_evaluated_3 rfl rfl ?_
  refine aw_ve (as := [_, _]) rfl cv_Mo_174 (by omega) rfl rfl d_Mo_evaluated_4 (Nat.le_of_ble_eq_true rfl) (d' := d - 1) (by omega) (g_Mo_isWord (by omega) hi h4 hk h6 hR (by assumption)) ?_
  refine aw_if_eq (tgt := 19) d_Mo_evaluated_7 rfl (fun h7 => ?_) (fun h7 => ?_)
  · replace h7 := ite_z h7
    refine aw_iconst d_Mo_evaluated_19 (in_c rfl) ?_
    refine aw_goto (tgt := 24) d_Mo_evaluated_20 rfl ?_
    refine aw_iconst d_Mo_evaluated_24 (in_c rfl) ?_
    refine aw_ve (as := [_, _]) rfl cv_Mo_96 (by omega) rfl rfl d_Mo_evaluated_25 (Nat.le_of_ble_eq_true rfl) (d' := d - 1) (by omega) (m_Mo_refused_1 (by omega) (in_c rfl)) ?_
    refine aw_if_ne (tgt := 53) d_Mo_evaluated_28 rfl (fun h28 => ?_) (fun h28 => absurd h28 (by omega))
    refine aw_iconst d_Mo_evaluated_53 (in_c rfl) ?_
    exact aw_zret d_Mo_evaluated_54 rfl rfl ⟨rfl, Or.inr ⟨by first | (intro q; exact h7 q.1) | (intro q; exact h16 q.2), rfl, rfl⟩⟩
  · replace h7 := ite_n h7
    refine aw_aload_n d_Mo_evaluated_10 rfl rfl ?_
    refine aw_iload_n d_Mo_evaluated_11 rfl rfl ?_
    refine aw_iload_n d_Mo_evaluated_12 rfl rfl ?_
    refine aw_ve (as := [_, _]) rfl cv_Mo_177 (by omega) rfl rfl d_Mo_evaluated_13 (Nat.le_of_ble_eq_true rfl) (d' := d - 1) (by omega) (g_Mo_isCondition (by omega) hi h4 hk h6 hR (by assumption)) ?_
    refine aw_if_ne (tgt := 23) d_Mo_evaluated_16 rfl (fun h16 => ?_) (fun h16 => ?_)
    · replace h16 := ite_n h16
      refine aw_iconst d_Mo_evaluated_23 (in_c rfl) ?_
      refine aw_iconst d_Mo_evaluated_24 (in_c rfl) ?_
      refine aw_ve (as := [_, _]) rfl cv_Mo_96 (by omega) rfl rfl d_Mo_evaluated_25 (Nat.le_of_ble_eq_true rfl) (d' := d - 1) (by omega) (m_Mo_refused_0 (by omega)) ?_
      refine aw_if_ne (tgt := 53) d_Mo_evaluated_28 rfl (fun h28 => absurd h28 (by omega)) (fun h28 => ?_)
      refine aw_aload_n d_Mo_evaluated_31 rfl rfl ?_
      refine aw_getR fd_Mo_sees lk_Mo_56 (by omega) rfl d_Mo_evaluated_32 (hR _ _) ?_
      refine aw_bipush (z := 64) d_Mo_evaluated_35 (in_c rfl) rfl ?_
      refine aw_iload_n d_Mo_evaluated_37 rfl rfl ?_
      refine aw_imul d_Mo_evaluated_38 (by unfold inR; omega) ?_
      refine aw_iload_n d_Mo_evaluated_39 rfl rfl ?_
      refine aw_iadd d_Mo_evaluated_40 (by unfold inR; omega) ?_
      refine aw_pc (pc' := 41) rfl ?_
      refine aw_iald (n := 64 * i + w.toNat) (by omega) rfl (by omega) (by omega) d_Mo_evaluated_41 ?_
      have hs9 := hse (64 * i + w.toNat)
      refine aw_tv (v' := (((mI μ 83 (64 * i + w.toNat)).toNat : Nat) : Int)) (show mI μ 83 (64 * i + w.toNat) = _ by omega) ?_
      refine aw_iload_n d_Mo_evaluated_42 rfl rfl ?_
      refine aw_tv (v' := ((w2.toNat : Nat) : Int)) (by omega) ?_
      refine aw_se (as := [_, _]) rfl cs_Mo_134 d_Mo_evaluated_43 (Nat.le_of_ble_eq_true rfl) (d' := d - 1) (by omega) (m_Mo_isIn (by omega) (by omega) (by omega)) ?_
      refine aw_if_eq (tgt := 53) d_Mo_evaluated_46 rfl (fun h46 => ?_) (fun h46 => ?_)
      · replace h46 := ite_z h46
        refine aw_iconst d_Mo_evaluated_53 (in_c rfl) ?_
        exact aw_zret d_Mo_evaluated_54 rfl rfl ⟨rfl, Or.inl ⟨⟨h7, h16⟩, by rw [if_neg h46], rfl⟩⟩
      · replace h46 := ite_n h46
        refine aw_iconst d_Mo_evaluated_49 (in_c rfl) ?_
        refine aw_goto (tgt := 54) d_Mo_evaluated_50 rfl ?_
        exact aw_zret d_Mo_evaluated_54 rfl rfl ⟨rfl, Or.inl ⟨⟨h7, h16⟩, by rw [if_pos h46], rfl⟩⟩
    · replace h16 := ite_z h16
      refine aw_iconst d_Mo_evaluated_19 (in_c rfl) ?_
      refine aw_goto (tgt := 24) d_Mo_evaluated_20 rfl ?_
      refine aw_iconst d_Mo_evaluated_24 (in_c rfl) ?_
      refine aw_ve (as := [_, _]) rfl cv_Mo_96 (by omega) rfl rfl d_Mo_evaluated_25 (Nat.le_of_ble_eq_true rfl) (d' := d - 1) (by omega) (m_Mo_refused_1 (by omega) (in_c rfl)) ?_
      refine aw_if_ne (tgt := 53) d_Mo_evaluated_28 rfl (fun h28 => ?_) (fun h28 => absurd h28 (by omega))
      refine aw_iconst d_Mo_evaluated_53 (in_c rfl) ?_
      exact aw_zret d_Mo_evaluated_54 rfl rfl ⟨rfl, Or.inr ⟨by first | (intro q; exact h7 q.1) | (intro q; exact h16 q.2), rfl, rfl⟩⟩
set_option maxRecDepth 100000 in
theorem g_Mo_vector {d : Nat} (hd : 2 ≤ d) {i : Nat} (hi : (i : Int) < mI μ 67 11) (h4 : mI μ 67 11 ≤ 4) {k : Nat} (hk : mI μ 78 i = (k : Int)) (h6 : k ≤ 6) (hR : ∀ k j, mR μ k j = R0 pg k j) {w w2 : Int} (hw : inR w) (hw2 : inR w2) (hin : mI μ 67 1 ≤ 3) : AM G false d 0 0 y_Mo_vector [aP 67, aI (i : Int), aI w, aI w2] 94 μ (fun r n9 m => n9 = 94 ∧ ((((0 ≤ w ∧ w < ((2 ^ k : Nat) : Int)) ∧ (0 ≤ w2 ∧ w2 < mI μ 67 1)) ∧ ¬ mI μ 80 (64 * i + w.toNat) = 0 ∧ r = .inl (some (aI (mI μ 81 (3 * (64 * i + w.toNat) + w2.toNat)))) ∧ m = wI μ 67 0 0) ∨ (((0 ≤ w ∧ w < ((2 ^ k : Nat) : Int)) ∧ (0 ≤ w2 ∧ w2 < mI μ 67 1)) ∧ mI μ 80 (64 * i + w.toNat) = 0 ∧ r = .inl (some (aI 0)) ∧ m = wI μ 67 0 2) ∨ (¬ ((0 ≤ w ∧ w < ((2 ^ k : Nat) : Int)) ∧ (0 ≤ w2 ∧ w2 < mI μ 67 1)) ∧ r = .inl (some (aI 0)) ∧ m = wI μ 67 0 1))) := by
  refine am_of (n := 1) pf_Mo_vector (Nat.le_of_ble_eq_true rfl) (by intro v hv; simp only [List.mem_cons, List.not_mem_nil, or_false] at hv; rcases hv with rfl | rfl | rfl | rfl <;> first | trivial | assumption | exact in_c rfl | (show inR _; unfold inR; omega)) rfl ?_
  have hpw : 2 ^ k ≤ 64 := Nat.pow_le_pow_right (n := 2) (by omega) h6
  refine aw_aload_n d_Mo_vector_0 rfl rfl ?_
  refine aw_iload_n d_Mo_vector_1 rfl rfl ?_
  refine aw_iload_n d_Mo_vector_2 rfl rfl ?_
  refine aw_ve (as := [_, _]) rfl cv_Mo_174 (by omega) rfl rfl d_Mo_vector_3 (Nat.le_of_ble_eq_true rfl) (d' := d - 1) (by omega) (g_Mo_isWord (by omega) hi h4 hk h6 hR (by assumption)) ?_
  refine aw_if_eq (tgt := 25) d_Mo_vector_6 rfl (fun h6 => ?_) (fun h6 => ?_)
  · replace h6 := ite_z h6
    refine aw_iconst d_Mo_vector_25 (in_c rfl) ?_
    refine aw_istore (lst' := [_, _, _, _, _]) d_Mo_vector_26 (Nat.le_of_ble_eq_true rfl) rfl ?_
    refine aw_aload_n d_Mo_vector_28 rfl rfl ?_
    refine aw_iload d_Mo_vector_29 rfl ?_
    refine aw_if_ne (tgt := 38) d_Mo_vector_31 rfl (fun h31 => absurd h31 (by omega)) (fun h31 => ?_)
    refine aw_iconst d_Mo_vector_34 (in_c rfl) ?_
    refine aw_goto (tgt := 39) d_Mo_vector_35 rfl ?_
    refine aw_iload d_Mo_vector_39 rfl ?_
    refine aw_if_eq (tgt := 62) d_Mo_vector_41 rfl (fun h41 => ?_) (fun h41 => absurd (by omega) h41)
    refine aw_iconst d_Mo_vector_62 (in_c rfl) ?_
    refine aw_ve (as := [_, _]) rfl cv_Mo_96 (by omega) rfl rfl d_Mo_vector_63 (Nat.le_of_ble_eq_true rfl) (d' := d - 1) (by omega) (m_Mo_refused_1 (by omega) (in_c rfl)) ?_
    refine aw_pc (pc' := 66) rfl ?_
    refine aw_if_eq (tgt := 71) d_Mo_vector_66 rfl (fun h66 => absurd h66 (by omega)) (fun h66 => ?_)
    refine aw_iconst d_Mo_vector_69 (in_c rfl) ?_
    exact aw_iret d_Mo_vector_70 rfl ⟨rfl, Or.inr (Or.inr ⟨by omega, rfl, rfl⟩)⟩
  · replace h6 := ite_n h6
    refine aw_iload_n d_Mo_vector_9 rfl rfl ?_
    refine aw_if_lt (tgt := 25) d_Mo_vector_10 rfl (fun h10 => ?_) (fun h10 => ?_)
    · refine aw_iconst d_Mo_vector_25 (in_c rfl) ?_
      refine aw_istore (lst' := [_, _, _, _, _]) d_Mo_vector_26 (Nat.le_of_ble_eq_true rfl) rfl ?_
      refine aw_aload_n d_Mo_vector_28 rfl rfl ?_
      refine aw_iload d_Mo_vector_29 rfl ?_
      refine aw_if_ne (tgt := 38) d_Mo_vector_31 rfl (fun h31 => absurd h31 (by omega)) (fun h31 => ?_)
      refine aw_iconst d_Mo_vector_34 (in_c rfl) ?_
      refine aw_goto (tgt := 39) d_Mo_vector_35 rfl ?_
      refine aw_iload d_Mo_vector_39 rfl ?_
      refine aw_if_eq (tgt := 62) d_Mo_vector_41 rfl (fun h41 => ?_) (fun h41 => absurd (by omega) h41)
      refine aw_iconst d_Mo_vector_62 (in_c rfl) ?_
      refine aw_ve (as := [_, _]) rfl cv_Mo_96 (by omega) rfl rfl d_Mo_vector_63 (Nat.le_of_ble_eq_true rfl) (d' := d - 1) (by omega) (m_Mo_refused_1 (by omega) (in_c rfl)) ?_
      refine aw_pc (pc' := 66) rfl ?_
      refine aw_if_eq (tgt := 71) d_Mo_vector_66 rfl (fun h66 => absurd h66 (by omega)) (fun h66 => ?_)
      refine aw_iconst d_Mo_vector_69 (in_c rfl) ?_
      exact aw_iret d_Mo_vector_70 rfl ⟨rfl, Or.inr (Or.inr ⟨by omega, rfl, rfl⟩)⟩
    · refine aw_iload_n d_Mo_vector_13 rfl rfl ?_
      refine aw_aload_n d_Mo_vector_14 rfl rfl ?_
      refine aw_getI fd_Mo_inputs lk_Mo_90 (by omega) rfl d_Mo_vector_15 ?_
      refine aw_icmp_ge (tgt := 25) d_Mo_vector_18 rfl (fun h18 => ?_) (fun h18 => ?_)
      · refine aw_iconst d_Mo_vector_25 (in_c rfl) ?_
        refine aw_istore (lst' := [_, _, _, _, _]) d_Mo_vector_26 (Nat.le_of_ble_eq_true rfl) rfl ?_
        refine aw_aload_n d_Mo_vector_28 rfl rfl ?_
        refine aw_iload d_Mo_vector_29 rfl ?_
        refine aw_if_ne (tgt := 38) d_Mo_vector_31 rfl (fun h31 => absurd h31 (by omega)) (fun h31 => ?_)
        refine aw_iconst d_Mo_vector_34 (in_c rfl) ?_
        refine aw_goto (tgt := 39) d_Mo_vector_35 rfl ?_
        refine aw_iload d_Mo_vector_39 rfl ?_
        refine aw_if_eq (tgt := 62) d_Mo_vector_41 rfl (fun h41 => ?_) (fun h41 => absurd (by omega) h41)
        refine aw_iconst d_Mo_vector_62 (in_c rfl) ?_
        refine aw_ve (as := [_, _]) rfl cv_Mo_96 (by omega) rfl rfl d_Mo_vector_63 (Nat.le_of_ble_eq_true rfl) (d' := d - 1) (by omega) (m_Mo_refused_1 (by omega) (in_c rfl)) ?_
        refine aw_pc (pc' := 66) rfl ?_
        refine aw_if_eq (tgt := 71) d_Mo_vector_66 rfl (fun h66 => absurd h66 (by omega)) (fun h66 => ?_)
        refine aw_iconst d_Mo_vector_69 (in_c rfl) ?_
        exact aw_iret d_Mo_vector_70 rfl ⟨rfl, Or.inr (Or.inr ⟨by omega, rfl, rfl⟩)⟩
      · refine aw_iconst d_Mo_vector_21 (in_c rfl) ?_
        refine aw_goto (tgt := 26) d_Mo_vector_22 rfl ?_
        refine aw_istore (lst' := [_, _, _, _, _]) d_Mo_vector_26 (Nat.le_of_ble_eq_true rfl) rfl ?_
        refine aw_aload_n d_Mo_vector_28 rfl rfl ?_
        refine aw_iload d_Mo_vector_29 rfl ?_
        refine aw_if_ne (tgt := 38) d_Mo_vector_31 rfl (fun h31 => ?_) (fun h31 => absurd h31 (by omega))
        refine aw_iconst d_Mo_vector_38 (in_c rfl) ?_
        refine aw_iload d_Mo_vector_39 rfl ?_
        refine aw_if_eq (tgt := 62) d_Mo_vector_41 rfl (fun h41 => absurd h41 (by omega)) (fun h41 => ?_)
        refine aw_aload_n d_Mo_vector_44 rfl rfl ?_
        refine aw_getR fd_Mo_can lk_Mo_47 (by omega) rfl d_Mo_vector_45 (hR _ _) ?_
        refine aw_pc (pc' := 48) rfl ?_
        refine aw_bipush (z := 64) d_Mo_vector_48 (in_c rfl) rfl ?_
        refine aw_iload_n d_Mo_vector_50 rfl rfl ?_
        refine aw_imul d_Mo_vector_51 (by unfold inR; omega) ?_
        refine aw_iload_n d_Mo_vector_52 rfl rfl ?_
        refine aw_iadd d_Mo_vector_53 (by unfold inR; omega) ?_
        refine aw_zald (n := 64 * i + w.toNat) (by omega) rfl (by omega) (by omega) d_Mo_vector_54 ?_
        refine aw_if_ne (tgt := 62) d_Mo_vector_55 rfl (fun h55 => ?_) (fun h55 => ?_)
        · refine aw_iconst d_Mo_vector_62 (in_c rfl) ?_
          refine aw_ve (as := [_, _]) rfl cv_Mo_96 (by omega) rfl rfl d_Mo_vector_63 (Nat.le_of_ble_eq_true rfl) (d' := d - 1) (by omega) (m_Mo_refused_0 (by omega)) ?_
          refine aw_if_eq (tgt := 71) d_Mo_vector_66 rfl (fun h66 => ?_) (fun h66 => absurd (by omega) h66)
          refine aw_aload_n d_Mo_vector_71 rfl rfl ?_
          refine aw_getR fd_Mo_vectors lk_Mo_50 (by omega) rfl d_Mo_vector_72 (hR _ _) ?_
          refine aw_iconst d_Mo_vector_75 (in_c rfl) ?_
          refine aw_bipush (z := 64) d_Mo_vector_76 (in_c rfl) rfl ?_
          refine aw_iload_n d_Mo_vector_78 rfl rfl ?_
          refine aw_imul d_Mo_vector_79 (by unfold inR; omega) ?_
          refine aw_iload_n d_Mo_vector_80 rfl rfl ?_
          refine aw_iadd d_Mo_vector_81 (by unfold inR; omega) ?_
          refine aw_pc (pc' := 82) rfl ?_
          refine aw_imul d_Mo_vector_82 (by unfold inR; omega) ?_
          refine aw_iload_n d_Mo_vector_83 rfl rfl ?_
          refine aw_iadd d_Mo_vector_84 (by unfold inR; omega) ?_
          refine aw_iald (n := 3 * (64 * i + w.toNat) + w2.toNat) (by omega) rfl (by omega) (by omega) d_Mo_vector_85 ?_
          exact aw_iret d_Mo_vector_86 rfl ⟨rfl, Or.inl ⟨by omega, h55, rfl, rfl⟩⟩
        · refine aw_iconst d_Mo_vector_58 (in_c rfl) ?_
          refine aw_goto (tgt := 63) d_Mo_vector_59 rfl ?_
          refine aw_ve (as := [_, _]) rfl cv_Mo_96 (by omega) rfl rfl d_Mo_vector_63 (Nat.le_of_ble_eq_true rfl) (d' := d - 1) (by omega) (m_Mo_refused_2 (by omega)) ?_
          refine aw_if_eq (tgt := 71) d_Mo_vector_66 rfl (fun h66 => absurd h66 (by omega)) (fun h66 => ?_)
          refine aw_iconst d_Mo_vector_69 (in_c rfl) ?_
          exact aw_iret d_Mo_vector_70 rfl ⟨rfl, Or.inr (Or.inl ⟨by omega, h55, rfl, rfl⟩)⟩
set_option maxRecDepth 100000 in
theorem g_Mo_keep {d : Nat} (hd : 1 ≤ d) {a b e : Int} {c : Nat} (h1 : inR a) (h2 : inR b) (h3 : inR e) (hc : mI μ 67 31 = (c : Int)) (hc12 : c < 12) (hm : ¬ mI μ 67 4 = 0) (hR : ∀ k j, mR μ k j = R0 pg k j)  : AM G false d 0 0 y_Mo_keep [aP 67, aI a, aI b, aI e] 94 μ (fun r n9 m => n9 = 94 ∧ ((((((0 : Nat) : Int) < mI μ 67 1 ∧ (a < mI μ 68 0 ∨ mI μ 69 0 < a)) ∨ (((1 : Nat) : Int) < mI μ 67 1 ∧ (b < mI μ 68 1 ∨ mI μ 69 1 < b)) ∨ (((2 : Nat) : Int) < mI μ 67 1 ∧ (e < mI μ 68 2 ∨ mI μ 69 2 < e))) ∧ r = .inl (some (aI 0)) ∧ m = wI μ 67 0 2) ∨ (¬ ((((0 : Nat) : Int) < mI μ 67 1 ∧ (a < mI μ 68 0 ∨ mI μ 69 0 < a)) ∨ (((1 : Nat) : Int) < mI μ 67 1 ∧ (b < mI μ 68 1 ∨ mI μ 69 1 < b)) ∨ (((2 : Nat) : Int) < mI μ 67 1 ∧ (e < mI μ 68 2 ∨ mI μ 69 2 < e))) ∧ r = .inl (some (aI ((c : Int) + 1))) ∧ m = wI (wI (wI (wI (wI μ 67 0 0) 91 (3 * c) a) 91 (3 * c + 1) b) 91 (3 * c + 2) e) 67 31 ((c : Int) + 1)))) := by
  refine am_of (n := 0) pf_Mo_keep (Nat.le_of_ble_eq_true rfl) (by intro v hv; simp only [List.mem_cons, List.not_mem_nil, or_false] at hv; rcases hv with rfl | rfl | rfl | rfl <;> first | trivial | assumption | exact in_c rfl | (show inR _; unfold inR; omega)) rfl ?_
  refine aw_aload_n d_Mo_keep_0 rfl rfl ?_
  refine aw_aload_n d_Mo_keep_1 rfl rfl ?_
  refine aw_getI fd_Mo_kept lk_Mo_210 (by omega) rfl d_Mo_keep_2 ?_
  refine aw_tv (v' := (c : Int)) (by first | exact hc | (simp only [mI_wI]; rw [if_neg (by omega)]; exact hc) | (simp only [mI_wI]; rw [if_neg (by omega), if_neg (by omega)]; exact hc) | (simp only [mI_wI]; rw [if_neg (by omega), if_neg (by omega), if_neg (by omega)]; exact hc) | (simp only [mI_wI]; rw [if_neg (by omega), if_neg (by omega), if_neg (by omega), if_neg (by omega)]; exact hc)) ?_
  refine aw_bipush (z := 12) d_Mo_keep_5 (in_c rfl) rfl ?_
  refine aw_icmp_eq (tgt := 17) d_Mo_keep_7 rfl (fun h7 => absurd h7 (by omega)) (fun h7 => ?_)
  refine aw_aload_n d_Mo_keep_10 rfl rfl ?_
  refine aw_getI fd_Mo_made lk_Mo_93 (by omega) rfl d_Mo_keep_11 ?_
  refine aw_if_ne (tgt := 21) d_Mo_keep_14 rfl (fun h14 => ?_) (fun h14 => absurd h14 hm)
  refine aw_iconst d_Mo_keep_21 (in_c rfl) ?_
  refine aw_aload_n d_Mo_keep_22 rfl rfl ?_
  refine aw_iload_n d_Mo_keep_23 rfl rfl ?_
  refine aw_pc (pc' := 24) rfl ?_
  refine aw_iconst d_Mo_keep_24 (in_c rfl) ?_
  refine aw_ve (as := [_, _]) rfl cv_Mo_213 (by omega) rfl rfl d_Mo_keep_25 (Nat.le_of_ble_eq_true rfl) (d' := d - 1) (by omega) (m_Mo_isOut (by omega) (by assumption) (by omega) (by omega) hR) ?_
  refine aw_if_ne (tgt := 49) d_Mo_keep_28 rfl (fun h28 => ?_) (fun h28 => ?_)
  · replace h28 := ite_n h28
    refine aw_iconst d_Mo_keep_49 (in_c rfl) ?_
    refine aw_goto (tgt := 54) d_Mo_keep_50 rfl ?_
    refine aw_ve (as := [_, _]) rfl cv_Mo_96 (by omega) rfl rfl d_Mo_keep_54 (Nat.le_of_ble_eq_true rfl) (d' := d - 1) (by omega) (m_Mo_refused_2 (by omega)) ?_
    refine aw_if_eq (tgt := 62) d_Mo_keep_57 rfl (fun h57 => absurd h57 (by omega)) (fun h57 => ?_)
    refine aw_iconst d_Mo_keep_60 (in_c rfl) ?_
    exact aw_iret d_Mo_keep_61 rfl ⟨rfl, Or.inl ⟨by first | exact Or.inl h28 | exact Or.inr (Or.inl h37) | exact Or.inr (Or.inr h46), rfl, rfl⟩⟩
  · replace h28 := ite_z h28
    refine aw_aload_n d_Mo_keep_31 rfl rfl ?_
    refine aw_iload_n d_Mo_keep_32 rfl rfl ?_
    refine aw_iconst d_Mo_keep_33 (in_c rfl) ?_
    refine aw_ve (as := [_, _]) rfl cv_Mo_213 (by omega) rfl rfl d_Mo_keep_34 (Nat.le_of_ble_eq_true rfl) (d' := d - 1) (by omega) (m_Mo_isOut (by omega) (by assumption) (by omega) (by omega) hR) ?_
    refine aw_if_ne (tgt := 49) d_Mo_keep_37 rfl (fun h37 => ?_) (fun h37 => ?_)
    · replace h37 := ite_n h37
      refine aw_iconst d_Mo_keep_49 (in_c rfl) ?_
      refine aw_goto (tgt := 54) d_Mo_keep_50 rfl ?_
      refine aw_ve (as := [_, _]) rfl cv_Mo_96 (by omega) rfl rfl d_Mo_keep_54 (Nat.le_of_ble_eq_true rfl) (d' := d - 1) (by omega) (m_Mo_refused_2 (by omega)) ?_
      refine aw_if_eq (tgt := 62) d_Mo_keep_57 rfl (fun h57 => absurd h57 (by omega)) (fun h57 => ?_)
      refine aw_iconst d_Mo_keep_60 (in_c rfl) ?_
      exact aw_iret d_Mo_keep_61 rfl ⟨rfl, Or.inl ⟨by first | exact Or.inl h28 | exact Or.inr (Or.inl h37) | exact Or.inr (Or.inr h46), rfl, rfl⟩⟩
    · replace h37 := ite_z h37
      refine aw_aload_n d_Mo_keep_40 rfl rfl ?_
      refine aw_iload_n d_Mo_keep_41 rfl rfl ?_
      refine aw_iconst d_Mo_keep_42 (in_c rfl) ?_
      refine aw_ve (as := [_, _]) rfl cv_Mo_213 (by omega) rfl rfl d_Mo_keep_43 (Nat.le_of_ble_eq_true rfl) (d' := d - 1) (by omega) (m_Mo_isOut (by omega) (by assumption) (by omega) (by omega) hR) ?_
      refine aw_if_eq (tgt := 53) d_Mo_keep_46 rfl (fun h46 => ?_) (fun h46 => ?_)
      · replace h46 := ite_z h46
        refine aw_iconst d_Mo_keep_53 (in_c rfl) ?_
        refine aw_ve (as := [_, _]) rfl cv_Mo_96 (by omega) rfl rfl d_Mo_keep_54 (Nat.le_of_ble_eq_true rfl) (d' := d - 1) (by omega) (m_Mo_refused_0 (by omega)) ?_
        refine aw_if_eq (tgt := 62) d_Mo_keep_57 rfl (fun h57 => ?_) (fun h57 => absurd (by omega) h57)
        refine aw_aload_n d_Mo_keep_62 rfl rfl ?_
        refine aw_getR fd_Mo_records lk_Mo_80 (by omega) rfl d_Mo_keep_63 (hR _ _) ?_
        refine aw_iconst d_Mo_keep_66 (in_c rfl) ?_
        refine aw_aload_n d_Mo_keep_67 rfl rfl ?_
        refine aw_getI fd_Mo_kept lk_Mo_210 (by omega) rfl d_Mo_keep_68 ?_
        refine aw_tv (v' := (c : Int)) (by first | exact hc | (simp only [mI_wI]; rw [if_neg (by omega)]; exact hc) | (simp only [mI_wI]; rw [if_neg (by omega), if_neg (by omega)]; exact hc) | (simp only [mI_wI]; rw [if_neg (by omega), if_neg (by omega), if_neg (by omega)]; exact hc) | (simp only [mI_wI]; rw [if_neg (by omega), if_neg (by omega), if_neg (by omega), if_neg (by omega)]; exact hc)) ?_
        refine aw_imul d_Mo_keep_71 (by unfold inR; omega) ?_
        refine aw_iload_n d_Mo_keep_72 rfl rfl ?_
        refine aw_iast (n := 3 * c) (by omega) rfl (by omega) (by omega) d_Mo_keep_73 ?_
        refine aw_pc (pc' := 74) rfl ?_
        refine aw_aload_n d_Mo_keep_74 rfl rfl ?_
        refine aw_getR fd_Mo_records lk_Mo_80 (by omega) rfl d_Mo_keep_75 (hR _ _) ?_
        refine aw_iconst d_Mo_keep_78 (in_c rfl) ?_
        refine aw_aload_n d_Mo_keep_79 rfl rfl ?_
        refine aw_getI fd_Mo_kept lk_Mo_210 (by omega) rfl d_Mo_keep_80 ?_
        refine aw_tv (v' := (c : Int)) (by first | exact hc | (simp only [mI_wI]; rw [if_neg (by omega)]; exact hc) | (simp only [mI_wI]; rw [if_neg (by omega), if_neg (by omega)]; exact hc) | (simp only [mI_wI]; rw [if_neg (by omega), if_neg (by omega), if_neg (by omega)]; exact hc) | (simp only [mI_wI]; rw [if_neg (by omega), if_neg (by omega), if_neg (by omega), if_neg (by omega)]; exact hc)) ?_
        refine aw_imul d_Mo_keep_83 (by unfold inR; omega) ?_
        refine aw_iconst d_Mo_keep_84 (in_c rfl) ?_
        refine aw_iadd d_Mo_keep_85 (by unfold inR; omega) ?_
        refine aw_iload_n d_Mo_keep_86 rfl rfl ?_
        refine aw_iast (n := 3 * c + 1) (by omega) rfl (by omega) (by omega) d_Mo_keep_87 ?_
        refine aw_aload_n d_Mo_keep_88 rfl rfl ?_
        refine aw_getR fd_Mo_records lk_Mo_80 (by omega) rfl d_Mo_keep_89 (hR _ _) ?_
        refine aw_pc (pc' := 92) rfl ?_
        refine aw_iconst d_Mo_keep_92 (in_c rfl) ?_
        refine aw_aload_n d_Mo_keep_93 rfl rfl ?_
        refine aw_getI fd_Mo_kept lk_Mo_210 (by omega) rfl d_Mo_keep_94 ?_
        refine aw_tv (v' := (c : Int)) (by first | exact hc | (simp only [mI_wI]; rw [if_neg (by omega)]; exact hc) | (simp only [mI_wI]; rw [if_neg (by omega), if_neg (by omega)]; exact hc) | (simp only [mI_wI]; rw [if_neg (by omega), if_neg (by omega), if_neg (by omega)]; exact hc) | (simp only [mI_wI]; rw [if_neg (by omega), if_neg (by omega), if_neg (by omega), if_neg (by omega)]; exact hc)) ?_
        refine aw_imul d_Mo_keep_97 (by unfold inR; omega) ?_
        refine aw_iconst d_Mo_keep_98 (in_c rfl) ?_
        refine aw_iadd d_Mo_keep_99 (by unfold inR; omega) ?_
        refine aw_iload_n d_Mo_keep_100 rfl rfl ?_
        refine aw_iast (n := 3 * c + 2) (by omega) rfl (by omega) (by omega) d_Mo_keep_101 ?_
        refine aw_aload_n d_Mo_keep_102 rfl rfl ?_
        refine aw_dup d_Mo_keep_103 rfl ?_
        refine aw_getI fd_Mo_kept lk_Mo_210 (by omega) rfl d_Mo_keep_104 ?_
        refine aw_tv (v' := (c : Int)) (by first | exact hc | (simp only [mI_wI]; rw [if_neg (by omega)]; exact hc) | (simp only [mI_wI]; rw [if_neg (by omega), if_neg (by omega)]; exact hc) | (simp only [mI_wI]; rw [if_neg (by omega), if_neg (by omega), if_neg (by omega)]; exact hc) | (simp only [mI_wI]; rw [if_neg (by omega), if_neg (by omega), if_neg (by omega), if_neg (by omega)]; exact hc)) ?_
        refine aw_iconst d_Mo_keep_107 (in_c rfl) ?_
        refine aw_pc (pc' := 108) rfl ?_
        refine aw_iadd d_Mo_keep_108 (by unfold inR; omega) ?_
        refine aw_putI fd_Mo_kept lk_Mo_210 (by omega) rfl d_Mo_keep_109 (Or.inl rfl) ?_
        refine aw_aload_n d_Mo_keep_112 rfl rfl ?_
        refine aw_getI fd_Mo_kept lk_Mo_210 (by omega) rfl d_Mo_keep_113 ?_
        refine aw_tv (v' := (c : Int) + 1) rfl ?_
        exact aw_iret d_Mo_keep_116 rfl ⟨rfl, Or.inr ⟨fun q => by rcases q with q | q | q; exact h28 q; exact h37 q; exact h46 q, rfl, rfl⟩⟩
      · replace h46 := ite_n h46
        refine aw_iconst d_Mo_keep_49 (in_c rfl) ?_
        refine aw_goto (tgt := 54) d_Mo_keep_50 rfl ?_
        refine aw_ve (as := [_, _]) rfl cv_Mo_96 (by omega) rfl rfl d_Mo_keep_54 (Nat.le_of_ble_eq_true rfl) (d' := d - 1) (by omega) (m_Mo_refused_2 (by omega)) ?_
        refine aw_if_eq (tgt := 62) d_Mo_keep_57 rfl (fun h57 => absurd h57 (by omega)) (fun h57 => ?_)
        refine aw_iconst d_Mo_keep_60 (in_c rfl) ?_
        exact aw_iret d_Mo_keep_61 rfl ⟨rfl, Or.inl ⟨by first | exact Or.inl h28 | exact Or.inr (Or.inl h37) | exact Or.inr (Or.inr h46), rfl, rfl⟩⟩
end
