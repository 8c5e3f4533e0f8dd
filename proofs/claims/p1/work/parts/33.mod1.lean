/-! the reference: small methods -/
section
variable {G : aG} {pg : Nat} {μ : aM}
set_option maxRecDepth 100000 in
theorem m_Mo_thrown {d : Nat} (hd : 0 ≤ d)  : AM G false d 0 0 y_Mo_thrown [aP 67] 94 μ (Qe (some (aI (mI μ 67 0))) 94 μ) := by
  refine am_of (n := 0) pf_Mo_thrown (Nat.le_of_ble_eq_true rfl) (by intro v hv; simp only [List.mem_cons, List.not_mem_nil, or_false] at hv; rcases hv with rfl <;> first | trivial | assumption | exact in_c rfl) rfl ?_
  refine aw_aload_n d_Mo_thrown_0 rfl rfl ?_
  refine aw_getI fd_Mo_fault lk_Mo_86 (by omega) rfl d_Mo_thrown_1 ?_
  exact aw_iret d_Mo_thrown_4 rfl ⟨rfl, rfl, rfl⟩
set_option maxRecDepth 100000 in
theorem m_Mo_refused_1 {d : Nat} (hd : 0 ≤ d) {b : Int} (hb : inR b) : AM G false d 0 0 y_Mo_refused [aP 67, aI 1, aI b] 94 μ (Qe (some (aI 1)) 94 (wI μ 67 0 1)) := by
  refine am_of (n := 0) pf_Mo_refused (Nat.le_of_ble_eq_true rfl) (by intro v hv; simp only [List.mem_cons, List.not_mem_nil, or_false] at hv; rcases hv with rfl | rfl | rfl <;> first | trivial | assumption | exact in_c rfl) rfl ?_
  refine aw_aload_n d_Mo_refused_0 rfl rfl ?_
  refine aw_iload_n d_Mo_refused_1 rfl rfl ?_
  refine aw_if_eq (tgt := 9) d_Mo_refused_2 rfl (fun h2 => absurd h2 (by omega)) (fun h2 => ?_)
  refine aw_iconst d_Mo_refused_5 (in_c rfl) ?_
  refine aw_goto (tgt := 18) d_Mo_refused_6 rfl ?_
  refine aw_putI fd_Mo_fault lk_Mo_86 (by omega) rfl d_Mo_refused_18 (Or.inl rfl) ?_
  refine aw_aload_n d_Mo_refused_21 rfl rfl ?_
  refine aw_getI fd_Mo_fault lk_Mo_86 (by omega) rfl d_Mo_refused_22 ?_
  refine aw_tv (v' := 1) rfl ?_
  refine aw_if_le (tgt := 32) d_Mo_refused_25 rfl (fun h25 => absurd h25 (by omega)) (fun h25 => ?_)
  refine aw_iconst d_Mo_refused_28 (in_c rfl) ?_
  refine aw_goto (tgt := 33) d_Mo_refused_29 rfl ?_
  refine aw_pc (pc' := 33) rfl ?_
  exact aw_zret d_Mo_refused_33 rfl rfl ⟨rfl, rfl, rfl⟩
set_option maxRecDepth 100000 in
theorem m_Mo_refused_2 {d : Nat} (hd : 0 ≤ d)  : AM G false d 0 0 y_Mo_refused [aP 67, aI 0, aI 1] 94 μ (Qe (some (aI 1)) 94 (wI μ 67 0 2)) := by
  refine am_of (n := 0) pf_Mo_refused (Nat.le_of_ble_eq_true rfl) (by intro v hv; simp only [List.mem_cons, List.not_mem_nil, or_false] at hv; rcases hv with rfl | rfl | rfl <;> first | trivial | assumption | exact in_c rfl) rfl ?_
  refine aw_aload_n d_Mo_refused_0 rfl rfl ?_
  refine aw_iload_n d_Mo_refused_1 rfl rfl ?_
  refine aw_if_eq (tgt := 9) d_Mo_refused_2 rfl (fun h2 => ?_) (fun h2 => absurd (by omega) h2)
  refine aw_iload_n d_Mo_refused_9 rfl rfl ?_
  refine aw_if_eq (tgt := 17) d_Mo_refused_10 rfl (fun h10 => absurd h10 (by omega)) (fun h10 => ?_)
  refine aw_iconst d_Mo_refused_13 (in_c rfl) ?_
  refine aw_goto (tgt := 18) d_Mo_refused_14 rfl ?_
  refine aw_putI fd_Mo_fault lk_Mo_86 (by omega) rfl d_Mo_refused_18 (Or.inl rfl) ?_
  refine aw_aload_n d_Mo_refused_21 rfl rfl ?_
  refine aw_getI fd_Mo_fault lk_Mo_86 (by omega) rfl d_Mo_refused_22 ?_
  refine aw_tv (v' := 2) rfl ?_
  refine aw_if_le (tgt := 32) d_Mo_refused_25 rfl (fun h25 => absurd h25 (by omega)) (fun h25 => ?_)
  refine aw_pc (pc' := 28) rfl ?_
  refine aw_iconst d_Mo_refused_28 (in_c rfl) ?_
  refine aw_goto (tgt := 33) d_Mo_refused_29 rfl ?_
  exact aw_zret d_Mo_refused_33 rfl rfl ⟨rfl, rfl, rfl⟩
set_option maxRecDepth 100000 in
theorem m_Mo_refused_0 {d : Nat} (hd : 0 ≤ d)  : AM G false d 0 0 y_Mo_refused [aP 67, aI 0, aI 0] 94 μ (Qe (some (aI 0)) 94 (wI μ 67 0 0)) := by
  refine am_of (n := 0) pf_Mo_refused (Nat.le_of_ble_eq_true rfl) (by intro v hv; simp only [List.mem_cons, List.not_mem_nil, or_false] at hv; rcases hv with rfl | rfl | rfl <;> first | trivial | assumption | exact in_c rfl) rfl ?_
  refine aw_aload_n d_Mo_refused_0 rfl rfl ?_
  refine aw_iload_n d_Mo_refused_1 rfl rfl ?_
  refine aw_if_eq (tgt := 9) d_Mo_refused_2 rfl (fun h2 => ?_) (fun h2 => absurd (by omega) h2)
  refine aw_iload_n d_Mo_refused_9 rfl rfl ?_
  refine aw_if_eq (tgt := 17) d_Mo_refused_10 rfl (fun h10 => ?_) (fun h10 => absurd (by omega) h10)
  refine aw_iconst d_Mo_refused_17 (in_c rfl) ?_
  refine aw_putI fd_Mo_fault lk_Mo_86 (by omega) rfl d_Mo_refused_18 (Or.inl rfl) ?_
  refine aw_aload_n d_Mo_refused_21 rfl rfl ?_
  refine aw_getI fd_Mo_fault lk_Mo_86 (by omega) rfl d_Mo_refused_22 ?_
  refine aw_tv (v' := 0) rfl ?_
  refine aw_if_le (tgt := 32) d_Mo_refused_25 rfl (fun h25 => ?_) (fun h25 => absurd (by omega) h25)
  refine aw_iconst d_Mo_refused_32 (in_c rfl) ?_
  refine aw_pc (pc' := 33) rfl ?_
  exact aw_zret d_Mo_refused_33 rfl rfl ⟨rfl, rfl, rfl⟩
set_option maxRecDepth 100000 in
theorem m_Mo_isDecision {d : Nat} (hd : 0 ≤ d) {i : Int} (hi : inR i) : AM G false d 0 0 y_Mo_isDecision [aP 67, aI i] 94 μ (Qe (some (aI (if 0 ≤ i ∧ i < mI μ 67 11 then 1 else 0))) 94 μ) := by
  refine am_of (n := 0) pf_Mo_isDecision (Nat.le_of_ble_eq_true rfl) (by intro v hv; simp only [List.mem_cons, List.not_mem_nil, or_false] at hv; rcases hv with rfl | rfl <;> first | trivial | assumption | exact in_c rfl) rfl ?_
  refine aw_iload_n d_Mo_isDecision_0 rfl rfl ?_
  refine aw_if_lt (tgt := 16) d_Mo_isDecision_1 rfl (fun h1 => ?_) (fun h1 => ?_)
  · refine aw_iconst d_Mo_isDecision_16 (in_c rfl) ?_
    exact aw_zret d_Mo_isDecision_17 rfl rfl ⟨by first | rfl | rw [if_pos (by omega)] | rw [if_neg (by omega)], rfl, rfl⟩
  · refine aw_iload_n d_Mo_isDecision_4 rfl rfl ?_
    refine aw_aload_n d_Mo_isDecision_5 rfl rfl ?_
    refine aw_getI fd_Mo_decisions lk_Mo_146 (by omega) rfl d_Mo_isDecision_6 ?_
    refine aw_icmp_ge (tgt := 16) d_Mo_isDecision_9 rfl (fun h9 => ?_) (fun h9 => ?_)
    · refine aw_iconst d_Mo_isDecision_16 (in_c rfl) ?_
      exact aw_zret d_Mo_isDecision_17 rfl rfl ⟨by first | rfl | rw [if_pos (by omega)] | rw [if_neg (by omega)], rfl, rfl⟩
    · refine aw_iconst d_Mo_isDecision_12 (in_c rfl) ?_
      refine aw_goto (tgt := 17) d_Mo_isDecision_13 rfl ?_
      exact aw_zret d_Mo_isDecision_17 rfl rfl ⟨by first | rfl | rw [if_pos (by omega)] | rw [if_neg (by omega)], rfl, rfl⟩
set_option maxRecDepth 100000 in
theorem b_Mo_isDecision {d : Nat} (hd : 0 ≤ d) {i : Int} (hi : inR i) (hb : ¬ (0 ≤ i ∧ i < mI μ 67 11))  : AM G false d 0 0 y_Mo_isDecision [aP 67, aI i] 94 μ (Qe (some (aI 0)) 94 μ) := by
  refine am_of (n := 0) pf_Mo_isDecision (Nat.le_of_ble_eq_true rfl) (by intro v hv; simp only [List.mem_cons, List.not_mem_nil, or_false] at hv; rcases hv with rfl | rfl <;> first | trivial | assumption | exact in_c rfl) rfl ?_
  refine aw_iload_n d_Mo_isDecision_0 rfl rfl ?_
  refine aw_if_lt (tgt := 16) d_Mo_isDecision_1 rfl (fun h1 => ?_) (fun h1 => ?_)
  · refine aw_iconst d_Mo_isDecision_16 (in_c rfl) ?_
    exact aw_zret d_Mo_isDecision_17 rfl rfl ⟨rfl, rfl, rfl⟩
  · refine aw_iload_n d_Mo_isDecision_4 rfl rfl ?_
    refine aw_aload_n d_Mo_isDecision_5 rfl rfl ?_
    refine aw_getI fd_Mo_decisions lk_Mo_146 (by omega) rfl d_Mo_isDecision_6 ?_
    refine aw_icmp_ge (tgt := 16) d_Mo_isDecision_9 rfl (fun h9 => ?_) (fun h9 => absurd (by omega) h9)
    refine aw_iconst d_Mo_isDecision_16 (in_c rfl) ?_
    exact aw_zret d_Mo_isDecision_17 rfl rfl ⟨rfl, rfl, rfl⟩
set_option maxRecDepth 100000 in
theorem b_Mo_isWord {d : Nat} (hd : 1 ≤ d) {i : Int} (hi : inR i) (hb : ¬ (0 ≤ i ∧ i < mI μ 67 11)) {w : Int} (hw : inR w) : AM G false d 0 0 y_Mo_isWord [aP 67, aI i, aI w] 94 μ (Qe (some (aI 0)) 94 μ) := by
  refine am_of (n := 0) pf_Mo_isWord (Nat.le_of_ble_eq_true rfl) (by intro v hv; simp only [List.mem_cons, List.not_mem_nil, or_false] at hv; rcases hv with rfl | rfl | rfl <;> first | trivial | assumption | exact in_c rfl) rfl ?_
  refine aw_aload_n d_Mo_isWord_0 rfl rfl ?_
  refine aw_iload_n d_Mo_isWord_1 rfl rfl ?_
  refine aw_ve (as := [_]) rfl cv_Mo_159 (by omega) rfl rfl d_Mo_isWord_2 (Nat.le_of_ble_eq_true rfl) (d' := d - 1) (by omega) (b_Mo_isDecision (by omega) hi hb) ?_
  refine aw_if_eq (tgt := 28) d_Mo_isWord_5 rfl (fun h5 => ?_) (fun h5 => absurd (by omega) h5)
  refine aw_iconst d_Mo_isWord_28 (in_c rfl) ?_
  exact aw_zret d_Mo_isWord_29 rfl rfl ⟨rfl, rfl, rfl⟩
set_option maxRecDepth 100000 in
theorem b_Mo_isCondition {d : Nat} (hd : 1 ≤ d) {i : Int} (hi : inR i) (hb : ¬ (0 ≤ i ∧ i < mI μ 67 11)) {w : Int} (hw : inR w) : AM G false d 0 0 y_Mo_isCondition [aP 67, aI i, aI w] 94 μ (Qe (some (aI 0)) 94 μ) := by
  refine am_of (n := 0) pf_Mo_isCondition (Nat.le_of_ble_eq_true rfl) (by intro v hv; simp only [List.mem_cons, List.not_mem_nil, or_false] at hv; rcases hv with rfl | rfl | rfl <;> first | trivial | assumption | exact in_c rfl) rfl ?_
  refine aw_aload_n d_Mo_isCondition_0 rfl rfl ?_
  refine aw_iload_n d_Mo_isCondition_1 rfl rfl ?_
  refine aw_ve (as := [_]) rfl cv_Mo_159 (by omega) rfl rfl d_Mo_isCondition_2 (Nat.le_of_ble_eq_true rfl) (d' := d - 1) (by omega) (b_Mo_isDecision (by omega) hi hb) ?_
  refine aw_if_eq (tgt := 26) d_Mo_isCondition_5 rfl (fun h5 => ?_) (fun h5 => absurd (by omega) h5)
  refine aw_iconst d_Mo_isCondition_26 (in_c rfl) ?_
  exact aw_zret d_Mo_isCondition_27 rfl rfl ⟨rfl, rfl, rfl⟩
set_option maxRecDepth 100000 in
theorem m_Mo_isCriterion {d : Nat} (hd : 0 ≤ d) {i : Int} (hi : inR i) : AM G false d 0 0 y_Mo_isCriterion [aI i] 94 μ (Qe (some (aI (if 0 ≤ i ∧ i ≤ 2 then 1 else 0))) 94 μ) := by
  refine am_of (n := 0) pf_Mo_isCriterion (Nat.le_of_ble_eq_true rfl) (by intro v hv; simp only [List.mem_cons, List.not_mem_nil, or_false] at hv; rcases hv with rfl <;> first | trivial | assumption | exact in_c rfl) rfl ?_
  refine aw_iload_n d_Mo_isCriterion_0 rfl rfl ?_
  refine aw_if_lt (tgt := 13) d_Mo_isCriterion_1 rfl (fun h1 => ?_) (fun h1 => ?_)
  · refine aw_iconst d_Mo_isCriterion_13 (in_c rfl) ?_
    exact aw_zret d_Mo_isCriterion_14 rfl rfl ⟨by first | rfl | rw [if_pos (by omega)] | rw [if_neg (by omega)], rfl, rfl⟩
  · refine aw_iload_n d_Mo_isCriterion_4 rfl rfl ?_
    refine aw_iconst d_Mo_isCriterion_5 (in_c rfl) ?_
    refine aw_icmp_gt (tgt := 13) d_Mo_isCriterion_6 rfl (fun h6 => ?_) (fun h6 => ?_)
    · refine aw_iconst d_Mo_isCriterion_13 (in_c rfl) ?_
      exact aw_zret d_Mo_isCriterion_14 rfl rfl ⟨by first | rfl | rw [if_pos (by omega)] | rw [if_neg (by omega)], rfl, rfl⟩
    · refine aw_iconst d_Mo_isCriterion_9 (in_c rfl) ?_
      refine aw_goto (tgt := 14) d_Mo_isCriterion_10 rfl ?_
      exact aw_zret d_Mo_isCriterion_14 rfl rfl ⟨by first | rfl | rw [if_pos (by omega)] | rw [if_neg (by omega)], rfl, rfl⟩
end
