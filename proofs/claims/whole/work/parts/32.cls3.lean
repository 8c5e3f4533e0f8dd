/-! refusals -/
section
variable {G : aG} {pg : Nat} {μ : aM}
set_option maxRecDepth 100000 in
theorem b_MC_decisionAt {d : Nat} (hd : 7 ≤ d) {i : Int} (hi : inR i) (hb : ¬ (0 ≤ i ∧ i < mI μ 0 10))  : AM G false d 1 6 y_MC_decisionAt [aP 0, aI i] 94 μ (Qt 2 94 μ) := by
  refine am_of (n := 0) pf_MC_decisionAt (Nat.le_of_ble_eq_true rfl) (by intro v hv; simp only [List.mem_cons, List.not_mem_nil, or_false] at hv; rcases hv with rfl | rfl <;> first | trivial | assumption) rfl ?_
  refine aw_iload_n d_MC_decisionAt_0 rfl rfl ?_
  refine aw_if_lt (tgt := 12) d_MC_decisionAt_1 rfl (fun h1 => ?_) (fun h1 => ?_)
  · exact aw_throw thr_2 d_MC_decisionAt_12 d_MC_decisionAt_15 d_MC_decisionAt_16 d_MC_decisionAt_19 (by intro z hz; cases hz) (by omega) (by omega) (by omega) (Nat.le_of_ble_eq_true rfl) ⟨rfl, rfl, rfl⟩
  · refine aw_iload_n d_MC_decisionAt_4 rfl rfl ?_
    refine aw_aload_n d_MC_decisionAt_5 rfl rfl ?_
    refine aw_getI fd_MC_decisionCount lk_MC_85 (by omega) rfl d_MC_decisionAt_6 ?_
    refine aw_icmp_lt (tgt := 20) d_MC_decisionAt_9 rfl (fun h9 => absurd h9 (by omega)) (fun h9 => ?_)
    exact aw_throw thr_2 d_MC_decisionAt_12 d_MC_decisionAt_15 d_MC_decisionAt_16 d_MC_decisionAt_19 (by intro z hz; cases hz) (by omega) (by omega) (by omega) (Nat.le_of_ble_eq_true rfl) ⟨rfl, rfl, rfl⟩
set_option maxRecDepth 100000 in
theorem b_MC_decisionWithWord {d : Nat} (hd : 8 ≤ d) {w : Int} (hw : inR w) {i : Int} (hi : inR i) (hb : ¬ (0 ≤ i ∧ i < mI μ 0 10))  : AM G false d 3 18 y_MC_decisionWithWord [aP 0, aI i, aI w] 94 μ (Qt 2 94 μ) := by
  refine am_of (n := 1) pf_MC_decisionWithWord (Nat.le_of_ble_eq_true rfl) (by intro v hv; simp only [List.mem_cons, List.not_mem_nil, or_false] at hv; rcases hv with rfl | rfl | rfl <;> first | trivial | assumption) rfl ?_
  refine aw_aload_n d_MC_decisionWithWord_0 rfl rfl ?_
  refine aw_iload_n d_MC_decisionWithWord_1 rfl rfl ?_
  exact aw_vt (as := [_]) rfl cv_MC_140 (by omega) rfl rfl d_MC_decisionWithWord_2 (Nat.le_of_ble_eq_true rfl) (d' := d - 1) (by omega) (by omega) (by omega) (b_MC_decisionAt (by omega) hi hb) (by intro z hz; cases hz) ⟨rfl, rfl, rfl⟩
set_option maxRecDepth 100000 in
theorem b_MC_conditions {d : Nat} (hd : 8 ≤ d) {i : Int} (hi : inR i) (hb : ¬ (0 ≤ i ∧ i < mI μ 0 10))  : AM G false d 3 18 y_MC_conditions [aP 0, aI i] 94 μ (Qt 2 94 μ) := by
  refine am_of (n := 0) pf_MC_conditions (Nat.le_of_ble_eq_true rfl) (by intro v hv; simp only [List.mem_cons, List.not_mem_nil, or_false] at hv; rcases hv with rfl | rfl <;> first | trivial | assumption) rfl ?_
  refine aw_aload_n d_MC_conditions_0 rfl rfl ?_
  refine aw_iload_n d_MC_conditions_1 rfl rfl ?_
  exact aw_vt (as := [_]) rfl cv_MC_140 (by omega) rfl rfl d_MC_conditions_2 (Nat.le_of_ble_eq_true rfl) (d' := d - 1) (by omega) (by omega) (by omega) (b_MC_decisionAt (by omega) hi hb) (by intro z hz; cases hz) ⟨rfl, rfl, rfl⟩
set_option maxRecDepth 100000 in
theorem b_MC_show {d : Nat} (hd : 8 ≤ d) {i : Int} (hi : inR i) (hb : ¬ (0 ≤ i ∧ i < mI μ 0 10))  : AM G false d 3 18 y_MC_show [aP 0, aI i] 94 μ (Qt 2 94 μ) := by
  refine am_of (n := 0) pf_MC_show (Nat.le_of_ble_eq_true rfl) (by intro v hv; simp only [List.mem_cons, List.not_mem_nil, or_false] at hv; rcases hv with rfl | rfl <;> first | trivial | assumption) rfl ?_
  refine aw_aload_n d_MC_show_0 rfl rfl ?_
  refine aw_aload_n d_MC_show_1 rfl rfl ?_
  refine aw_iload_n d_MC_show_2 rfl rfl ?_
  exact aw_vt (as := [_]) rfl cv_MC_140 (by omega) rfl rfl d_MC_show_3 (Nat.le_of_ble_eq_true rfl) (d' := d - 1) (by omega) (by omega) (by omega) (b_MC_decisionAt (by omega) hi hb) (by intro z hz; cases hz) ⟨rfl, rfl, rfl⟩
set_option maxRecDepth 100000 in
theorem b_MC_feasible {d : Nat} (hd : 8 ≤ d) {i : Int} (hi : inR i) (hb : ¬ (0 ≤ i ∧ i < mI μ 0 10))  : AM G false d 3 18 y_MC_feasible [aP 0, aI i] 94 μ (Qt 2 94 μ) := by
  refine am_of (n := 0) pf_MC_feasible (Nat.le_of_ble_eq_true rfl) (by intro v hv; simp only [List.mem_cons, List.not_mem_nil, or_false] at hv; rcases hv with rfl | rfl <;> first | trivial | assumption) rfl ?_
  refine aw_aload_n d_MC_feasible_0 rfl rfl ?_
  refine aw_iload_n d_MC_feasible_1 rfl rfl ?_
  exact aw_vt (as := [_]) rfl cv_MC_140 (by omega) rfl rfl d_MC_feasible_2 (Nat.le_of_ble_eq_true rfl) (d' := d - 1) (by omega) (by omega) (by omega) (b_MC_decisionAt (by omega) hi hb) (by intro z hz; cases hz) ⟨rfl, rfl, rfl⟩
set_option maxRecDepth 100000 in
theorem b_MC_vector {d : Nat} (hd : 9 ≤ d) {w : Int} (hw : inR w) {w2 : Int} (hw2 : inR w2) {i : Int} (hi : inR i) (hb : ¬ (0 ≤ i ∧ i < mI μ 0 10))  : AM G false d 3 18 y_MC_vector [aP 0, aI i, aI w, aI w2] 94 μ (Qt 2 94 μ) := by
  refine am_of (n := 1) pf_MC_vector (Nat.le_of_ble_eq_true rfl) (by intro v hv; simp only [List.mem_cons, List.not_mem_nil, or_false] at hv; rcases hv with rfl | rfl | rfl | rfl <;> first | trivial | assumption) rfl ?_
  refine aw_aload_n d_MC_vector_0 rfl rfl ?_
  refine aw_iload_n d_MC_vector_1 rfl rfl ?_
  refine aw_iload_n d_MC_vector_2 rfl rfl ?_
  exact aw_vt (as := [_, _]) rfl cv_MC_160 (by omega) rfl rfl d_MC_vector_3 (Nat.le_of_ble_eq_true rfl) (d' := d - 1) (by omega) (by omega) (by omega) (b_MC_decisionWithWord (by omega) hw hi hb) (by intro z hz; cases hz) ⟨rfl, rfl, rfl⟩
set_option maxRecDepth 100000 in
theorem b_MC_outcome {d : Nat} (hd : 9 ≤ d) {w : Int} (hw : inR w) {i : Int} (hi : inR i) (hb : ¬ (0 ≤ i ∧ i < mI μ 0 10))  : AM G false d 3 18 y_MC_outcome [aP 0, aI i, aI w] 94 μ (Qt 2 94 μ) := by
  refine am_of (n := 0) pf_MC_outcome (Nat.le_of_ble_eq_true rfl) (by intro v hv; simp only [List.mem_cons, List.not_mem_nil, or_false] at hv; rcases hv with rfl | rfl | rfl <;> first | trivial | assumption) rfl ?_
  refine aw_aload_n d_MC_outcome_0 rfl rfl ?_
  refine aw_iload_n d_MC_outcome_1 rfl rfl ?_
  refine aw_iload_n d_MC_outcome_2 rfl rfl ?_
  exact aw_vt (as := [_, _]) rfl cv_MC_160 (by omega) rfl rfl d_MC_outcome_3 (Nat.le_of_ble_eq_true rfl) (d' := d - 1) (by omega) (by omega) (by omega) (b_MC_decisionWithWord (by omega) hw hi hb) (by intro z hz; cases hz) ⟨rfl, rfl, rfl⟩
set_option maxRecDepth 100000 in
theorem b_MC_evaluated {d : Nat} (hd : 9 ≤ d) {w : Int} (hw : inR w) {w2 : Int} (hw2 : inR w2) {i : Int} (hi : inR i) (hb : ¬ (0 ≤ i ∧ i < mI μ 0 10))  : AM G false d 3 18 y_MC_evaluated [aP 0, aI i, aI w, aI w2] 94 μ (Qt 2 94 μ) := by
  refine am_of (n := 1) pf_MC_evaluated (Nat.le_of_ble_eq_true rfl) (by intro v hv; simp only [List.mem_cons, List.not_mem_nil, or_false] at hv; rcases hv with rfl | rfl | rfl | rfl <;> first | trivial | assumption) rfl ?_
  refine aw_aload_n d_MC_evaluated_0 rfl rfl ?_
  refine aw_iload_n d_MC_evaluated_1 rfl rfl ?_
  refine aw_iload_n d_MC_evaluated_2 rfl rfl ?_
  exact aw_vt (as := [_, _]) rfl cv_MC_160 (by omega) rfl rfl d_MC_evaluated_3 (Nat.le_of_ble_eq_true rfl) (d' := d - 1) (by omega) (by omega) (by omega) (b_MC_decisionWithWord (by omega) hw hi hb) (by intro z hz; cases hz) ⟨rfl, rfl, rfl⟩
set_option maxRecDepth 100000 in
theorem b_MC_solve {d : Nat} (hd : 8 ≤ d) {w : Int} (hw : inR w) {w2 : Int} (hw2 : inR w2) {i : Int} (hi : inR i) (hb : ¬ (0 ≤ i ∧ i < mI μ 0 10))  : AM G false d 3 18 y_MC_solve [aP 0, aI i, aI w, aI w2] 94 μ (Qt 2 94 μ) := by
  refine am_of (n := 1) pf_MC_solve (Nat.le_of_ble_eq_true rfl) (by intro v hv; simp only [List.mem_cons, List.not_mem_nil, or_false] at hv; rcases hv with rfl | rfl | rfl | rfl <;> first | trivial | assumption) rfl ?_
  refine aw_aload_n d_MC_solve_0 rfl rfl ?_
  refine aw_iload_n d_MC_solve_1 rfl rfl ?_
  exact aw_vt (as := [_]) rfl cv_MC_140 (by omega) rfl rfl d_MC_solve_2 (Nat.le_of_ble_eq_true rfl) (d' := d - 1) (by omega) (by omega) (by omega) (b_MC_decisionAt (by omega) hi hb) (by intro z hz; cases hz) ⟨rfl, rfl, rfl⟩
set_option maxRecDepth 100000 in
theorem b_MC_suite {d : Nat} (hd : 8 ≤ d) {w : Int} (hw : inR w) {i : Int} (hi : inR i) (hb : ¬ (0 ≤ i ∧ i < mI μ 0 10))  : AM G false d 3 18 y_MC_suite [aP 0, aI i, aI w] 94 μ (Qt 2 94 μ) := by
  refine am_of (n := 1) pf_MC_suite (Nat.le_of_ble_eq_true rfl) (by intro v hv; simp only [List.mem_cons, List.not_mem_nil, or_false] at hv; rcases hv with rfl | rfl | rfl <;> first | trivial | assumption) rfl ?_
  refine aw_aload_n d_MC_suite_0 rfl rfl ?_
  refine aw_iload_n d_MC_suite_1 rfl rfl ?_
  exact aw_vt (as := [_]) rfl cv_MC_140 (by omega) rfl rfl d_MC_suite_2 (Nat.le_of_ble_eq_true rfl) (d' := d - 1) (by omega) (by omega) (by omega) (b_MC_decisionAt (by omega) hi hb) (by intro z hz; cases hz) ⟨rfl, rfl, rfl⟩
set_option maxRecDepth 100000 in
theorem b_MC_least {d : Nat} (hd : 8 ≤ d) {w : Int} (hw : inR w) {i : Int} (hi : inR i) (hb : ¬ (0 ≤ i ∧ i < mI μ 0 10))  : AM G false d 3 18 y_MC_least [aP 0, aI i, aI w] 94 μ (Qt 2 94 μ) := by
  refine am_of (n := 1) pf_MC_least (Nat.le_of_ble_eq_true rfl) (by intro v hv; simp only [List.mem_cons, List.not_mem_nil, or_false] at hv; rcases hv with rfl | rfl | rfl <;> first | trivial | assumption) rfl ?_
  refine aw_aload_n d_MC_least_0 rfl rfl ?_
  refine aw_iload_n d_MC_least_1 rfl rfl ?_
  exact aw_vt (as := [_]) rfl cv_MC_140 (by omega) rfl rfl d_MC_least_2 (Nat.le_of_ble_eq_true rfl) (d' := d - 1) (by omega) (by omega) (by omega) (b_MC_decisionAt (by omega) hi hb) (by intro z hz; cases hz) ⟨rfl, rfl, rfl⟩
set_option maxRecDepth 100000 in
theorem b_MC_covered {d : Nat} (hd : 8 ≤ d) {w : Int} (hw : inR w) {w2 : Int} (hw2 : inR w2) {i : Int} (hi : inR i) (hb : ¬ (0 ≤ i ∧ i < mI μ 0 10))  : AM G false d 3 18 y_MC_covered [aP 0, aI i, aI w, aI w2] 94 μ (Qt 2 94 μ) := by
  refine am_of (n := 1) pf_MC_covered (Nat.le_of_ble_eq_true rfl) (by intro v hv; simp only [List.mem_cons, List.not_mem_nil, or_false] at hv; rcases hv with rfl | rfl | rfl | rfl <;> first | trivial | assumption) rfl ?_
  refine aw_aload_n d_MC_covered_0 rfl rfl ?_
  refine aw_iload_n d_MC_covered_1 rfl rfl ?_
  exact aw_vt (as := [_]) rfl cv_MC_140 (by omega) rfl rfl d_MC_covered_2 (Nat.le_of_ble_eq_true rfl) (d' := d - 1) (by omega) (by omega) (by omega) (b_MC_decisionAt (by omega) hi hb) (by intro z hz; cases hz) ⟨rfl, rfl, rfl⟩
set_option maxRecDepth 100000 in
theorem b_MC_missing {d : Nat} (hd : 8 ≤ d) {w : Int} (hw : inR w) {i : Int} (hi : inR i) (hb : ¬ (0 ≤ i ∧ i < mI μ 0 10))  : AM G false d 3 18 y_MC_missing [aP 0, aI i, aI w] 94 μ (Qt 2 94 μ) := by
  refine am_of (n := 4) pf_MC_missing (Nat.le_of_ble_eq_true rfl) (by intro v hv; simp only [List.mem_cons, List.not_mem_nil, or_false] at hv; rcases hv with rfl | rfl | rfl <;> first | trivial | assumption) rfl ?_
  refine aw_aload_n d_MC_missing_0 rfl rfl ?_
  refine aw_iload_n d_MC_missing_1 rfl rfl ?_
  exact aw_vt (as := [_]) rfl cv_MC_140 (by omega) rfl rfl d_MC_missing_2 (Nat.le_of_ble_eq_true rfl) (d' := d - 1) (by omega) (by omega) (by omega) (b_MC_decisionAt (by omega) hi hb) (by intro z hz; cases hz) ⟨rfl, rfl, rfl⟩
set_option maxRecDepth 100000 in
theorem b_MC_decision {d : Nat} (hd : 7 ≤ d) {i : Int} (hi : inR i) (hb : mI μ 0 10 = 4 ∨ mI μ 4 4 = 0) (hR : ∀ k j, mR μ k j = R0 pg k j) : AM G false d 3 18 y_MC_decision [aP 0, aI i] 94 μ (Qt 0 94 μ) := by
  refine am_of (n := 2) pf_MC_decision (Nat.le_of_ble_eq_true rfl) (by intro v hv; simp only [List.mem_cons, List.not_mem_nil, or_false] at hv; rcases hv with rfl | rfl <;> first | trivial | assumption) rfl ?_
  refine aw_aload_n d_MC_decision_0 rfl rfl ?_
  refine aw_getI fd_MC_decisionCount lk_MC_85 (by omega) rfl d_MC_decision_1 ?_
  refine aw_iconst d_MC_decision_4 (in_c rfl) ?_
  refine aw_icmp_eq (tgt := 18) d_MC_decision_5 rfl (fun h5 => ?_) (fun h5 => ?_)
  · exact aw_throw thr_0 d_MC_decision_18 d_MC_decision_21 d_MC_decision_22 d_MC_decision_25 (by intro z hz; cases hz) (by omega) (by omega) (by omega) (Nat.le_of_ble_eq_true rfl) ⟨rfl, rfl, rfl⟩
  · refine aw_aload_n d_MC_decision_8 rfl rfl ?_
    refine aw_getR fd_MC_conditions lk_MC_19 (by omega) rfl d_MC_decision_9 (hR _ _) ?_
    refine aw_ve (as := []) rfl cv_MC_96 (by omega) rfl rfl d_MC_decision_12 (Nat.le_of_ble_eq_true rfl) (d' := d - 1) (by omega) (m_Co_size (by omega)) ?_
    refine aw_if_ne (tgt := 26) d_MC_decision_15 rfl (fun h15 => absurd h15 (by omega)) (fun h15 => ?_)
    exact aw_throw thr_0 d_MC_decision_18 d_MC_decision_21 d_MC_decision_22 d_MC_decision_25 (by intro z hz; cases hz) (by omega) (by omega) (by omega) (Nat.le_of_ble_eq_true rfl) ⟨rfl, rfl, rfl⟩
set_option maxRecDepth 100000 in
theorem b_MC_keep {d : Nat} (hd : 7 ≤ d) {w : Int} (hw : inR w) {w2 : Int} (hw2 : inR w2) {i : Int} (hi : inR i) (hb : mI μ 63 1 = 12 ∨ mI μ 4 4 = 0) (hR : ∀ k j, mR μ k j = R0 pg k j) : AM G false d 3 18 y_MC_keep [aP 0, aI i, aI w, aI w2] 94 μ (Qt 0 94 μ) := by
  refine am_of (n := 0) pf_MC_keep (Nat.le_of_ble_eq_true rfl) (by intro v hv; simp only [List.mem_cons, List.not_mem_nil, or_false] at hv; rcases hv with rfl | rfl | rfl | rfl <;> first | trivial | assumption) rfl ?_
  refine aw_aload_n d_MC_keep_0 rfl rfl ?_
  refine aw_getR fd_MC_records lk_MC_81 (by omega) rfl d_MC_keep_1 (hR _ _) ?_
  refine aw_ve (as := []) rfl cv_MC_199 (by omega) rfl rfl d_MC_keep_4 (Nat.le_of_ble_eq_true rfl) (d' := d - 1) (by omega) (m_Rc_isFull (by omega)) ?_
  refine aw_if_ne (tgt := 20) d_MC_keep_7 rfl (fun h7 => ?_) (fun h7 => ?_)
  · exact aw_throw thr_0 d_MC_keep_20 d_MC_keep_23 d_MC_keep_24 d_MC_keep_27 (by intro z hz; cases hz) (by omega) (by omega) (by omega) (Nat.le_of_ble_eq_true rfl) ⟨rfl, rfl, rfl⟩
  · refine aw_aload_n d_MC_keep_10 rfl rfl ?_
    refine aw_getR fd_MC_conditions lk_MC_19 (by omega) rfl d_MC_keep_11 (hR _ _) ?_
    refine aw_ve (as := []) rfl cv_MC_96 (by omega) rfl rfl d_MC_keep_14 (Nat.le_of_ble_eq_true rfl) (d' := d - 1) (by omega) (m_Co_size (by omega)) ?_
    refine aw_if_ne (tgt := 28) d_MC_keep_17 rfl (fun h17 => absurd h17 (by omega)) (fun h17 => ?_)
    exact aw_throw thr_0 d_MC_keep_20 d_MC_keep_23 d_MC_keep_24 d_MC_keep_27 (by intro z hz; cases hz) (by omega) (by omega) (by omega) (Nat.le_of_ble_eq_true rfl) ⟨rfl, rfl, rfl⟩
end
