/-! the reference: refusals -/
section
variable {G : aG} {pg : Nat} {μ : aM}
set_option maxRecDepth 100000 in
theorem b_Mo_conditions {d : Nat} (hd : 2 ≤ d) {i : Int} (hi : inR i) (hb : ¬ (0 ≤ i ∧ i < mI μ 67 11))  : AM G false d 0 0 y_Mo_conditions [aP 67, aI i] 94 μ (Qe (some (aI 0)) 94 (wI μ 67 0 1)) := by
  refine am_of (n := 0) pf_Mo_conditions (Nat.le_of_ble_eq_true rfl) (by intro v hv; simp only [List.mem_cons, List.not_mem_nil, or_false] at hv; rcases hv with rfl | rfl <;> first | trivial | assumption | exact in_c rfl) rfl ?_
  refine aw_aload_n d_Mo_conditions_0 rfl rfl ?_
  refine aw_aload_n d_Mo_conditions_1 rfl rfl ?_
  refine aw_iload_n d_Mo_conditions_2 rfl rfl ?_
  refine aw_ve (as := [_]) rfl cv_Mo_159 (by omega) rfl rfl d_Mo_conditions_3 (Nat.le_of_ble_eq_true rfl) (d' := d - 1) (by omega) (b_Mo_isDecision (by omega) hi hb) ?_
  refine aw_if_ne (tgt := 13) d_Mo_conditions_6 rfl (fun h6 => absurd h6 (by omega)) (fun h6 => ?_)
  refine aw_iconst d_Mo_conditions_9 (in_c rfl) ?_
  refine aw_goto (tgt := 14) d_Mo_conditions_10 rfl ?_
  refine aw_iconst d_Mo_conditions_14 (in_c rfl) ?_
  refine aw_ve (as := [_, _]) rfl cv_Mo_96 (by omega) rfl rfl d_Mo_conditions_15 (Nat.le_of_ble_eq_true rfl) (d' := d - 1) (by omega) (m_Mo_refused_1 (by omega) (in_c rfl)) ?_
  refine aw_if_eq (tgt := 25) d_Mo_conditions_18 rfl (fun h18 => absurd h18 (by omega)) (fun h18 => ?_)
  refine aw_iconst d_Mo_conditions_21 (in_c rfl) ?_
  refine aw_pc (pc' := 22) rfl ?_
  refine aw_goto (tgt := 31) d_Mo_conditions_22 rfl ?_
  exact aw_iret d_Mo_conditions_31 rfl ⟨rfl, rfl, rfl⟩
set_option maxRecDepth 100000 in
theorem b_Mo_show {d : Nat} (hd : 2 ≤ d) {i : Int} (hi : inR i) (hb : ¬ (0 ≤ i ∧ i < mI μ 67 11))  : AM G false d 0 0 y_Mo_show [aP 67, aI i] 94 μ (Qe (some (aI 0)) 94 (wI μ 67 0 1)) := by
  refine am_of (n := 5) pf_Mo_show (Nat.le_of_ble_eq_true rfl) (by intro v hv; simp only [List.mem_cons, List.not_mem_nil, or_false] at hv; rcases hv with rfl | rfl <;> first | trivial | assumption | exact in_c rfl) rfl ?_
  refine aw_aload_n d_Mo_show_0 rfl rfl ?_
  refine aw_aload_n d_Mo_show_1 rfl rfl ?_
  refine aw_iload_n d_Mo_show_2 rfl rfl ?_
  refine aw_ve (as := [_]) rfl cv_Mo_159 (by omega) rfl rfl d_Mo_show_3 (Nat.le_of_ble_eq_true rfl) (d' := d - 1) (by omega) (b_Mo_isDecision (by omega) hi hb) ?_
  refine aw_if_ne (tgt := 13) d_Mo_show_6 rfl (fun h6 => absurd h6 (by omega)) (fun h6 => ?_)
  refine aw_iconst d_Mo_show_9 (in_c rfl) ?_
  refine aw_goto (tgt := 14) d_Mo_show_10 rfl ?_
  refine aw_iconst d_Mo_show_14 (in_c rfl) ?_
  refine aw_ve (as := [_, _]) rfl cv_Mo_96 (by omega) rfl rfl d_Mo_show_15 (Nat.le_of_ble_eq_true rfl) (d' := d - 1) (by omega) (m_Mo_refused_1 (by omega) (in_c rfl)) ?_
  refine aw_if_eq (tgt := 23) d_Mo_show_18 rfl (fun h18 => absurd h18 (by omega)) (fun h18 => ?_)
  refine aw_iconst d_Mo_show_21 (in_c rfl) ?_
  refine aw_pc (pc' := 22) rfl ?_
  exact aw_iret d_Mo_show_22 rfl ⟨rfl, rfl, rfl⟩
set_option maxRecDepth 100000 in
theorem b_Mo_feasible {d : Nat} (hd : 2 ≤ d) {i : Int} (hi : inR i) (hb : ¬ (0 ≤ i ∧ i < mI μ 67 11))  : AM G false d 0 0 y_Mo_feasible [aP 67, aI i] 94 μ (Qe (some (aI 0)) 94 (wI μ 67 0 1)) := by
  refine am_of (n := 2) pf_Mo_feasible (Nat.le_of_ble_eq_true rfl) (by intro v hv; simp only [List.mem_cons, List.not_mem_nil, or_false] at hv; rcases hv with rfl | rfl <;> first | trivial | assumption | exact in_c rfl) rfl ?_
  refine aw_aload_n d_Mo_feasible_0 rfl rfl ?_
  refine aw_aload_n d_Mo_feasible_1 rfl rfl ?_
  refine aw_iload_n d_Mo_feasible_2 rfl rfl ?_
  refine aw_ve (as := [_]) rfl cv_Mo_159 (by omega) rfl rfl d_Mo_feasible_3 (Nat.le_of_ble_eq_true rfl) (d' := d - 1) (by omega) (b_Mo_isDecision (by omega) hi hb) ?_
  refine aw_if_ne (tgt := 13) d_Mo_feasible_6 rfl (fun h6 => absurd h6 (by omega)) (fun h6 => ?_)
  refine aw_iconst d_Mo_feasible_9 (in_c rfl) ?_
  refine aw_goto (tgt := 14) d_Mo_feasible_10 rfl ?_
  refine aw_iconst d_Mo_feasible_14 (in_c rfl) ?_
  refine aw_ve (as := [_, _]) rfl cv_Mo_96 (by omega) rfl rfl d_Mo_feasible_15 (Nat.le_of_ble_eq_true rfl) (d' := d - 1) (by omega) (m_Mo_refused_1 (by omega) (in_c rfl)) ?_
  refine aw_if_eq (tgt := 23) d_Mo_feasible_18 rfl (fun h18 => absurd h18 (by omega)) (fun h18 => ?_)
  refine aw_iconst d_Mo_feasible_21 (in_c rfl) ?_
  refine aw_pc (pc' := 22) rfl ?_
  exact aw_iret d_Mo_feasible_22 rfl ⟨rfl, rfl, rfl⟩
set_option maxRecDepth 100000 in
theorem b_Mo_vector {d : Nat} (hd : 2 ≤ d) {w : Int} (hw : inR w) {w2 : Int} (hw2 : inR w2) {i : Int} (hi : inR i) (hb : ¬ (0 ≤ i ∧ i < mI μ 67 11))  : AM G false d 0 0 y_Mo_vector [aP 67, aI i, aI w, aI w2] 94 μ (Qe (some (aI 0)) 94 (wI μ 67 0 1)) := by
  refine am_of (n := 1) pf_Mo_vector (Nat.le_of_ble_eq_true rfl) (by intro v hv; simp only [List.mem_cons, List.not_mem_nil, or_false] at hv; rcases hv with rfl | rfl | rfl | rfl <;> first | trivial | assumption | exact in_c rfl) rfl ?_
  refine aw_aload_n d_Mo_vector_0 rfl rfl ?_
  refine aw_iload_n d_Mo_vector_1 rfl rfl ?_
  refine aw_iload_n d_Mo_vector_2 rfl rfl ?_
  refine aw_ve (as := [_, _]) rfl cv_Mo_174 (by omega) rfl rfl d_Mo_vector_3 (Nat.le_of_ble_eq_true rfl) (d' := d - 1) (by omega) (b_Mo_isWord (by omega) hi hb (by assumption)) ?_
  refine aw_if_eq (tgt := 25) d_Mo_vector_6 rfl (fun h6 => ?_) (fun h6 => absurd (by omega) h6)
  refine aw_iconst d_Mo_vector_25 (in_c rfl) ?_
  refine aw_istore (lst' := [_, _, _, _, _]) d_Mo_vector_26 (Nat.le_of_ble_eq_true rfl) rfl ?_
  refine aw_aload_n d_Mo_vector_28 rfl rfl ?_
  refine aw_iload d_Mo_vector_29 rfl ?_
  refine aw_if_ne (tgt := 38) d_Mo_vector_31 rfl (fun h31 => absurd h31 (by omega)) (fun h31 => ?_)
  refine aw_iconst d_Mo_vector_34 (in_c rfl) ?_
  refine aw_pc (pc' := 35) rfl ?_
  refine aw_goto (tgt := 39) d_Mo_vector_35 rfl ?_
  refine aw_iload d_Mo_vector_39 rfl ?_
  refine aw_if_eq (tgt := 62) d_Mo_vector_41 rfl (fun h41 => ?_) (fun h41 => absurd (by omega) h41)
  refine aw_iconst d_Mo_vector_62 (in_c rfl) ?_
  refine aw_ve (as := [_, _]) rfl cv_Mo_96 (by omega) rfl rfl d_Mo_vector_63 (Nat.le_of_ble_eq_true rfl) (d' := d - 1) (by omega) (m_Mo_refused_1 (by omega) (in_c rfl)) ?_
  refine aw_if_eq (tgt := 71) d_Mo_vector_66 rfl (fun h66 => absurd h66 (by omega)) (fun h66 => ?_)
  refine aw_iconst d_Mo_vector_69 (in_c rfl) ?_
  exact aw_iret d_Mo_vector_70 rfl ⟨rfl, rfl, rfl⟩
set_option maxRecDepth 100000 in
theorem b_Mo_outcome {d : Nat} (hd : 2 ≤ d) {w : Int} (hw : inR w) {i : Int} (hi : inR i) (hb : ¬ (0 ≤ i ∧ i < mI μ 67 11))  : AM G false d 0 0 y_Mo_outcome [aP 67, aI i, aI w] 94 μ (Qe (some (aI 0)) 94 (wI μ 67 0 1)) := by
  refine am_of (n := 0) pf_Mo_outcome (Nat.le_of_ble_eq_true rfl) (by intro v hv; simp only [List.mem_cons, List.not_mem_nil, or_false] at hv; rcases hv with rfl | rfl | rfl <;> first | trivial | assumption | exact in_c rfl) rfl ?_
  refine aw_aload_n d_Mo_outcome_0 rfl rfl ?_
  refine aw_aload_n d_Mo_outcome_1 rfl rfl ?_
  refine aw_iload_n d_Mo_outcome_2 rfl rfl ?_
  refine aw_iload_n d_Mo_outcome_3 rfl rfl ?_
  refine aw_ve (as := [_, _]) rfl cv_Mo_174 (by omega) rfl rfl d_Mo_outcome_4 (Nat.le_of_ble_eq_true rfl) (d' := d - 1) (by omega) (b_Mo_isWord (by omega) hi hb (by assumption)) ?_
  refine aw_if_ne (tgt := 14) d_Mo_outcome_7 rfl (fun h7 => absurd h7 (by omega)) (fun h7 => ?_)
  refine aw_iconst d_Mo_outcome_10 (in_c rfl) ?_
  refine aw_goto (tgt := 15) d_Mo_outcome_11 rfl ?_
  refine aw_iconst d_Mo_outcome_15 (in_c rfl) ?_
  refine aw_ve (as := [_, _]) rfl cv_Mo_96 (by omega) rfl rfl d_Mo_outcome_16 (Nat.le_of_ble_eq_true rfl) (d' := d - 1) (by omega) (m_Mo_refused_1 (by omega) (in_c rfl)) ?_
  refine aw_if_ne (tgt := 40) d_Mo_outcome_19 rfl (fun h19 => ?_) (fun h19 => absurd h19 (by omega))
  refine aw_pc (pc' := 40) rfl ?_
  refine aw_iconst d_Mo_outcome_40 (in_c rfl) ?_
  exact aw_zret d_Mo_outcome_41 rfl rfl ⟨rfl, rfl, rfl⟩
set_option maxRecDepth 100000 in
theorem b_Mo_evaluated {d : Nat} (hd : 2 ≤ d) {w : Int} (hw : inR w) {w2 : Int} (hw2 : inR w2) {i : Int} (hi : inR i) (hb : ¬ (0 ≤ i ∧ i < mI μ 67 11))  : AM G false d 0 0 y_Mo_evaluated [aP 67, aI i, aI w, aI w2] 94 μ (Qe (some (aI 0)) 94 (wI μ 67 0 1)) := by
  refine am_of (n := 0) pf_Mo_evaluated (Nat.le_of_ble_eq_true rfl) (by intro v hv; simp only [List.mem_cons, List.not_mem_nil, or_false] at hv; rcases hv with rfl | rfl | rfl | rfl <;> first | trivial | assumption | exact in_c rfl) rfl ?_
  refine aw_aload_n d_Mo_evaluated_0 rfl rfl ?_
  refine aw_aload_n d_Mo_evaluated_1 rfl rfl ?_
  refine aw_iload_n d_Mo_evaluated_2 rfl rfl ?_
  refine aw_iload_n d_Mo_evaluated_3 rfl rfl ?_
  refine aw_ve (as := [_, _]) rfl cv_Mo_174 (by omega) rfl rfl d_Mo_evaluated_4 (Nat.le_of_ble_eq_true rfl) (d' := d - 1) (by omega) (b_Mo_isWord (by omega) hi hb (by assumption)) ?_
  refine aw_if_eq (tgt := 19) d_Mo_evaluated_7 rfl (fun h7 => ?_) (fun h7 => absurd (by omega) h7)
  refine aw_iconst d_Mo_evaluated_19 (in_c rfl) ?_
  refine aw_goto (tgt := 24) d_Mo_evaluated_20 rfl ?_
  refine aw_iconst d_Mo_evaluated_24 (in_c rfl) ?_
  refine aw_ve (as := [_, _]) rfl cv_Mo_96 (by omega) rfl rfl d_Mo_evaluated_25 (Nat.le_of_ble_eq_true rfl) (d' := d - 1) (by omega) (m_Mo_refused_1 (by omega) (in_c rfl)) ?_
  refine aw_if_ne (tgt := 53) d_Mo_evaluated_28 rfl (fun h28 => ?_) (fun h28 => absurd h28 (by omega))
  refine aw_pc (pc' := 53) rfl ?_
  refine aw_iconst d_Mo_evaluated_53 (in_c rfl) ?_
  exact aw_zret d_Mo_evaluated_54 rfl rfl ⟨rfl, rfl, rfl⟩
set_option maxRecDepth 100000 in
theorem b_Mo_solve {d : Nat} (hd : 2 ≤ d) {w : Int} (hw : inR w) {w2 : Int} (hw2 : inR w2) {i : Int} (hi : inR i) (hb : ¬ (0 ≤ i ∧ i < mI μ 67 11))  : AM G false d 0 0 y_Mo_solve [aP 67, aI i, aI w, aI w2] 94 μ (Qe (some (aI 0)) 94 (wI μ 67 0 1)) := by
  refine am_of (n := 0) pf_Mo_solve (Nat.le_of_ble_eq_true rfl) (by intro v hv; simp only [List.mem_cons, List.not_mem_nil, or_false] at hv; rcases hv with rfl | rfl | rfl | rfl <;> first | trivial | assumption | exact in_c rfl) rfl ?_
  refine aw_aload_n d_Mo_solve_0 rfl rfl ?_
  refine aw_aload_n d_Mo_solve_1 rfl rfl ?_
  refine aw_iload_n d_Mo_solve_2 rfl rfl ?_
  refine aw_iload_n d_Mo_solve_3 rfl rfl ?_
  refine aw_ve (as := [_, _]) rfl cv_Mo_177 (by omega) rfl rfl d_Mo_solve_4 (Nat.le_of_ble_eq_true rfl) (d' := d - 1) (by omega) (b_Mo_isCondition (by omega) hi hb (by assumption)) ?_
  refine aw_if_ne (tgt := 14) d_Mo_solve_7 rfl (fun h7 => absurd h7 (by omega)) (fun h7 => ?_)
  refine aw_iconst d_Mo_solve_10 (in_c rfl) ?_
  refine aw_goto (tgt := 15) d_Mo_solve_11 rfl ?_
  refine aw_iload_n d_Mo_solve_15 rfl rfl ?_
  refine aw_se (as := [_]) rfl cs_Mo_191 d_Mo_solve_16 (Nat.le_of_ble_eq_true rfl) (d' := d - 1) (by omega) (m_Mo_isCriterion (by omega) (by assumption)) ?_
  refine aw_if_ne (tgt := 26) d_Mo_solve_19 rfl (fun h19 => ?_) (fun h19 => ?_)
  · refine aw_iconst d_Mo_solve_26 (in_c rfl) ?_
    refine aw_ve (as := [_, _]) rfl cv_Mo_96 (by omega) rfl rfl d_Mo_solve_27 (Nat.le_of_ble_eq_true rfl) (d' := d - 1) (by omega) (m_Mo_refused_1 (by omega) (in_c rfl)) ?_
    refine aw_if_eq (tgt := 37) d_Mo_solve_30 rfl (fun h30 => absurd h30 (by omega)) (fun h30 => ?_)
    refine aw_iconst d_Mo_solve_33 (in_c rfl) ?_
    refine aw_goto (tgt := 44) d_Mo_solve_34 rfl ?_
    exact aw_iret d_Mo_solve_44 rfl ⟨rfl, rfl, rfl⟩
  · refine aw_iconst d_Mo_solve_22 (in_c rfl) ?_
    refine aw_goto (tgt := 27) d_Mo_solve_23 rfl ?_
    refine aw_ve (as := [_, _]) rfl cv_Mo_96 (by omega) rfl rfl d_Mo_solve_27 (Nat.le_of_ble_eq_true rfl) (d' := d - 1) (by omega) (m_Mo_refused_1 (by omega) (in_c rfl)) ?_
    refine aw_if_eq (tgt := 37) d_Mo_solve_30 rfl (fun h30 => absurd h30 (by omega)) (fun h30 => ?_)
    refine aw_iconst d_Mo_solve_33 (in_c rfl) ?_
    refine aw_goto (tgt := 44) d_Mo_solve_34 rfl ?_
    exact aw_iret d_Mo_solve_44 rfl ⟨rfl, rfl, rfl⟩
set_option maxRecDepth 100000 in
theorem b_Mo_suite {d : Nat} (hd : 2 ≤ d) {w : Int} (hw : inR w) {i : Int} (hi : inR i) (hb : ¬ (0 ≤ i ∧ i < mI μ 67 11))  : AM G false d 0 0 y_Mo_suite [aP 67, aI i, aI w] 94 μ (Qe (some (aI 0)) 94 (wI μ 67 0 1)) := by
  refine am_of (n := 2) pf_Mo_suite (Nat.le_of_ble_eq_true rfl) (by intro v hv; simp only [List.mem_cons, List.not_mem_nil, or_false] at hv; rcases hv with rfl | rfl | rfl <;> first | trivial | assumption | exact in_c rfl) rfl ?_
  refine aw_aload_n d_Mo_suite_0 rfl rfl ?_
  refine aw_aload_n d_Mo_suite_1 rfl rfl ?_
  refine aw_iload_n d_Mo_suite_2 rfl rfl ?_
  refine aw_ve (as := [_]) rfl cv_Mo_159 (by omega) rfl rfl d_Mo_suite_3 (Nat.le_of_ble_eq_true rfl) (d' := d - 1) (by omega) (b_Mo_isDecision (by omega) hi hb) ?_
  refine aw_if_ne (tgt := 13) d_Mo_suite_6 rfl (fun h6 => absurd h6 (by omega)) (fun h6 => ?_)
  refine aw_iconst d_Mo_suite_9 (in_c rfl) ?_
  refine aw_goto (tgt := 14) d_Mo_suite_10 rfl ?_
  refine aw_iload_n d_Mo_suite_14 rfl rfl ?_
  refine aw_se (as := [_]) rfl cs_Mo_191 d_Mo_suite_15 (Nat.le_of_ble_eq_true rfl) (d' := d - 1) (by omega) (m_Mo_isCriterion (by omega) (by assumption)) ?_
  refine aw_if_ne (tgt := 25) d_Mo_suite_18 rfl (fun h18 => ?_) (fun h18 => ?_)
  · refine aw_iconst d_Mo_suite_25 (in_c rfl) ?_
    refine aw_ve (as := [_, _]) rfl cv_Mo_96 (by omega) rfl rfl d_Mo_suite_26 (Nat.le_of_ble_eq_true rfl) (d' := d - 1) (by omega) (m_Mo_refused_1 (by omega) (in_c rfl)) ?_
    refine aw_if_eq (tgt := 34) d_Mo_suite_29 rfl (fun h29 => absurd h29 (by omega)) (fun h29 => ?_)
    refine aw_iconst d_Mo_suite_32 (in_c rfl) ?_
    exact aw_iret d_Mo_suite_33 rfl ⟨rfl, rfl, rfl⟩
  · refine aw_iconst d_Mo_suite_21 (in_c rfl) ?_
    refine aw_goto (tgt := 26) d_Mo_suite_22 rfl ?_
    refine aw_ve (as := [_, _]) rfl cv_Mo_96 (by omega) rfl rfl d_Mo_suite_26 (Nat.le_of_ble_eq_true rfl) (d' := d - 1) (by omega) (m_Mo_refused_1 (by omega) (in_c rfl)) ?_
    refine aw_if_eq (tgt := 34) d_Mo_suite_29 rfl (fun h29 => absurd h29 (by omega)) (fun h29 => ?_)
    refine aw_iconst d_Mo_suite_32 (in_c rfl) ?_
    exact aw_iret d_Mo_suite_33 rfl ⟨rfl, rfl, rfl⟩
set_option maxRecDepth 100000 in
theorem b_Mo_least {d : Nat} (hd : 2 ≤ d) {w : Int} (hw : inR w) {i : Int} (hi : inR i) (hb : ¬ (0 ≤ i ∧ i < mI μ 67 11))  : AM G false d 0 0 y_Mo_least [aP 67, aI i, aI w] 94 μ (Qe (some (aI 0)) 94 (wI μ 67 0 1)) := by
  refine am_of (n := 4) pf_Mo_least (Nat.le_of_ble_eq_true rfl) (by intro v hv; simp only [List.mem_cons, List.not_mem_nil, or_false] at hv; rcases hv with rfl | rfl | rfl <;> first | trivial | assumption | exact in_c rfl) rfl ?_
  refine aw_aload_n d_Mo_least_0 rfl rfl ?_
  refine aw_aload_n d_Mo_least_1 rfl rfl ?_
  refine aw_iload_n d_Mo_least_2 rfl rfl ?_
  refine aw_ve (as := [_]) rfl cv_Mo_159 (by omega) rfl rfl d_Mo_least_3 (Nat.le_of_ble_eq_true rfl) (d' := d - 1) (by omega) (b_Mo_isDecision (by omega) hi hb) ?_
  refine aw_if_ne (tgt := 13) d_Mo_least_6 rfl (fun h6 => absurd h6 (by omega)) (fun h6 => ?_)
  refine aw_iconst d_Mo_least_9 (in_c rfl) ?_
  refine aw_goto (tgt := 14) d_Mo_least_10 rfl ?_
  refine aw_iload_n d_Mo_least_14 rfl rfl ?_
  refine aw_se (as := [_]) rfl cs_Mo_191 d_Mo_least_15 (Nat.le_of_ble_eq_true rfl) (d' := d - 1) (by omega) (m_Mo_isCriterion (by omega) (by assumption)) ?_
  refine aw_if_ne (tgt := 25) d_Mo_least_18 rfl (fun h18 => ?_) (fun h18 => ?_)
  · refine aw_iconst d_Mo_least_25 (in_c rfl) ?_
    refine aw_ve (as := [_, _]) rfl cv_Mo_96 (by omega) rfl rfl d_Mo_least_26 (Nat.le_of_ble_eq_true rfl) (d' := d - 1) (by omega) (m_Mo_refused_1 (by omega) (in_c rfl)) ?_
    refine aw_if_eq (tgt := 34) d_Mo_least_29 rfl (fun h29 => absurd h29 (by omega)) (fun h29 => ?_)
    refine aw_iconst d_Mo_least_32 (in_c rfl) ?_
    exact aw_iret d_Mo_least_33 rfl ⟨rfl, rfl, rfl⟩
  · refine aw_iconst d_Mo_least_21 (in_c rfl) ?_
    refine aw_goto (tgt := 26) d_Mo_least_22 rfl ?_
    refine aw_ve (as := [_, _]) rfl cv_Mo_96 (by omega) rfl rfl d_Mo_least_26 (Nat.le_of_ble_eq_true rfl) (d' := d - 1) (by omega) (m_Mo_refused_1 (by omega) (in_c rfl)) ?_
    refine aw_if_eq (tgt := 34) d_Mo_least_29 rfl (fun h29 => absurd h29 (by omega)) (fun h29 => ?_)
    refine aw_iconst d_Mo_least_32 (in_c rfl) ?_
    exact aw_iret d_Mo_least_33 rfl ⟨rfl, rfl, rfl⟩
set_option maxRecDepth 100000 in
theorem b_Mo_covered {d : Nat} (hd : 2 ≤ d) {w : Int} (hw : inR w) {w2 : Int} (hw2 : inR w2) {i : Int} (hi : inR i) (hb : ¬ (0 ≤ i ∧ i < mI μ 67 11))  : AM G false d 0 0 y_Mo_covered [aP 67, aI i, aI w, aI w2] 94 μ (Qe (some (aI 0)) 94 (wI μ 67 0 1)) := by
  refine am_of (n := 0) pf_Mo_covered (Nat.le_of_ble_eq_true rfl) (by intro v hv; simp only [List.mem_cons, List.not_mem_nil, or_false] at hv; rcases hv with rfl | rfl | rfl | rfl <;> first | trivial | assumption | exact in_c rfl) rfl ?_
  refine aw_aload_n d_Mo_covered_0 rfl rfl ?_
  refine aw_aload_n d_Mo_covered_1 rfl rfl ?_
  refine aw_iload_n d_Mo_covered_2 rfl rfl ?_
  refine aw_iload_n d_Mo_covered_3 rfl rfl ?_
  refine aw_ve (as := [_, _]) rfl cv_Mo_177 (by omega) rfl rfl d_Mo_covered_4 (Nat.le_of_ble_eq_true rfl) (d' := d - 1) (by omega) (b_Mo_isCondition (by omega) hi hb (by assumption)) ?_
  refine aw_if_ne (tgt := 14) d_Mo_covered_7 rfl (fun h7 => absurd h7 (by omega)) (fun h7 => ?_)
  refine aw_iconst d_Mo_covered_10 (in_c rfl) ?_
  refine aw_goto (tgt := 15) d_Mo_covered_11 rfl ?_
  refine aw_iload_n d_Mo_covered_15 rfl rfl ?_
  refine aw_se (as := [_]) rfl cs_Mo_191 d_Mo_covered_16 (Nat.le_of_ble_eq_true rfl) (d' := d - 1) (by omega) (m_Mo_isCriterion (by omega) (by assumption)) ?_
  refine aw_if_ne (tgt := 26) d_Mo_covered_19 rfl (fun h19 => ?_) (fun h19 => ?_)
  · refine aw_iconst d_Mo_covered_26 (in_c rfl) ?_
    refine aw_ve (as := [_, _]) rfl cv_Mo_96 (by omega) rfl rfl d_Mo_covered_27 (Nat.le_of_ble_eq_true rfl) (d' := d - 1) (by omega) (m_Mo_refused_1 (by omega) (in_c rfl)) ?_
    refine aw_if_ne (tgt := 47) d_Mo_covered_30 rfl (fun h30 => ?_) (fun h30 => absurd h30 (by omega))
    refine aw_iconst d_Mo_covered_47 (in_c rfl) ?_
    exact aw_zret d_Mo_covered_48 rfl rfl ⟨rfl, rfl, rfl⟩
  · refine aw_iconst d_Mo_covered_22 (in_c rfl) ?_
    refine aw_goto (tgt := 27) d_Mo_covered_23 rfl ?_
    refine aw_ve (as := [_, _]) rfl cv_Mo_96 (by omega) rfl rfl d_Mo_covered_27 (Nat.le_of_ble_eq_true rfl) (d' := d - 1) (by omega) (m_Mo_refused_1 (by omega) (in_c rfl)) ?_
    refine aw_if_ne (tgt := 47) d_Mo_covered_30 rfl (fun h30 => ?_) (fun h30 => absurd h30 (by omega))
    refine aw_iconst d_Mo_covered_47 (in_c rfl) ?_
    exact aw_zret d_Mo_covered_48 rfl rfl ⟨rfl, rfl, rfl⟩
set_option maxRecDepth 100000 in
theorem b_Mo_missing {d : Nat} (hd : 2 ≤ d) {w : Int} (hw : inR w) {i : Int} (hi : inR i) (hb : ¬ (0 ≤ i ∧ i < mI μ 67 11))  : AM G false d 0 0 y_Mo_missing [aP 67, aI i, aI w] 94 μ (Qe (some (aI 0)) 94 (wI μ 67 0 1)) := by
  refine am_of (n := 2) pf_Mo_missing (Nat.le_of_ble_eq_true rfl) (by intro v hv; simp only [List.mem_cons, List.not_mem_nil, or_false] at hv; rcases hv with rfl | rfl | rfl <;> first | trivial | assumption | exact in_c rfl) rfl ?_
  refine aw_aload_n d_Mo_missing_0 rfl rfl ?_
  refine aw_aload_n d_Mo_missing_1 rfl rfl ?_
  refine aw_iload_n d_Mo_missing_2 rfl rfl ?_
  refine aw_ve (as := [_]) rfl cv_Mo_159 (by omega) rfl rfl d_Mo_missing_3 (Nat.le_of_ble_eq_true rfl) (d' := d - 1) (by omega) (b_Mo_isDecision (by omega) hi hb) ?_
  refine aw_if_ne (tgt := 13) d_Mo_missing_6 rfl (fun h6 => absurd h6 (by omega)) (fun h6 => ?_)
  refine aw_iconst d_Mo_missing_9 (in_c rfl) ?_
  refine aw_goto (tgt := 14) d_Mo_missing_10 rfl ?_
  refine aw_iload_n d_Mo_missing_14 rfl rfl ?_
  refine aw_se (as := [_]) rfl cs_Mo_191 d_Mo_missing_15 (Nat.le_of_ble_eq_true rfl) (d' := d - 1) (by omega) (m_Mo_isCriterion (by omega) (by assumption)) ?_
  refine aw_if_ne (tgt := 25) d_Mo_missing_18 rfl (fun h18 => ?_) (fun h18 => ?_)
  · refine aw_iconst d_Mo_missing_25 (in_c rfl) ?_
    refine aw_ve (as := [_, _]) rfl cv_Mo_96 (by omega) rfl rfl d_Mo_missing_26 (Nat.le_of_ble_eq_true rfl) (d' := d - 1) (by omega) (m_Mo_refused_1 (by omega) (in_c rfl)) ?_
    refine aw_if_eq (tgt := 34) d_Mo_missing_29 rfl (fun h29 => absurd h29 (by omega)) (fun h29 => ?_)
    refine aw_iconst d_Mo_missing_32 (in_c rfl) ?_
    exact aw_iret d_Mo_missing_33 rfl ⟨rfl, rfl, rfl⟩
  · refine aw_iconst d_Mo_missing_21 (in_c rfl) ?_
    refine aw_goto (tgt := 26) d_Mo_missing_22 rfl ?_
    refine aw_ve (as := [_, _]) rfl cv_Mo_96 (by omega) rfl rfl d_Mo_missing_26 (Nat.le_of_ble_eq_true rfl) (d' := d - 1) (by omega) (m_Mo_refused_1 (by omega) (in_c rfl)) ?_
    refine aw_if_eq (tgt := 34) d_Mo_missing_29 rfl (fun h29 => absurd h29 (by omega)) (fun h29 => ?_)
    refine aw_iconst d_Mo_missing_32 (in_c rfl) ?_
    exact aw_iret d_Mo_missing_33 rfl ⟨rfl, rfl, rfl⟩
end
