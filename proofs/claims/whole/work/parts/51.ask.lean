/-! a decision that there is -/
section
variable {G : aG} {pg : Nat} {μ : aM}
set_option maxRecDepth 100000 in
theorem m_MC_decisionAt {d : Nat} (hd : 0 ≤ d) {i : Nat} (hi : (i : Int) < mI μ 0 10) (h4 : mI μ 0 10 ≤ 4) (hR : ∀ k j, mR μ k j = R0 pg k j)  : AM G false d 0 0 y_MC_decisionAt [aP 0, aI (i : Int)] 94 μ (Qe (some (aP (27 + 8 * i))) 94 μ) := by
  refine am_of (n := 0) pf_MC_decisionAt (Nat.le_of_ble_eq_true rfl) (by intro v hv; simp only [List.mem_cons, List.not_mem_nil, or_false] at hv; rcases hv with rfl | rfl <;> first | trivial | assumption | exact in_c rfl | (show inR _; unfold inR; omega)) rfl ?_
  refine aw_iload_n d_MC_decisionAt_0 rfl rfl ?_
  refine aw_if_lt (tgt := 12) d_MC_decisionAt_1 rfl (fun h1 => absurd h1 (by omega)) (fun h1 => ?_)
  refine aw_iload_n d_MC_decisionAt_4 rfl rfl ?_
  refine aw_aload_n d_MC_decisionAt_5 rfl rfl ?_
  refine aw_getI fd_MC_decisionCount lk_MC_85 (by omega) rfl d_MC_decisionAt_6 ?_
  refine aw_icmp_lt (tgt := 20) d_MC_decisionAt_9 rfl (fun h9 => ?_) (fun h9 => absurd (by omega) h9)
  refine aw_aload_n d_MC_decisionAt_20 rfl rfl ?_
  refine aw_getR fd_MC_decisions lk_MC_57 (by omega) rfl d_MC_decisionAt_21 (hR _ _) ?_
  refine aw_iload_n d_MC_decisionAt_24 rfl rfl ?_
  refine aw_aald (n := i) (by omega) rfl rfl (by omega) ((hR _ _).trans (r26 (by omega))) d_MC_decisionAt_25 ?_
  exact aw_aret d_MC_decisionAt_26 rfl (Or.inl ⟨_, rfl⟩) ⟨rfl, rfl, rfl⟩
set_option maxRecDepth 100000 in
theorem m_MC_decisionWithWord {d : Nat} (hd : 7 ≤ d) {i : Nat} (hi : (i : Int) < mI μ 0 10) (h4 : mI μ 0 10 ≤ 4) {k : Nat} (hk : mI μ (27 + 8 * i) 7 = (k : Int)) (h6 : k ≤ 6) (hR : ∀ k j, mR μ k j = R0 pg k j) {w : Int} (hw : inR w) : AM G false d 1 6 y_MC_decisionWithWord [aP 0, aI (i : Int), aI w] 94 μ (fun r n9 m => n9 = 94 ∧ (((0 ≤ w ∧ w < ((2 ^ k : Nat) : Int)) ∧ r = .inl (some (aP (27 + 8 * i))) ∧ m = μ) ∨ (¬ (0 ≤ w ∧ w < ((2 ^ k : Nat) : Int)) ∧ r = .inr 2 ∧ m = μ))) := by
  refine am_of (n := 1) pf_MC_decisionWithWord (Nat.le_of_ble_eq_true rfl) (by intro v hv; simp only [List.mem_cons, List.not_mem_nil, or_false] at hv; rcases hv with rfl | rfl | rfl <;> first | trivial | assumption | exact in_c rfl | (show inR _; unfold inR; omega)) rfl ?_
  have hpw : 2 ^ k ≤ 64 := Nat.pow_le_pow_right (n := 2) (by omega) h6
  refine aw_aload_n d_MC_decisionWithWord_0 rfl rfl ?_
  refine aw_iload_n d_MC_decisionWithWord_1 rfl rfl ?_
  refine aw_ve (as := [_]) rfl cv_MC_140 (by omega) rfl rfl d_MC_decisionWithWord_2 (Nat.le_of_ble_eq_true rfl) (d' := d - 1) (by omega) (m_MC_decisionAt (by omega) hi h4 hR) ?_
  refine aw_astore_n (lst' := [_, _, _, _]) d_MC_decisionWithWord_5 rfl (Nat.le_of_ble_eq_true rfl) rfl ?_
  refine aw_iload_n d_MC_decisionWithWord_6 rfl rfl ?_
  refine aw_if_lt (tgt := 18) d_MC_decisionWithWord_7 rfl (fun h7 => ?_) (fun h7 => ?_)
  · exact aw_throw thr_2 d_MC_decisionWithWord_18 d_MC_decisionWithWord_21 d_MC_decisionWithWord_22 d_MC_decisionWithWord_25 (by intro z hz; cases hz) (by omega) (by omega) (by omega) (Nat.le_of_ble_eq_true rfl) ⟨rfl, Or.inr (⟨by omega, rfl, rfl⟩)⟩
  · refine aw_iload_n d_MC_decisionWithWord_10 rfl rfl ?_
    refine aw_aload_n d_MC_decisionWithWord_11 rfl rfl ?_
    refine aw_ve (as := []) rfl cv_MC_223 (by omega) (shD0 (isD_of (show i < 4 by omega))) rfl d_MC_decisionWithWord_12 (Nat.le_of_ble_eq_true rfl) (d' := d - 1) (by omega) (m_De_wordCount (by omega) (isD_of (show i < 4 by omega)) hk h6) ?_
    refine aw_icmp_lt (tgt := 26) d_MC_decisionWithWord_15 rfl (fun h15 => ?_) (fun h15 => ?_)
    · refine aw_aload_n d_MC_decisionWithWord_26 rfl rfl ?_
      exact aw_aret d_MC_decisionWithWord_27 rfl (Or.inl ⟨_, rfl⟩) ⟨rfl, Or.inl ⟨by omega, rfl, rfl⟩⟩
    · exact aw_throw thr_2 d_MC_decisionWithWord_18 d_MC_decisionWithWord_21 d_MC_decisionWithWord_22 d_MC_decisionWithWord_25 (by intro z hz; cases hz) (by omega) (by omega) (by omega) (Nat.le_of_ble_eq_true rfl) ⟨rfl, Or.inr (⟨by omega, rfl, rfl⟩)⟩
set_option maxRecDepth 100000 in
theorem m_MC_checkCondition {d : Nat} (hd : 7 ≤ d) {i : Nat} (hi4 : i < 4) {k : Nat} (hk : mI μ (27 + 8 * i) 7 = (k : Int)) (h6 : k ≤ 6) {w : Int} (hw : inR w) : AM G false d 1 6 y_MC_checkCondition [aP (27 + 8 * i), aI w] 94 μ (fun r n9 m => n9 = 94 ∧ (((0 ≤ w ∧ w < (k : Int)) ∧ r = .inl none ∧ m = μ) ∨ (¬ (0 ≤ w ∧ w < (k : Int)) ∧ r = .inr 2 ∧ m = μ))) := by
  refine am_of (n := 0) pf_MC_checkCondition (Nat.le_of_ble_eq_true rfl) (by intro v hv; simp only [List.mem_cons, List.not_mem_nil, or_false] at hv; rcases hv with rfl | rfl <;> first | trivial | assumption | exact in_c rfl | (show inR _; unfold inR; omega)) rfl ?_
  refine aw_iload_n d_MC_checkCondition_0 rfl rfl ?_
  refine aw_if_lt (tgt := 12) d_MC_checkCondition_1 rfl (fun h1 => ?_) (fun h1 => ?_)
  · exact aw_throw thr_2 d_MC_checkCondition_12 d_MC_checkCondition_15 d_MC_checkCondition_16 d_MC_checkCondition_19 (by intro z hz; cases hz) (by omega) (by omega) (by omega) (Nat.le_of_ble_eq_true rfl) ⟨rfl, Or.inr (⟨by omega, rfl, rfl⟩)⟩
  · refine aw_iload_n d_MC_checkCondition_4 rfl rfl ?_
    refine aw_aload_n d_MC_checkCondition_5 rfl rfl ?_
    refine aw_ve (as := []) rfl cv_MC_144 (by omega) (shD0 (isD_of hi4)) rfl d_MC_checkCondition_6 (Nat.le_of_ble_eq_true rfl) (d' := d - 1) (by omega) (m_De_size (by omega) (isD_of hi4)) ?_
    refine aw_tv (v' := (k : Int)) hk ?_
    refine aw_icmp_lt (tgt := 20) d_MC_checkCondition_9 rfl (fun h9 => ?_) (fun h9 => ?_)
    · exact aw_vret d_MC_checkCondition_20 rfl ⟨rfl, Or.inl ⟨by omega, rfl, rfl⟩⟩
    · exact aw_throw thr_2 d_MC_checkCondition_12 d_MC_checkCondition_15 d_MC_checkCondition_16 d_MC_checkCondition_19 (by intro z hz; cases hz) (by omega) (by omega) (by omega) (Nat.le_of_ble_eq_true rfl) ⟨rfl, Or.inr (⟨by omega, rfl, rfl⟩)⟩
set_option maxRecDepth 100000 in
theorem m_MC_checkCriterion {d : Nat} (hd : 7 ≤ d) {w : Int} (hw : inR w) : AM G false d 1 6 y_MC_checkCriterion [aI w] 94 μ (fun r n9 m => n9 = 94 ∧ (((0 ≤ w ∧ w ≤ 2) ∧ r = .inl none ∧ m = μ) ∨ (¬ (0 ≤ w ∧ w ≤ 2) ∧ r = .inr 1 ∧ m = μ))) := by
  refine am_of (n := 0) pf_MC_checkCriterion (Nat.le_of_ble_eq_true rfl) (by intro v hv; simp only [List.mem_cons, List.not_mem_nil, or_false] at hv; rcases hv with rfl <;> first | trivial | assumption | exact in_c rfl | (show inR _; unfold inR; omega)) rfl ?_
  refine aw_iload_n d_MC_checkCriterion_0 rfl rfl ?_
  refine aw_if_lt (tgt := 9) d_MC_checkCriterion_1 rfl (fun h1 => ?_) (fun h1 => ?_)
  · exact aw_throw thr_1 d_MC_checkCriterion_9 d_MC_checkCriterion_12 d_MC_checkCriterion_13 d_MC_checkCriterion_16 (by intro z hz; cases hz) (by omega) (by omega) (by omega) (Nat.le_of_ble_eq_true rfl) ⟨rfl, Or.inr (⟨by omega, rfl, rfl⟩)⟩
  · refine aw_iload_n d_MC_checkCriterion_4 rfl rfl ?_
    refine aw_iconst d_MC_checkCriterion_5 (in_c rfl) ?_
    refine aw_icmp_le (tgt := 17) d_MC_checkCriterion_6 rfl (fun h6 => ?_) (fun h6 => ?_)
    · exact aw_vret d_MC_checkCriterion_17 rfl ⟨rfl, Or.inl ⟨by omega, rfl, rfl⟩⟩
    · exact aw_throw thr_1 d_MC_checkCriterion_9 d_MC_checkCriterion_12 d_MC_checkCriterion_13 d_MC_checkCriterion_16 (by intro z hz; cases hz) (by omega) (by omega) (by omega) (Nat.le_of_ble_eq_true rfl) ⟨rfl, Or.inr (⟨by omega, rfl, rfl⟩)⟩
set_option maxRecDepth 100000 in
theorem m_MC_conditions {d : Nat} (hd : 1 ≤ d) {i : Nat} (hi : (i : Int) < mI μ 0 10) (h4 : mI μ 0 10 ≤ 4) (hR : ∀ k j, mR μ k j = R0 pg k j)  : AM G false d 0 0 y_MC_conditions [aP 0, aI (i : Int)] 94 μ (Qe (some (aI (mI μ (27 + 8 * i) 7))) 94 μ) := by
  refine am_of (n := 0) pf_MC_conditions (Nat.le_of_ble_eq_true rfl) (by intro v hv; simp only [List.mem_cons, List.not_mem_nil, or_false] at hv; rcases hv with rfl | rfl <;> first | trivial | assumption | exact in_c rfl | (show inR _; unfold inR; omega)) rfl ?_
  refine aw_aload_n d_MC_conditions_0 rfl rfl ?_
  refine aw_iload_n d_MC_conditions_1 rfl rfl ?_
  refine aw_ve (as := [_]) rfl cv_MC_140 (by omega) rfl rfl d_MC_conditions_2 (Nat.le_of_ble_eq_true rfl) (d' := d - 1) (by omega) (m_MC_decisionAt (by omega) hi h4 hR) ?_
  refine aw_ve (as := []) rfl cv_MC_144 (by omega) (shD0 (isD_of (show i < 4 by omega))) rfl d_MC_conditions_5 (Nat.le_of_ble_eq_true rfl) (d' := d - 1) (by omega) (m_De_size (by omega) (isD_of (show i < 4 by omega))) ?_
  exact aw_iret d_MC_conditions_8 rfl ⟨rfl, rfl, rfl⟩
end
