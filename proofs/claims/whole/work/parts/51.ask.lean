/-! a decision that there is -/
section
theorem aw_vor {G : aG} {y : aY} {d bc bs : Nat} {Q : aQ → Nat → aM → Prop} {pc : Nat} {lst : List (Option aV)} {st : List aV} {μ : aM} {z : aY} {as rest : List aV} {A B : Prop} {v : Option aV} {E d' bc' bs' idx k ci len : Nat} (hst : as.reverse ++ aP k :: rest = st) (hc : CVok y.1.cls idx as.length z) (hk : k < 94) (hq : shL[k]? = some (ci + 10, len)) (hci : (cls0[ci]?).map (fun q => q.1) = some z.1.cls) (hd : decode y.2.1 pc = .ok (.invokevirtual idx, 3))
    (h8 : ((rest.map (cv G)).map fun v => v.category).sum ≤ 8) (hd' : d' + 1 ≤ d) (hbc : bc' ≤ bc) (hbs : bs' ≤ bs) (hM : AM G false d' bc' bs' z (aP k :: as) 94 μ (fun r n9 m => n9 = 94 ∧ ((A ∧ r = .inl v ∧ m = μ) ∨ (B ∧ r = .inr E ∧ m = μ)))) (hno : ∀ w ∈ tableOf y.2.2.2.2, covers w pc = false) (hQ : B → Q (.inr E) 94 μ) (kr : A → AW G false y d (bc - bc') (bs - bs') Q (pc + 3) lst (v.toList ++ rest) 94 μ) : AW G false y d bc bs Q pc lst st 94 μ := by
  refine aw_vx hst hc hk hq hci hd h8 hd' hbc hbs hM (fun v' n' μ' h => ?_) (fun E' n' μ' h => ?_)
  · obtain ⟨rfl, ⟨a, h1, h2⟩ | ⟨-, h1, -⟩⟩ := h
    · cases h1; rw [h2]; exact kr a
    · cases h1
  · obtain ⟨rfl, ⟨-, h1, -⟩ | ⟨b, h1, h2⟩⟩ := h
    · cases h1
    · cases h1; rw [h2]; exact at_out hno (hQ b)
theorem aw_sor {G : aG} {y : aY} {d bc bs : Nat} {Q : aQ → Nat → aM → Prop} {pc : Nat} {lst : List (Option aV)} {st : List aV} {μ : aM} {z : aY} {as rest : List aV} {A B : Prop} {v : Option aV} {E d' bc' bs' idx : Nat} (hst : as.reverse ++ rest = st) (hc : CSok y.1.cls idx as.length z) (hd : decode y.2.1 pc = .ok (.invokestatic idx, 3))
    (h8 : ((rest.map (cv G)).map fun v => v.category).sum ≤ 8) (hd' : d' + 1 ≤ d) (hbc : bc' ≤ bc) (hbs : bs' ≤ bs) (hM : AM G false d' bc' bs' z as 94 μ (fun r n9 m => n9 = 94 ∧ ((A ∧ r = .inl v ∧ m = μ) ∨ (B ∧ r = .inr E ∧ m = μ)))) (hno : ∀ w ∈ tableOf y.2.2.2.2, covers w pc = false) (hQ : B → Q (.inr E) 94 μ) (kr : A → AW G false y d (bc - bc') (bs - bs') Q (pc + 3) lst (v.toList ++ rest) 94 μ) : AW G false y d bc bs Q pc lst st 94 μ := by
  refine aw_sx hst hc hd h8 hd' hbc hbs hM (fun v' n' μ' h => ?_) (fun E' n' μ' h => ?_)
  · obtain ⟨rfl, ⟨a, h1, h2⟩ | ⟨-, h1, -⟩⟩ := h
    · cases h1; rw [h2]; exact kr a
    · cases h1
  · obtain ⟨rfl, ⟨-, h1, -⟩ | ⟨b, h1, h2⟩⟩ := h
    · cases h1
    · cases h1; rw [h2]; exact at_out hno (hQ b)
variable {G : aG} {pg : Nat} {μ : aM}
set_option maxRecDepth 100000 in
theorem m_MC_decisionAt {d : Nat} (hd : 0 ≤ d) {i : Nat} (hi : (i : Int) < mI μ 0 10) (h4 : mI μ 0 10 ≤ 4) (hR : ∀ k j, mR μ k j = R0 pg k j)  : AM G false d 0 0 y_MC_decisionAt [aP 0, aI (i : Int)] 94 μ (Qe (some (aP (27 + 8 * i))) 94 μ) := by
  refine am_of (n := 0) pf_MC_decisionAt (Nat.le_of_ble_eq_true rfl) (by intro v hv; simp only [List.mem_cons, List.not_mem_nil, or_false] at hv; rcases hv with rfl | rfl <;> first | trivial | assumption | exact in_c rfl | (show inR _; unfold inR; omega)) rfl ?_
  refine aw_iload_n d_MC_decisionAt_0 rfl rfl ?_
  refine aw_if_lt (tgt := 12) d_MC_decisionAt_1 rfl (fun h1 => absurd h1 (by omega)) (fun h1 => ?_)
  refine aw_iload_n d_MC_decisionAt_4 rfl rfl ?_
  refine aw_aload_n d_MC_decisionAt_5 rfl rfl ?_
  refine aw_getI fd_MC_decisionCount lk_MC_85 (by omega) rfl d_MC_decisionAt_6 ?_
  refine aw_icmp_lt (tgt := 20) d_MC_decisionAt_9 rfl (fun h9 => ?_) (fun h9 => absurd (by omega) h9)
  refine aw_aload_n d_MC_decisionAt_20 rfl rfl ?_
  refine aw_getR fd_MC_decisions lk_MC_57 (by omega) rfl d_MC_decisionAt_21 (hR _ _) ?_
  refine aw_iload_n d_MC_decisionAt_24 rfl rfl ?_
  refine aw_aald (n := i) (by omega) rfl rfl (by omega) ((hR _ _).trans (r26 (by omega))) d_MC_decisionAt_25 ?_
  exact aw_aret d_MC_decisionAt_26 rfl (Or.inl ⟨_, rfl⟩) ⟨rfl, rfl, rfl⟩
set_option maxRecDepth 100000 in
theorem m_MC_decisionWithWord {d : Nat} (hd : 7 ≤ d) {i : Nat} (hi : (i : Int) < mI μ 0 10) (h4 : mI μ 0 10 ≤ 4) {k : Nat} (hk : mI μ (27 + 8 * i) 7 = (k : Int)) (h6 : k ≤ 6) (hR : ∀ k j, mR μ k j = R0 pg k j) {w : Int} (hw : inR w) : AM G false d 1 6 y_MC_decisionWithWord [aP 0, aI (i : Int), aI w] 94 μ (fun r n9 m => n9 = 94 ∧ (((0 ≤ w ∧ w < ((2 ^ k : Nat) : Int)) ∧ r = .inl (some (aP (27 + 8 * i))) ∧ m = μ) ∨ (¬ (0 ≤ w ∧ w < ((2 ^ k : Nat) : Int)) ∧ r = .inr 2 ∧ m = μ))) := by
  refine am_of (n := 1) pf_MC_decisionWithWord (Nat.le_of_ble_eq_true rfl) (by intro v hv; simp only [List.mem_cons, List.not_mem_nil, or_false] at hv; rcases hv with rfl | rfl | rfl <;> first | trivial | assumption | exact in_c rfl | (show inR _; unfold inR; omega)) rfl ?_
  have hpw : 2 ^ k ≤ 64 := Nat.pow_le_pow_right (n := 2) (by omega) h6
  refine aw_aload_n d_MC_decisionWithWord_0 rfl rfl ?_
  refine aw_iload_n d_MC_decisionWithWord_1 rfl rfl ?_
  refine aw_ve (as := [_]) rfl cv_MC_140 (by omega) rfl rfl d_MC_decisionWithWord_2 (Nat.le_of_ble_eq_true rfl) (d' := d - 1) (by omega) (m_MC_decisionAt (by omega) hi h4 hR) ?_
  refine aw_astore_n (lst' := [_, _, _, _]) d_MC_decisionWithWord_5 rfl (Nat.le_of_ble_eq_true rfl) rfl ?_
  refine aw_iload_n d_MC_decisionWithWord_6 rfl rfl ?_
  refine aw_if_lt (tgt := 18) d_MC_decisionWithWord_7 rfl (fun h7 => ?_) (fun h7 => ?_)
  · exact aw_throw thr_2 d_MC_decisionWithWord_18 d_MC_decisionWithWord_21 d_MC_decisionWithWord_22 d_MC_decisionWithWord_25 (by intro z hz; cases hz) (by omega) (by omega) (by omega) (Nat.le_of_ble_eq_true rfl) ⟨rfl, Or.inr (⟨by omega, rfl, rfl⟩)⟩
  · refine aw_iload_n d_MC_decisionWithWord_10 rfl rfl ?_
    refine aw_aload_n d_MC_decisionWithWord_11 rfl rfl ?_
    refine aw_ve (as := []) rfl cv_MC_223 (by omega) (shD0 (isD_of (show i < 4 by omega))) rfl d_MC_decisionWithWord_12 (Nat.le_of_ble_eq_true rfl) (d' := d - 1) (by omega) (m_De_wordCount (by omega) (isD_of (show i < 4 by omega)) hk h6) ?_
    refine aw_icmp_lt (tgt := 26) d_MC_decisionWithWord_15 rfl (fun h15 => ?_) (fun h15 => ?_)
    · refine aw_aload_n d_MC_decisionWithWord_26 rfl rfl ?_
      exact aw_aret d_MC_decisionWithWord_27 rfl (Or.inl ⟨_, rfl⟩) ⟨rfl, Or.inl ⟨by omega, rfl, rfl⟩⟩
    · exact aw_throw thr_2 d_MC_decisionWithWord_18 d_MC_decisionWithWord_21 d_MC_decisionWithWord_22 d_MC_decisionWithWord_25 (by intro z hz; cases hz) (by omega) (by omega) (by omega) (Nat.le_of_ble_eq_true rfl) ⟨rfl, Or.inr (⟨by omega, rfl, rfl⟩)⟩
set_option maxRecDepth 100000 in
theorem m_MC_checkCondition {d : Nat} (hd : 7 ≤ d) {i : Nat} (hi4 : i < 4) {k : Nat} (hk : mI μ (27 + 8 * i) 7 = (k : Int)) (h6 : k ≤ 6) {w : Int} (hw : inR w) : AM G false d 1 6 y_MC_checkCondition [aP (27 + 8 * i), aI w] 94 μ (fun r n9 m => n9 = 94 ∧ (((0 ≤ w ∧ w < (k : Int)) ∧ r = .inl none ∧ m = μ) ∨ (¬ (0 ≤ w ∧ w < (k : Int)) ∧ r = .inr 2 ∧ m = μ))) := by
  refine am_of (n := 0) pf_MC_checkCondition (Nat.le_of_ble_eq_true rfl) (by intro v hv; simp only [List.mem_cons, List.not_mem_nil, or_false] at hv; rcases hv with rfl | rfl <;> first | trivial | assumption | exact in_c rfl | (show inR _; unfold inR; omega)) rfl ?_
  refine aw_iload_n d_MC_checkCondition_0 rfl rfl ?_
  refine aw_if_lt (tgt := 12) d_MC_checkCondition_1 rfl (fun h1 => ?_) (fun h1 => ?_)
  · exact aw_throw thr_2 d_MC_checkCondition_12 d_MC_checkCondition_15 d_MC_checkCondition_16 d_MC_checkCondition_19 (by intro z hz; cases hz) (by omega) (by omega) (by omega) (Nat.le_of_ble_eq_true rfl) ⟨rfl, Or.inr (⟨by omega, rfl, rfl⟩)⟩
  · refine aw_iload_n d_MC_checkCondition_4 rfl rfl ?_
    refine aw_aload_n d_MC_checkCondition_5 rfl rfl ?_
    refine aw_ve (as := []) rfl cv_MC_144 (by omega) (shD0 (isD_of hi4)) rfl d_MC_checkCondition_6 (Nat.le_of_ble_eq_true rfl) (d' := d - 1) (by omega) (m_De_size (by omega) (isD_of hi4)) ?_
    refine aw_tv (v' := (k : Int)) hk ?_
    refine aw_icmp_lt (tgt := 20) d_MC_checkCondition_9 rfl (fun h9 => ?_) (fun h9 => ?_)
    · exact aw_vret d_MC_checkCondition_20 rfl ⟨rfl, Or.inl ⟨by omega, rfl, rfl⟩⟩
    · exact aw_throw thr_2 d_MC_checkCondition_12 d_MC_checkCondition_15 d_MC_checkCondition_16 d_MC_checkCondition_19 (by intro z hz; cases hz) (by omega) (by omega) (by omega) (Nat.le_of_ble_eq_true rfl) ⟨rfl, Or.inr (⟨by omega, rfl, rfl⟩)⟩
set_option maxRecDepth 100000 in
theorem m_MC_checkCriterion {d : Nat} (hd : 7 ≤ d) {w : Int} (hw : inR w) : AM G false d 1 6 y_MC_checkCriterion [aI w] 94 μ (fun r n9 m => n9 = 94 ∧ (((0 ≤ w ∧ w ≤ 2) ∧ r = .inl none ∧ m = μ) ∨ (¬ (0 ≤ w ∧ w ≤ 2) ∧ r = .inr 1 ∧ m = μ))) := by
  refine am_of (n := 0) pf_MC_checkCriterion (Nat.le_of_ble_eq_true rfl) (by intro v hv; simp only [List.mem_cons, List.not_mem_nil, or_false] at hv; rcases hv with rfl <;> first | trivial | assumption | exact in_c rfl | (show inR _; unfold inR; omega)) rfl ?_
  refine aw_iload_n d_MC_checkCriterion_0 rfl rfl ?_
  refine aw_if_lt (tgt := 9) d_MC_checkCriterion_1 rfl (fun h1 => ?_) (fun h1 => ?_)
  · exact aw_throw thr_1 d_MC_checkCriterion_9 d_MC_checkCriterion_12 d_MC_checkCriterion_13 d_MC_checkCriterion_16 (by intro z hz; cases hz) (by omega) (by omega) (by omega) (Nat.le_of_ble_eq_true rfl) ⟨rfl, Or.inr (⟨by omega, rfl, rfl⟩)⟩
  · refine aw_iload_n d_MC_checkCriterion_4 rfl rfl ?_
    refine aw_iconst d_MC_checkCriterion_5 (in_c rfl) ?_
    refine aw_icmp_le (tgt := 17) d_MC_checkCriterion_6 rfl (fun h6 => ?_) (fun h6 => ?_)
    · exact aw_vret d_MC_checkCriterion_17 rfl ⟨rfl, Or.inl ⟨by omega, rfl, rfl⟩⟩
    · exact aw_throw thr_1 d_MC_checkCriterion_9 d_MC_checkCriterion_12 d_MC_checkCriterion_13 d_MC_checkCriterion_16 (by intro z hz; cases hz) (by omega) (by omega) (by omega) (Nat.le_of_ble_eq_true rfl) ⟨rfl, Or.inr (⟨by omega, rfl, rfl⟩)⟩
set_option maxRecDepth 100000 in
theorem m_MC_conditions {d : Nat} (hd : 1 ≤ d) {i : Nat} (hi : (i : Int) < mI μ 0 10) (h4 : mI μ 0 10 ≤ 4) (hR : ∀ k j, mR μ k j = R0 pg k j)  : AM G false d 3 18 y_MC_conditions [aP 0, aI (i : Int)] 94 μ (Qe (some (aI (mI μ (27 + 8 * i) 7))) 94 μ) := by
  refine am_of (n := 0) pf_MC_conditions (Nat.le_of_ble_eq_true rfl) (by intro v hv; simp only [List.mem_cons, List.not_mem_nil, or_false] at hv; rcases hv with rfl | rfl <;> first | trivial | assumption | exact in_c rfl | (show inR _; unfold inR; omega)) rfl ?_
  refine aw_aload_n d_MC_conditions_0 rfl rfl ?_
  refine aw_iload_n d_MC_conditions_1 rfl rfl ?_
  refine aw_ve (as := [_]) rfl cv_MC_140 (by omega) rfl rfl d_MC_conditions_2 (Nat.le_of_ble_eq_true rfl) (d' := d - 1) (by omega) (m_MC_decisionAt (by omega) hi h4 hR) ?_
  refine aw_ve (as := []) rfl cv_MC_144 (by omega) (shD0 (isD_of (show i < 4 by omega))) rfl d_MC_conditions_5 (Nat.le_of_ble_eq_true rfl) (d' := d - 1) (by omega) (m_De_size (by omega) (isD_of (show i < 4 by omega))) ?_
  exact aw_iret d_MC_conditions_8 rfl ⟨rfl, rfl, rfl⟩
set_option maxRecDepth 100000 in
theorem m_MC_outcome {d : Nat} (hd : 8 ≤ d) {i : Nat} (hi : (i : Int) < mI μ 0 10) (h4 : mI μ 0 10 ≤ 4) {k : Nat} (hk : mI μ (27 + 8 * i) 7 = (k : Int)) (h6 : k ≤ 6) (hR : ∀ k j, mR μ k j = R0 pg k j) {w : Int} (hw : inR w) : AM G false d 3 18 y_MC_outcome [aP 0, aI (i : Int), aI w] 94 μ (fun r n9 m => n9 = 94 ∧ (((0 ≤ w ∧ w < ((2 ^ k : Nat) : Int)) ∧ r = .inl (some (aI (if (mL μ (27 + 8 * i) 8).getLsbD w.toNat then 1 else 0))) ∧ m = μ) ∨ (¬ (0 ≤ w ∧ w < ((2 ^ k : Nat) : Int)) ∧ r = .inr 2 ∧ m = μ))) := by
  refine am_of (n := 0) pf_MC_outcome (Nat.le_of_ble_eq_true rfl) (by intro v hv; simp only [List.mem_cons, List.not_mem_nil, or_false] at hv; rcases hv with rfl | rfl | rfl <;> first | trivial | assumption | exact in_c rfl | (show inR _; unfold inR; omega)) rfl ?_
  have hpw : 2 ^ k ≤ 64 := Nat.pow_le_pow_right (n := 2) (by omega) h6
  refine aw_aload_n d_MC_outcome_0 rfl rfl ?_
  refine aw_iload_n d_MC_outcome_1 rfl rfl ?_
  refine aw_iload_n d_MC_outcome_2 rfl rfl ?_
  refine aw_vor (as := [_, _]) rfl cv_MC_160 (by omega) rfl rfl d_MC_outcome_3 (Nat.le_of_ble_eq_true rfl) (d' := d - 1) (by omega) (by omega) (by omega) (m_MC_decisionWithWord (by omega) hi h4 hk h6 hR hw) (by intro z hz; cases hz) (fun g3 => ⟨rfl, Or.inr ⟨g3, rfl, rfl⟩⟩) (fun g3 => ?_)
  refine aw_ve (as := []) rfl cv_MC_171 (by omega) (shD0 (isD_of (show i < 4 by omega))) rfl d_MC_outcome_6 (Nat.le_of_ble_eq_true rfl) (d' := d - 1) (by omega) (m_De_trueWords (by omega) (isD_of (show i < 4 by omega))) ?_
  refine aw_iload_n d_MC_outcome_9 rfl rfl ?_
  refine aw_tv (v' := ((w.toNat : Nat) : Int)) (by omega) ?_
  refine aw_se (as := [_, _]) rfl cs_MC_164 d_MC_outcome_10 (Nat.le_of_ble_eq_true rfl) (d' := d - 1) (by omega) (m_MC_contains (by omega) (by omega)) ?_
  exact aw_zret d_MC_outcome_13 rfl (by split <;> rfl) ⟨rfl, Or.inl ⟨g3, rfl, rfl⟩⟩
set_option maxRecDepth 100000 in
theorem m_MC_evaluated {d : Nat} (hd : 8 ≤ d) {i : Nat} (hi : (i : Int) < mI μ 0 10) (h4 : mI μ 0 10 ≤ 4) {k : Nat} (hk : mI μ (27 + 8 * i) 7 = (k : Int)) (h6 : k ≤ 6) (hR : ∀ k j, mR μ k j = R0 pg k j) {w w2 : Int} (hw : inR w) (hw2 : inR w2) : AM G false d 3 18 y_MC_evaluated [aP 0, aI (i : Int), aI w, aI w2] 94 μ (fun r n9 m => n9 = 94 ∧ ((((0 ≤ w ∧ w < ((2 ^ k : Nat) : Int)) ∧ (0 ≤ w2 ∧ w2 < (k : Int))) ∧ r = .inl (some (aI (if (mL μ ((27 + 8 * i) + 5) w2.toNat).getLsbD w.toNat then 1 else 0))) ∧ m = μ) ∨ (¬ ((0 ≤ w ∧ w < ((2 ^ k : Nat) : Int)) ∧ (0 ≤ w2 ∧ w2 < (k : Int))) ∧ r = .inr 2 ∧ m = μ))) := by
  refine am_of (n := 1) pf_MC_evaluated (Nat.le_of_ble_eq_true rfl) (by intro v hv; simp only [List.mem_cons, List.not_mem_nil, or_false] at hv; rcases hv with rfl | rfl | rfl | rfl <;> first | trivial | assumption | exact in_c rfl | (show inR _; unfold inR; omega)) rfl ?_
  have hpw : 2 ^ k ≤ 64 := Nat.pow_le_pow_right (n := 2) (by omega) h6
  refine aw_aload_n d_MC_evaluated_0 rfl rfl ?_
  refine aw_iload_n d_MC_evaluated_1 rfl rfl ?_
  refine aw_iload_n d_MC_evaluated_2 rfl rfl ?_
  refine aw_vor (as := [_, _]) rfl cv_MC_160 (by omega) rfl rfl d_MC_evaluated_3 (Nat.le_of_ble_eq_true rfl) (d' := d - 1) (by omega) (by omega) (by omega) (m_MC_decisionWithWord (by omega) hi h4 hk h6 hR hw) (by intro z hz; cases hz) (fun g3 => ⟨rfl, Or.inr ⟨fun q => g3 q.1, rfl, rfl⟩⟩) (fun g3 => ?_)
  refine aw_astore (lst' := [_, _, _, _, _]) d_MC_evaluated_6 (Nat.le_of_ble_eq_true rfl) rfl ?_
  refine aw_aload d_MC_evaluated_8 rfl ?_
  refine aw_iload_n d_MC_evaluated_10 rfl rfl ?_
  refine aw_sor (as := [_, _]) rfl cs_MC_174 d_MC_evaluated_11 (Nat.le_of_ble_eq_true rfl) (d' := d - 1) (by omega) (by omega) (by omega) (m_MC_checkCondition (by omega) (by omega) hk h6 hw2) (by intro z hz; cases hz) (fun g11 => ⟨rfl, Or.inr ⟨fun q => g11 q.2, rfl, rfl⟩⟩) (fun g11 => ?_)
  refine aw_aload d_MC_evaluated_14 rfl ?_
  refine aw_iload_n d_MC_evaluated_16 rfl rfl ?_
  refine aw_tv (v' := ((w2.toNat : Nat) : Int)) (by omega) ?_
  refine aw_ve (as := [_]) rfl cv_MC_178 (by omega) (shD0 (isD_of (show i < 4 by omega))) rfl d_MC_evaluated_17 (Nat.le_of_ble_eq_true rfl) (d' := d - 1) (by omega) (m_De_evaluatingWords (by omega) (isD_of (show i < 4 by omega)) hR (by omega)) ?_
  refine aw_pc (pc' := 20) rfl ?_
  refine aw_iload_n d_MC_evaluated_20 rfl rfl ?_
  refine aw_tv (v' := ((w.toNat : Nat) : Int)) (by omega) ?_
  refine aw_se (as := [_, _]) rfl cs_MC_164 d_MC_evaluated_21 (Nat.le_of_ble_eq_true rfl) (d' := d - 1) (by omega) (m_MC_contains (by omega) (by omega)) ?_
  exact aw_zret d_MC_evaluated_24 rfl (by split <;> rfl) ⟨rfl, Or.inl ⟨⟨g3, g11⟩, rfl, rfl⟩⟩
set_option maxRecDepth 100000 in
theorem m_MC_vector {d : Nat} (hd : 8 ≤ d) {i : Nat} (hi : (i : Int) < mI μ 0 10) (h4 : mI μ 0 10 ≤ 4) {k : Nat} (hk : mI μ (27 + 8 * i) 7 = (k : Int)) (h6 : k ≤ 6) (hR : ∀ k j, mR μ k j = R0 pg k j) {w w2 : Int} (hw : inR w) (hw2 : inR w2) (hin : mI μ 1 2 ≤ 3) : AM G false d 3 18 y_MC_vector [aP 0, aI (i : Int), aI w, aI w2] 94 μ (fun r n9 m => n9 = 94 ∧ ((((0 ≤ w ∧ w < ((2 ^ k : Nat) : Int)) ∧ (0 ≤ w2 ∧ w2 < mI μ 1 2)) ∧ (mL μ (27 + 8 * i) 9).getLsbD w.toNat = true ∧ r = .inl (some (aI (mI μ ((27 + 8 * i) + 7) (3 * w.toNat + w2.toNat)))) ∧ m = μ) ∨ (((0 ≤ w ∧ w < ((2 ^ k : Nat) : Int)) ∧ (0 ≤ w2 ∧ w2 < mI μ 1 2)) ∧ ¬ (mL μ (27 + 8 * i) 9).getLsbD w.toNat = true ∧ r = .inr 0 ∧ m = μ) ∨ (¬ ((0 ≤ w ∧ w < ((2 ^ k : Nat) : Int)) ∧ (0 ≤ w2 ∧ w2 < mI μ 1 2)) ∧ r = .inr 2 ∧ m = μ))) := by
  refine am_of (n := 1) pf_MC_vector (Nat.le_of_ble_eq_true rfl) (by intro v hv; simp only [List.mem_cons, List.not_mem_nil, or_false] at hv; rcases hv with rfl | rfl | rfl | rfl <;> first | trivial | assumption | exact in_c rfl | (show inR _; unfold inR; omega)) rfl ?_
  have hpw : 2 ^ k ≤ 64 := Nat.pow_le_pow_right (n := 2) (by omega) h6
  refine aw_aload_n d_MC_vector_0 rfl rfl ?_
  refine aw_iload_n d_MC_vector_1 rfl rfl ?_
  refine aw_iload_n d_MC_vector_2 rfl rfl ?_
  refine aw_vor (as := [_, _]) rfl cv_MC_160 (by omega) rfl rfl d_MC_vector_3 (Nat.le_of_ble_eq_true rfl) (d' := d - 1) (by omega) (by omega) (by omega) (m_MC_decisionWithWord (by omega) hi h4 hk h6 hR hw) (by intro z hz; cases hz) (fun g3 => ⟨rfl, Or.inr (Or.inr ⟨fun q => g3 q.1, rfl, rfl⟩)⟩) (fun g3 => ?_)
  refine aw_astore (lst' := [_, _, _, _, _]) d_MC_vector_6 (Nat.le_of_ble_eq_true rfl) rfl ?_
  refine aw_aload_n d_MC_vector_8 rfl rfl ?_
  refine aw_getR fd_MC_inputs lk_MC_10 (by omega) rfl d_MC_vector_9 (hR _ _) ?_
  refine aw_iload_n d_MC_vector_12 rfl rfl ?_
  refine aw_ve (as := [_]) rfl cv_MC_111 (by omega) rfl rfl d_MC_vector_13 (Nat.le_of_ble_eq_true rfl) (d' := d - 1) (by omega) (m_In_has (by omega) hw2) ?_
  refine aw_if_ne (tgt := 27) d_MC_vector_16 rfl (fun h16 => ?_) (fun h16 => ?_)
  · replace h16 := ite_n h16
    refine aw_aload d_MC_vector_27 rfl ?_
    refine aw_ve (as := []) rfl cv_MC_150 (by omega) (shD0 (isD_of (show i < 4 by omega))) rfl d_MC_vector_29 (Nat.le_of_ble_eq_true rfl) (d' := d - 1) (by omega) (m_De_feasibleWords (by omega) (isD_of (show i < 4 by omega))) ?_
    refine aw_iload_n d_MC_vector_32 rfl rfl ?_
    refine aw_tv (v' := ((w.toNat : Nat) : Int)) (by omega) ?_
    refine aw_se (as := [_, _]) rfl cs_MC_164 d_MC_vector_33 (Nat.le_of_ble_eq_true rfl) (d' := d - 1) (by omega) (m_MC_contains (by omega) (by omega)) ?_
    refine aw_if_ne (tgt := 47) d_MC_vector_36 rfl (fun h36 => ?_) (fun h36 => ?_)
    · replace h36 := ite_n h36
      refine aw_aload d_MC_vector_47 rfl ?_
      refine aw_iload_n d_MC_vector_49 rfl rfl ?_
      refine aw_tv (v' := ((w.toNat : Nat) : Int)) (by omega) ?_
      refine aw_iload_n d_MC_vector_50 rfl rfl ?_
      refine aw_tv (v' := ((w2.toNat : Nat) : Int)) (by omega) ?_
      refine aw_ve (as := [_, _]) rfl cv_MC_168 (by omega) (shD0 (isD_of (show i < 4 by omega))) rfl d_MC_vector_51 (Nat.le_of_ble_eq_true rfl) (d' := d - 1) (by omega) (m_De_valueFor (by omega) (isD_of (show i < 4 by omega)) hR (by omega) (by omega)) ?_
      exact aw_iret d_MC_vector_54 rfl ⟨rfl, Or.inl ⟨⟨g3, h16⟩, h36, rfl, rfl⟩⟩
    · replace h36 := ite_z h36
      exact aw_throw thr_0 d_MC_vector_39 d_MC_vector_42 d_MC_vector_43 d_MC_vector_46 (by intro z hz; cases hz) (by omega) (by omega) (by omega) (Nat.le_of_ble_eq_true rfl) ⟨rfl, Or.inr (Or.inl ⟨⟨g3, h16⟩, h36, rfl, rfl⟩)⟩
  · replace h16 := ite_z h16
    exact aw_throw thr_2 d_MC_vector_19 d_MC_vector_22 d_MC_vector_23 d_MC_vector_26 (by intro z hz; cases hz) (by omega) (by omega) (by omega) (Nat.le_of_ble_eq_true rfl) ⟨rfl, Or.inr (Or.inr ⟨fun q => h16 q.2, rfl, rfl⟩)⟩
set_option maxRecDepth 100000 in
theorem m_MC_keep {d : Nat} (hd : 7 ≤ d) {a b e : Int} {c : Nat} (h1 : inR a) (h2 : inR b) (h3 : inR e) (hc : mI μ 63 1 = (c : Int)) (hc12 : c < 12) (hm : ¬ mI μ 4 4 = 0) (hR : ∀ k j, mR μ k j = R0 pg k j)  : AM G false d 3 18 y_MC_keep [aP 0, aI a, aI b, aI e] 94 μ (fun r n9 m => n9 = 94 ∧ ((((((0 : Nat) : Int) < mI μ 1 2 ∧ (a < mI μ 2 0 ∨ mI μ 3 0 < a)) ∨ (((1 : Nat) : Int) < mI μ 1 2 ∧ (b < mI μ 2 1 ∨ mI μ 3 1 < b)) ∨ (((2 : Nat) : Int) < mI μ 1 2 ∧ (e < mI μ 2 2 ∨ mI μ 3 2 < e))) ∧ r = .inr 1 ∧ m = μ) ∨ (¬ ((((0 : Nat) : Int) < mI μ 1 2 ∧ (a < mI μ 2 0 ∨ mI μ 3 0 < a)) ∨ (((1 : Nat) : Int) < mI μ 1 2 ∧ (b < mI μ 2 1 ∨ mI μ 3 1 < b)) ∨ (((2 : Nat) : Int) < mI μ 1 2 ∧ (e < mI μ 2 2 ∨ mI μ 3 2 < e))) ∧ r = .inl (some (aI ((c : Int) + 1))) ∧ m = wI (wI (wI (wI μ 64 (3 * c) a) 64 (3 * c + 1) b) 64 (3 * c + 2) e) 63 1 ((c : Int) + 1)))) := by
  refine am_of (n := 0) pf_MC_keep (Nat.le_of_ble_eq_true rfl) (by intro v hv; simp only [List.mem_cons, List.not_mem_nil, or_false] at hv; rcases hv with rfl | rfl | rfl | rfl <;> first | trivial | assumption | exact in_c rfl | (show inR _; unfold inR; omega)) rfl ?_
  refine aw_aload_n d_MC_keep_0 rfl rfl ?_
  refine aw_getR fd_MC_records lk_MC_81 (by omega) rfl d_MC_keep_1 (hR _ _) ?_
  refine aw_ve (as := []) rfl cv_MC_199 (by omega) rfl rfl d_MC_keep_4 (Nat.le_of_ble_eq_true rfl) (d' := d - 1) (by omega) (m_Rc_isFull (by omega)) ?_
  refine aw_if_ne (tgt := 20) d_MC_keep_7 rfl (fun h7 => absurd h7 (by rw [if_neg (by omega)]; decide)) (fun h7 => ?_)
  refine aw_aload_n d_MC_keep_10 rfl rfl ?_
  refine aw_getR fd_MC_conditions lk_MC_19 (by omega) rfl d_MC_keep_11 (hR _ _) ?_
  refine aw_ve (as := []) rfl cv_MC_96 (by omega) rfl rfl d_MC_keep_14 (Nat.le_of_ble_eq_true rfl) (d' := d - 1) (by omega) (m_Co_size (by omega)) ?_
  refine aw_if_ne (tgt := 28) d_MC_keep_17 rfl (fun h17 => ?_) (fun h17 => absurd h17 hm)
  refine aw_aload_n d_MC_keep_28 rfl rfl ?_
  refine aw_getR fd_MC_inputs lk_MC_10 (by omega) rfl d_MC_keep_29 (hR _ _) ?_
  refine aw_iconst d_MC_keep_32 (in_c rfl) ?_
  refine aw_pc (pc' := 33) rfl ?_
  refine aw_iload_n d_MC_keep_33 rfl rfl ?_
  refine aw_ve (as := [_, _]) rfl cv_MC_200 (by omega) rfl rfl d_MC_keep_34 (Nat.le_of_ble_eq_true rfl) (d' := d - 1) (by omega) (m_In_fits (i := 0) (by omega) hR (by omega) (by assumption)) ?_
  refine aw_if_eq (tgt := 64) d_MC_keep_37 rfl (fun h37 => ?_) (fun h37 => ?_)
  · replace h37 := iti_z h37
    exact aw_throw thr_1 d_MC_keep_64 d_MC_keep_67 d_MC_keep_68 d_MC_keep_71 (by intro z hz; cases hz) (by omega) (by omega) (by omega) (Nat.le_of_ble_eq_true rfl) ⟨rfl, Or.inl ⟨by first | exact Or.inl h37 | exact Or.inr (Or.inl h49) | exact Or.inr (Or.inr h61), rfl, rfl⟩⟩
  · replace h37 := iti_n h37
    refine aw_aload_n d_MC_keep_40 rfl rfl ?_
    refine aw_getR fd_MC_inputs lk_MC_10 (by omega) rfl d_MC_keep_41 (hR _ _) ?_
    refine aw_iconst d_MC_keep_44 (in_c rfl) ?_
    refine aw_iload_n d_MC_keep_45 rfl rfl ?_
    refine aw_ve (as := [_, _]) rfl cv_MC_200 (by omega) rfl rfl d_MC_keep_46 (Nat.le_of_ble_eq_true rfl) (d' := d - 1) (by omega) (m_In_fits (i := 1) (by omega) hR (by omega) (by assumption)) ?_
    refine aw_if_eq (tgt := 64) d_MC_keep_49 rfl (fun h49 => ?_) (fun h49 => ?_)
    · replace h49 := iti_z h49
      exact aw_throw thr_1 d_MC_keep_64 d_MC_keep_67 d_MC_keep_68 d_MC_keep_71 (by intro z hz; cases hz) (by omega) (by omega) (by omega) (Nat.le_of_ble_eq_true rfl) ⟨rfl, Or.inl ⟨by first | exact Or.inl h37 | exact Or.inr (Or.inl h49) | exact Or.inr (Or.inr h61), rfl, rfl⟩⟩
    · replace h49 := iti_n h49
      refine aw_aload_n d_MC_keep_52 rfl rfl ?_
      refine aw_getR fd_MC_inputs lk_MC_10 (by omega) rfl d_MC_keep_53 (hR _ _) ?_
      refine aw_iconst d_MC_keep_56 (in_c rfl) ?_
      refine aw_iload_n d_MC_keep_57 rfl rfl ?_
      refine aw_ve (as := [_, _]) rfl cv_MC_200 (by omega) rfl rfl d_MC_keep_58 (Nat.le_of_ble_eq_true rfl) (d' := d - 1) (by omega) (m_In_fits (i := 2) (by omega) hR (by omega) (by assumption)) ?_
      refine aw_if_ne (tgt := 72) d_MC_keep_61 rfl (fun h61 => ?_) (fun h61 => ?_)
      · replace h61 := iti_n h61
        refine aw_aload_n d_MC_keep_72 rfl rfl ?_
        refine aw_getR fd_MC_records lk_MC_81 (by omega) rfl d_MC_keep_73 (hR _ _) ?_
        refine aw_iload_n d_MC_keep_76 rfl rfl ?_
        refine aw_iload_n d_MC_keep_77 rfl rfl ?_
        refine aw_iload_n d_MC_keep_78 rfl rfl ?_
        refine aw_ve (as := [_, _, _]) rfl cv_MC_204 (by omega) rfl rfl d_MC_keep_79 (Nat.le_of_ble_eq_true rfl) (d' := d - 1) (by omega) (m_Rc_add (by omega) h1 h2 h3 hc hc12 hR) ?_
        exact aw_iret d_MC_keep_82 rfl ⟨rfl, Or.inr ⟨fun q => by rcases q with q | q | q; exact h37 q; exact h49 q; exact h61 q, rfl, rfl⟩⟩
      · replace h61 := iti_z h61
        exact aw_throw thr_1 d_MC_keep_64 d_MC_keep_67 d_MC_keep_68 d_MC_keep_71 (by intro z hz; cases hz) (by omega) (by omega) (by omega) (Nat.le_of_ble_eq_true rfl) ⟨rfl, Or.inl ⟨by first | exact Or.inl h37 | exact Or.inr (Or.inl h49) | exact Or.inr (Or.inr h61), rfl, rfl⟩⟩
set_option maxRecDepth 100000 in
theorem m_MC_show {d : Nat} (hd : 1 ≤ d) {i : Nat} (hi : (i : Int) < mI μ 0 10) (h4 : mI μ 0 10 ≤ 4) (hR : ∀ k j, mR μ k j = R0 pg k j)  : AM G false d 3 18 y_MC_show [aP 0, aI (i : Int)] 94 μ (Qe (some (aI (mI μ ((27 + 8 * i) + 1) 1))) 94 (wR μ 0 11 (some ((27 + 8 * i) + 1)))) := by
  refine am_of (n := 0) pf_MC_show (Nat.le_of_ble_eq_true rfl) (by intro v hv; simp only [List.mem_cons, List.not_mem_nil, or_false] at hv; rcases hv with rfl | rfl <;> first | trivial | assumption | exact in_c rfl | (show inR _; unfold inR; omega)) rfl ?_
  refine aw_aload_n d_MC_show_0 rfl rfl ?_
  refine aw_aload_n d_MC_show_1 rfl rfl ?_
  refine aw_iload_n d_MC_show_2 rfl rfl ?_
  refine aw_ve (as := [_]) rfl cv_MC_140 (by omega) rfl rfl d_MC_show_3 (Nat.le_of_ble_eq_true rfl) (d' := d - 1) (by omega) (m_MC_decisionAt (by omega) hi h4 hR) ?_
  refine aw_ve (as := []) rfl cv_MC_145 (by omega) (shD0 (isD_of (show i < 4 by omega))) rfl d_MC_show_6 (Nat.le_of_ble_eq_true rfl) (d' := d - 1) (by omega) (m_De_shown (by omega) (isD_of (show i < 4 by omega)) hR) ?_
  refine aw_putR fd_MC_page lk_MC_89 (by omega) rfl d_MC_show_9 (Or.inl rfl) ?_
  refine aw_aload_n d_MC_show_12 rfl rfl ?_
  refine aw_getR fd_MC_page lk_MC_89 (by omega) rfl d_MC_show_13 rfl ?_
  refine aw_ve (as := []) rfl cv_MC_149 (by omega) (shD1 (isD_of (show i < 4 by omega))) rfl d_MC_show_16 (Nat.le_of_ble_eq_true rfl) (d' := d - 1) (by omega) (m_Li_size (k := (27 + 8 * i) + 1) (by omega) (by omega) (shD1 (isD_of (show i < 4 by omega))) (shD2 (isD_of (show i < 4 by omega))) (by rw [mR_wR, if_neg (by omega)]; exact (hR _ _).trans (rD9 (isD_of (show i < 4 by omega))))) ?_
  exact aw_iret d_MC_show_19 rfl ⟨rfl, rfl, rfl⟩
end
