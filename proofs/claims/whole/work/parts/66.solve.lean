/-! solve -/
section
theorem oF_ge (f : Nat → Nat → Bool) (N : Nat) : ∀ (m v : Nat), -1 ≤ oF f N m v
  | 0, _ => by rw [oF]; omega
  | m + 1, v => by
    rw [oF]
    split
    · omega
    · exact oF_ge f N m (v + 1)
theorem oW_f (μ : aM) (z : Int) (i k c : Nat) (q : Int) (v w : Nat) : oW (wI μ 67 0 z) i k c q v w = oW μ i k c q v w := rfl
variable {G : aG} {pg : Nat} {μ : aM}
set_option maxRecDepth 100000 in
theorem m_De_pairFor {d : Nat} (hd : 4 ≤ d) {D : Nat} (hD : isD D) (hR : ∀ k j, mR μ k j = R0 pg k j) {k : Nat} (hk : mI μ D 7 = (k : Int)) (h6 : k ≤ 6) {c : Nat} {q : Int} (hc : c < k) (hq0 : 0 ≤ q) (hq2 : q ≤ 2) (hst : inR (mI μ (D + 4) c))  : AM G false d 0 0 y_De_pairFor [aP D, aI (c : Int), aI q] 94 μ (Qe (some (aI (pairS (fun v w => (mL μ D 9).getLsbD v && ((mL μ D 9) &&& ptF μ D k c q v).getLsbD w) (2 ^ k)))) 94 μ) := by
  refine am_of (n := 0) pf_De_pairFor (Nat.le_of_ble_eq_true rfl) (by intro v hv; simp only [List.mem_cons, List.not_mem_nil, or_false] at hv; rcases hv with rfl | rfl | rfl <;> first | trivial | assumption | exact in_c rfl | exact bI_in _ | (show inR _; unfold inR; omega)) rfl ?_
  refine aw_aload_n d_De_pairFor_0 rfl rfl ?_
  refine aw_aload_n d_De_pairFor_1 rfl rfl ?_
  refine aw_getL fd_De_feasibleWords lk_De_43 (Nat.lt_of_le_of_lt (Nat.le_add_right _ 7) (ltD hD)) (shD0 hD) d_De_pairFor_2 ?_
  refine aw_iload_n d_De_pairFor_5 rfl rfl ?_
  refine aw_iload_n d_De_pairFor_6 rfl rfl ?_
  refine aw_ve (as := [_, _, _]) rfl cv_De_101 (by have := ltD hD; omega) (shD0 hD) rfl d_De_pairFor_7 (Nat.le_of_ble_eq_true rfl) (d' := d - 1) (by omega) (m_De_pairWithin (by omega) hD hR hk h6 hc hq0 hq2 hst) ?_
  exact aw_iret d_De_pairFor_10 rfl ⟨rfl, rfl, rfl⟩
set_option maxRecDepth 100000 in
theorem m_De_isSolved {d : Nat} (hd : 5 ≤ d) {D : Nat} (hD : isD D) (hR : ∀ k j, mR μ k j = R0 pg k j) {k : Nat} (hk : mI μ D 7 = (k : Int)) (h6 : k ≤ 6) {c : Nat} {q : Int} (hc : c < k) (hq0 : 0 ≤ q) (hq2 : q ≤ 2) (hst : inR (mI μ (D + 4) c))  : AM G false d 0 0 y_De_isSolved [aP D, aI (c : Int), aI q] 94 μ (Qe (some (aI (bI (decide (¬ pairS (fun v w => (mL μ D 9).getLsbD v && ((mL μ D 9) &&& ptF μ D k c q v).getLsbD w) (2 ^ k) = -1))))) 94 μ) := by
  refine am_of (n := 0) pf_De_isSolved (Nat.le_of_ble_eq_true rfl) (by intro v hv; simp only [List.mem_cons, List.not_mem_nil, or_false] at hv; rcases hv with rfl | rfl | rfl <;> first | trivial | assumption | exact in_c rfl | exact bI_in _ | (show inR _; unfold inR; omega)) rfl ?_
  refine aw_aload_n d_De_isSolved_0 rfl rfl ?_
  refine aw_iload_n d_De_isSolved_1 rfl rfl ?_
  refine aw_iload_n d_De_isSolved_2 rfl rfl ?_
  refine aw_ve (as := [_, _]) rfl cv_De_105 (by have := ltD hD; omega) (shD0 hD) rfl d_De_isSolved_3 (Nat.le_of_ble_eq_true rfl) (d' := d - 1) (by omega) (m_De_pairFor (by omega) hD hR hk h6 hc hq0 hq2 hst) ?_
  refine aw_iconst d_De_isSolved_6 (in_c rfl) ?_
  refine aw_icmp_eq (tgt := 14) d_De_isSolved_7 rfl (fun h7 => ?_) (fun h7 => ?_)
  · refine aw_iconst d_De_isSolved_14 (in_c rfl) ?_
    exact aw_zret d_De_isSolved_15 rfl rfl ⟨by rw [show (decide (¬ pairS (fun v w => (mL μ D 9).getLsbD v && ((mL μ D 9) &&& ptF μ D k c q v).getLsbD w) (2 ^ k) = -1)) = false from decide_eq_false (fun z => z h7)]; rfl, rfl, rfl⟩
  · refine aw_iconst d_De_isSolved_10 (in_c rfl) ?_
    refine aw_goto (tgt := 15) d_De_isSolved_11 rfl ?_
    exact aw_zret d_De_isSolved_15 rfl rfl ⟨by rw [show (decide (¬ pairS (fun v w => (mL μ D 9).getLsbD v && ((mL μ D 9) &&& ptF μ D k c q v).getLsbD w) (2 ^ k) = -1)) = true from decide_eq_true h7]; rfl, rfl, rfl⟩
set_option maxRecDepth 100000 in
theorem m_De_isShownWithin {d : Nat} (hd : 5 ≤ d) {D : Nat} (hD : isD D) (hR : ∀ k j, mR μ k j = R0 pg k j) {S : BitVec 64} {k : Nat} (hk : mI μ D 7 = (k : Int)) (h6 : k ≤ 6) {c : Nat} {q : Int} (hc : c < k) (hq0 : 0 ≤ q) (hq2 : q ≤ 2) (hst : inR (mI μ (D + 4) c))  : AM G false d 0 0 y_De_isShownWithin [aP D, aL S, aI (c : Int), aI q] 94 μ (Qe (some (aI (bI (decide (¬ pairS (fun v w => (S).getLsbD v && ((S) &&& ptF μ D k c q v).getLsbD w) (2 ^ k) = -1))))) 94 μ) := by
  refine am_of (n := 0) pf_De_isShownWithin (Nat.le_of_ble_eq_true rfl) (by intro v hv; simp only [List.mem_cons, List.not_mem_nil, or_false] at hv; rcases hv with rfl | rfl | rfl | rfl <;> first | trivial | assumption | exact in_c rfl | exact bI_in _ | (show inR _; unfold inR; omega)) rfl ?_
  refine aw_aload_n d_De_isShownWithin_0 rfl rfl ?_
  refine aw_lload_n d_De_isShownWithin_1 rfl rfl ?_
  refine aw_iload_n d_De_isShownWithin_2 rfl rfl ?_
  refine aw_iload d_De_isShownWithin_3 rfl ?_
  refine aw_ve (as := [_, _, _]) rfl cv_De_101 (by have := ltD hD; omega) (shD0 hD) rfl d_De_isShownWithin_5 (Nat.le_of_ble_eq_true rfl) (d' := d - 1) (by omega) (m_De_pairWithin (by omega) hD hR hk h6 hc hq0 hq2 hst) ?_
  refine aw_iconst d_De_isShownWithin_8 (in_c rfl) ?_
  refine aw_icmp_eq (tgt := 16) d_De_isShownWithin_9 rfl (fun h9 => ?_) (fun h9 => ?_)
  · refine aw_iconst d_De_isShownWithin_16 (in_c rfl) ?_
    exact aw_zret d_De_isShownWithin_17 rfl rfl ⟨by rw [show (decide (¬ pairS (fun v w => (S).getLsbD v && ((S) &&& ptF μ D k c q v).getLsbD w) (2 ^ k) = -1)) = false from decide_eq_false (fun z => z h9)]; rfl, rfl, rfl⟩
  · refine aw_iconst d_De_isShownWithin_12 (in_c rfl) ?_
    refine aw_goto (tgt := 17) d_De_isShownWithin_13 rfl ?_
    exact aw_zret d_De_isShownWithin_17 rfl rfl ⟨by rw [show (decide (¬ pairS (fun v w => (S).getLsbD v && ((S) &&& ptF μ D k c q v).getLsbD w) (2 ^ k) = -1)) = true from decide_eq_true h9]; rfl, rfl, rfl⟩
set_option maxRecDepth 100000 in
theorem m_MC_solve {d : Nat} (hd : 8 ≤ d) {i : Nat} (hi : (i : Int) < mI μ 0 10) (h4 : mI μ 0 10 ≤ 4) {k : Nat} (hk : mI μ (27 + 8 * i) 7 = (k : Int)) (h6 : k ≤ 6) (hR : ∀ k j, mR μ k j = R0 pg k j) {w q : Int} (hw : inR w) (hq : inR q) (hst : ∀ c, inR (mI μ (27 + 8 * i + 4) c)) : AM G false d 3 18 y_MC_solve [aP 0, aI (i : Int), aI w, aI q] 94 μ (fun r n9 m => n9 = 94 ∧ ((¬ (0 ≤ w ∧ w < (k : Int)) ∧ r = .inr 2 ∧ m = μ) ∨ ((0 ≤ w ∧ w < (k : Int)) ∧ ¬ (0 ≤ q ∧ q ≤ 2) ∧ r = .inr 1 ∧ m = μ) ∨ ((0 ≤ w ∧ w < (k : Int)) ∧ (0 ≤ q ∧ q ≤ 2) ∧ r = .inl (some (aI (pairS (fun v u => (mL μ (27 + 8 * i) 9).getLsbD v && ((mL μ (27 + 8 * i) 9) &&& ptF μ (27 + 8 * i) k w.toNat q v).getLsbD u) (2 ^ k)))) ∧ m = μ))) := by
  refine am_of (n := 1) pf_MC_solve (Nat.le_of_ble_eq_true rfl) (by intro v hv; simp only [List.mem_cons, List.not_mem_nil, or_false] at hv; rcases hv with rfl | rfl | rfl | rfl <;> first | trivial | assumption | exact in_c rfl | exact bI_in _ | (show inR _; unfold inR; omega)) rfl ?_
  refine aw_aload_n d_MC_solve_0 rfl rfl ?_
  refine aw_iload_n d_MC_solve_1 rfl rfl ?_
  refine aw_ve (as := [_]) rfl cv_MC_140 (by omega) rfl rfl d_MC_solve_2 (Nat.le_of_ble_eq_true rfl) (d' := d - 1) (by omega) (m_MC_decisionAt (by omega) hi h4 hR) ?_
  refine aw_astore (lst' := [_, _, _, _, _]) d_MC_solve_5 (Nat.le_of_ble_eq_true rfl) rfl ?_
  refine aw_aload d_MC_solve_7 rfl ?_
  refine aw_iload_n d_MC_solve_9 rfl rfl ?_
  refine aw_sor (as := [_, _]) rfl cs_MC_174 d_MC_solve_10 (Nat.le_of_ble_eq_true rfl) (d' := d - 1) (by omega) (by omega) (by omega) (m_MC_checkCondition (by omega) (by omega) hk h6 hw) (by intro z hz; cases hz) (fun g1 => ⟨rfl, Or.inl ⟨g1, rfl, rfl⟩⟩) (fun g1 => ?_)
  refine aw_iload_n d_MC_solve_13 rfl rfl ?_
  refine aw_sor (as := [_]) rfl cs_MC_182 d_MC_solve_14 (Nat.le_of_ble_eq_true rfl) (d' := d - 1) (by omega) (by omega) (by omega) (m_MC_checkCriterion (by omega) hq) (by intro z hz; cases hz) (fun g2 => ⟨rfl, Or.inr (Or.inl ⟨g1, g2, rfl, rfl⟩)⟩) (fun g2 => ?_)
  refine aw_aload d_MC_solve_17 rfl ?_
  refine aw_iload_n d_MC_solve_19 rfl rfl ?_
  refine aw_tv (v' := ((w.toNat : Nat) : Int)) (by omega) ?_
  refine aw_pc (pc' := 20) rfl ?_
  refine aw_iload_n d_MC_solve_20 rfl rfl ?_
  refine aw_ve (as := [_, _]) rfl cv_MC_186 (by omega) (shD0 (isD_of (show i < 4 by omega))) rfl d_MC_solve_21 (Nat.le_of_ble_eq_true rfl) (d' := d - 1) (by omega) (m_De_pairFor (by omega) (isD_of (show i < 4 by omega)) hR hk h6 (by omega) g2.1 g2.2 (hst _)) ?_
  exact aw_iret d_MC_solve_24 rfl ⟨rfl, Or.inr (Or.inr ⟨g1, g2, rfl, rfl⟩)⟩
set_option maxRecDepth 100000 in
theorem g_Mo_solve {d : Nat} (hd : 4 ≤ d) {i : Nat} (hi : (i : Int) < mI μ 67 11) (h4 : mI μ 67 11 ≤ 4) {k : Nat} (hk : mI μ 78 i = (k : Int)) (h6 : k ≤ 6) (hse : ∀ j, j < 256 → 0 ≤ mI μ 83 j ∧ mI μ 83 j < 64) (hu : ∀ j, j < 6 → 0 ≤ mI μ 79 (6 * i + j) ∧ mI μ 79 (6 * i + j) < 8) (hR : ∀ k j, mR μ k j = R0 pg k j) {w q : Int} (hw : inR w) (hq : inR q) : AM G false d 0 0 y_Mo_solve [aP 67, aI (i : Int), aI w, aI q] 94 μ (fun r n9 m => n9 = 94 ∧ ((¬ (0 ≤ w ∧ w < (k : Int)) ∧ r = .inl (some (aI 0)) ∧ m = wI μ 67 0 1) ∨ ((0 ≤ w ∧ w < (k : Int)) ∧ ¬ (0 ≤ q ∧ q ≤ 2) ∧ r = .inl (some (aI 0)) ∧ m = wI μ 67 0 2) ∨ ((0 ≤ w ∧ w < (k : Int)) ∧ (0 ≤ q ∧ q ≤ 2) ∧ r = .inl (some (aI (pairS (oW μ i k w.toNat q) (2 ^ k)))) ∧ m = wI μ 67 0 0))) := by
  refine am_of (n := 0) pf_Mo_solve (Nat.le_of_ble_eq_true rfl) (by intro v hv; simp only [List.mem_cons, List.not_mem_nil, or_false] at hv; rcases hv with rfl | rfl | rfl | rfl <;> first | trivial | assumption | exact in_c rfl | exact bI_in _ | (show inR _; unfold inR; omega)) rfl ?_
  have hk2 : mI (wI μ 67 0 0) 78 i = (k : Int) := hk
  have hse2 : ∀ j, j < 256 → 0 ≤ mI (wI μ 67 0 0) 83 j ∧ mI (wI μ 67 0 0) 83 j < 64 := hse
  have hu2 : ∀ j, j < 6 → 0 ≤ mI (wI μ 67 0 0) 79 (6 * i + j) ∧ mI (wI μ 67 0 0) 79 (6 * i + j) < 8 := hu
  have hR2 : ∀ k j, mR (wI μ 67 0 0) k j = R0 pg k j := hR
  refine aw_aload_n d_Mo_solve_0 rfl rfl ?_
  refine aw_aload_n d_Mo_solve_1 rfl rfl ?_
  refine aw_iload_n d_Mo_solve_2 rfl rfl ?_
  refine aw_iload_n d_Mo_solve_3 rfl rfl ?_
  refine aw_ve (as := [_, _]) rfl cv_Mo_177 (by omega) rfl rfl d_Mo_solve_4 (Nat.le_of_ble_eq_true rfl) (d' := d - 1) (by omega) (g_Mo_isCondition (by omega) hi h4 hk h6 hR hw) ?_
  refine aw_if_ne (tgt := 14) d_Mo_solve_7 rfl (fun h7 => ?_) (fun h7 => ?_)
  · replace h7 := ite_n h7
    refine aw_iconst d_Mo_solve_14 (in_c rfl) ?_
    refine aw_iload_n d_Mo_solve_15 rfl rfl ?_
    refine aw_se (as := [_]) rfl cs_Mo_191 d_Mo_solve_16 (Nat.le_of_ble_eq_true rfl) (d' := d - 1) (by omega) (m_Mo_isCriterion (by omega) hq) ?_
    refine aw_if_ne (tgt := 26) d_Mo_solve_19 rfl (fun h19 => ?_) (fun h19 => ?_)
    · replace h19 := ite_n h19
      refine aw_iconst d_Mo_solve_26 (in_c rfl) ?_
      refine aw_ve (as := [_, _]) rfl cv_Mo_96 (by omega) rfl rfl d_Mo_solve_27 (Nat.le_of_ble_eq_true rfl) (d' := d - 1) (by omega) (m_Mo_refused_0 (by omega)) ?_
      refine aw_if_eq (tgt := 37) d_Mo_solve_30 rfl (fun h30 => ?_) (fun h30 => absurd (by omega) h30)
      refine aw_aload_n d_Mo_solve_37 rfl rfl ?_
      refine aw_iload_n d_Mo_solve_38 rfl rfl ?_
      refine aw_iload_n d_Mo_solve_39 rfl rfl ?_
      refine aw_tv (v' := ((w.toNat : Nat) : Int)) (by omega) ?_
      refine aw_iload_n d_Mo_solve_40 rfl rfl ?_
      refine aw_ve (as := [_, _, _]) rfl cv_Mo_194 (by omega) rfl rfl d_Mo_solve_41 (Nat.le_of_ble_eq_true rfl) (d' := d - 1) (by omega) (m_Mo_pairOf (μ := wI μ 67 0 0) (i := i) (k := k) (c := w.toNat) (q := q) (by omega) (by omega) hk2 h6 (by omega) h19.1 h19.2 hse2 hu2 hR2) ?_
      refine aw_tv (v' := pairS (oW μ i k w.toNat q) (2 ^ k)) (by rw [show oW (wI μ 67 0 0) i k w.toNat q = oW μ i k w.toNat q from funext fun v => funext fun u => oW_f μ 0 i k _ q v u]) ?_
      exact aw_iret d_Mo_solve_44 rfl ⟨rfl, Or.inr (Or.inr ⟨h7, h19, rfl, rfl⟩)⟩
    · replace h19 := ite_z h19
      refine aw_iconst d_Mo_solve_22 (in_c rfl) ?_
      refine aw_goto (tgt := 27) d_Mo_solve_23 rfl ?_
      refine aw_ve (as := [_, _]) rfl cv_Mo_96 (by omega) rfl rfl d_Mo_solve_27 (Nat.le_of_ble_eq_true rfl) (d' := d - 1) (by omega) (m_Mo_refused_2 (by omega)) ?_
      refine aw_if_eq (tgt := 37) d_Mo_solve_30 rfl (fun h30 => absurd h30 (by omega)) (fun h30 => ?_)
      refine aw_iconst d_Mo_solve_33 (in_c rfl) ?_
      refine aw_goto (tgt := 44) d_Mo_solve_34 rfl ?_
      exact aw_iret d_Mo_solve_44 rfl ⟨rfl, Or.inr (Or.inl ⟨h7, h19, rfl, rfl⟩)⟩
  · replace h7 := ite_z h7
    refine aw_iconst d_Mo_solve_10 (in_c rfl) ?_
    refine aw_goto (tgt := 15) d_Mo_solve_11 rfl ?_
    refine aw_iload_n d_Mo_solve_15 rfl rfl ?_
    refine aw_se (as := [_]) rfl cs_Mo_191 d_Mo_solve_16 (Nat.le_of_ble_eq_true rfl) (d' := d - 1) (by omega) (m_Mo_isCriterion (by omega) hq) ?_
    refine aw_if_ne (tgt := 26) d_Mo_solve_19 rfl (fun h19 => ?_) (fun h19 => ?_)
    · replace h19 := ite_n h19
      refine aw_iconst d_Mo_solve_26 (in_c rfl) ?_
      refine aw_ve (as := [_, _]) rfl cv_Mo_96 (by omega) rfl rfl d_Mo_solve_27 (Nat.le_of_ble_eq_true rfl) (d' := d - 1) (by omega) (m_Mo_refused_1 (by omega) (in_c rfl)) ?_
      refine aw_if_eq (tgt := 37) d_Mo_solve_30 rfl (fun h30 => absurd h30 (by omega)) (fun h30 => ?_)
      refine aw_iconst d_Mo_solve_33 (in_c rfl) ?_
      refine aw_goto (tgt := 44) d_Mo_solve_34 rfl ?_
      exact aw_iret d_Mo_solve_44 rfl ⟨rfl, Or.inl ⟨h7, rfl, rfl⟩⟩
    · replace h19 := ite_z h19
      refine aw_iconst d_Mo_solve_22 (in_c rfl) ?_
      refine aw_goto (tgt := 27) d_Mo_solve_23 rfl ?_
      refine aw_ve (as := [_, _]) rfl cv_Mo_96 (by omega) rfl rfl d_Mo_solve_27 (Nat.le_of_ble_eq_true rfl) (d' := d - 1) (by omega) (m_Mo_refused_1 (by omega) (in_c rfl)) ?_
      refine aw_if_eq (tgt := 37) d_Mo_solve_30 rfl (fun h30 => absurd h30 (by omega)) (fun h30 => ?_)
      refine aw_iconst d_Mo_solve_33 (in_c rfl) ?_
      refine aw_goto (tgt := 44) d_Mo_solve_34 rfl ?_
      exact aw_iret d_Mo_solve_44 rfl ⟨rfl, Or.inl ⟨h7, rfl, rfl⟩⟩
end
