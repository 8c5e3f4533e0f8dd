/-! covered: the class -/
section
/-- the set of words that the c recorded vectors give at the decision D -/
def rcW (μ : aM) (D k c : Nat) : BitVec 64 := wsF (fun r => wb (fun j => hF μ (3 * r) (mI μ (D + 3) j).toNat) k) c
def shW (μ : aM) (D k c : Nat) (q : Int) (S : BitVec 64) : Bool := decide (¬ pairS (fun v w => S.getLsbD v && (S &&& ptF μ D k c q v).getLsbD w) (2 ^ k) = -1)
variable {G : aG} {pg : Nat} {μ : aM}
set_option maxRecDepth 100000 in
theorem m_MC_covered {d : Nat} (hd : 8 ≤ d) {i : Nat} (hi : (i : Int) < mI μ 0 10) (h4 : mI μ 0 10 ≤ 4) {k : Nat} (hk : mI μ (27 + 8 * i) 7 = (k : Int)) (h6 : k ≤ 6) (hR : ∀ k j, mR μ k j = R0 pg k j) {w q : Int} (hw : inR w) (hq : inR q) (hst : ∀ c, inR (mI μ (27 + 8 * i + 4) c)) {c : Nat} (hc : mI μ 63 1 = (c : Int)) (hc12 : c ≤ 12) (hl : ∀ r, r < c → ∀ j, j < k → 0 ≤ mI μ (27 + 8 * i + 3) j ∧ okL μ (3 * r) (mI μ (27 + 8 * i + 3) j).toNat) : AM G false d 3 18 y_MC_covered [aP 0, aI (i : Int), aI w, aI q] 94 μ (fun r n9 m => n9 = 94 ∧ ((¬ (0 ≤ w ∧ w < (k : Int)) ∧ r = .inr 2 ∧ m = μ) ∨ ((0 ≤ w ∧ w < (k : Int)) ∧ ¬ (0 ≤ q ∧ q ≤ 2) ∧ r = .inr 1 ∧ m = μ) ∨ ((0 ≤ w ∧ w < (k : Int)) ∧ (0 ≤ q ∧ q ≤ 2) ∧ r = .inl (some (aI (bI (shW μ (27 + 8 * i) k w.toNat q (rcW μ (27 + 8 * i) k c))))) ∧ m = μ))) := by
  refine am_of (n := 1) pf_MC_covered (Nat.le_of_ble_eq_true rfl) (by intro v hv; simp only [List.mem_cons, List.not_mem_nil, or_false] at hv; rcases hv with rfl | rfl | rfl | rfl <;> first | trivial | assumption | exact in_c rfl | exact bI_in _ | (show inR _; unfold inR; omega)) rfl ?_
  refine aw_aload_n d_MC_covered_0 rfl rfl ?_
  refine aw_iload_n d_MC_covered_1 rfl rfl ?_
  refine aw_ve (as := [_]) rfl cv_MC_140 (by omega) rfl rfl d_MC_covered_2 (Nat.le_of_ble_eq_true rfl) (d' := d - 1) (by omega) (m_MC_decisionAt (by omega) hi h4 hR) ?_
  refine aw_astore (lst' := [_, _, _, _, _]) d_MC_covered_5 (Nat.le_of_ble_eq_true rfl) rfl ?_
  refine aw_aload d_MC_covered_7 rfl ?_
  refine aw_iload_n d_MC_covered_9 rfl rfl ?_
  refine aw_sor (as := [_, _]) rfl cs_MC_174 d_MC_covered_10 (Nat.le_of_ble_eq_true rfl) (d' := d - 1) (by omega) (by omega) (by omega) (m_MC_checkCondition (by omega) (by omega) hk h6 hw) (by intro z hz; cases hz) (fun g1 => ⟨rfl, Or.inl ⟨g1, rfl, rfl⟩⟩) (fun g1 => ?_)
  refine aw_iload_n d_MC_covered_13 rfl rfl ?_
  refine aw_sor (as := [_]) rfl cs_MC_182 d_MC_covered_14 (Nat.le_of_ble_eq_true rfl) (d' := d - 1) (by omega) (by omega) (by omega) (m_MC_checkCriterion (by omega) hq) (by intro z hz; cases hz) (fun g2 => ⟨rfl, Or.inr (Or.inl ⟨g1, g2, rfl, rfl⟩)⟩) (fun g2 => ?_)
  refine aw_aload d_MC_covered_17 rfl ?_
  refine aw_aload_n d_MC_covered_19 rfl rfl ?_
  refine aw_pc (pc' := 20) rfl ?_
  refine aw_getR fd_MC_records lk_MC_81 (by omega) rfl d_MC_covered_20 (hR _ _) ?_
  refine aw_aload d_MC_covered_23 rfl ?_
  refine aw_ve (as := [_]) rfl cv_MC_208 (by omega) rfl rfl d_MC_covered_25 (Nat.le_of_ble_eq_true rfl) (d' := d - 1) (by omega) (m_Rc_wordsOf (by omega) (isD_of (show i < 4 by omega)) hR hk h6 hc hc12 hl) ?_
  refine aw_iload_n d_MC_covered_28 rfl rfl ?_
  refine aw_tv (v' := ((w.toNat : Nat) : Int)) (by omega) ?_
  refine aw_iload_n d_MC_covered_29 rfl rfl ?_
  refine aw_ve (as := [_, _, _]) rfl cv_MC_212 (by omega) (shD0 (isD_of (show i < 4 by omega))) rfl d_MC_covered_30 (Nat.le_of_ble_eq_true rfl) (d' := d - 1) (by omega) (m_De_isShownWithin (by omega) (isD_of (show i < 4 by omega)) hR hk h6 (by omega) g2.1 g2.2 (hst _)) ?_
  exact aw_zret d_MC_covered_33 rfl (bI_nr _) ⟨rfl, Or.inr (Or.inr ⟨g1, g2, rfl, rfl⟩)⟩
end
