/-! missing: the class -/
section
/-- the least place below k, or -1 -/
def lsO (o : Option Nat) : Int := match o with
  | some j => (j : Int)
  | none => -1
variable {G : aG} {pg : Nat} {μ : aM}
set_option maxRecDepth 100000 in
theorem m_MC_missing {d : Nat} (hd : 8 ≤ d) {i : Nat} (hi : (i : Int) < mI μ 0 10) (h4 : mI μ 0 10 ≤ 4) {k : Nat} (hk : mI μ (27 + 8 * i) 7 = (k : Int)) (h6 : k ≤ 6) (hR : ∀ k j, mR μ k j = R0 pg k j) {q : Int} (hq : inR q) (hst : ∀ c, inR (mI μ (27 + 8 * i + 4) c)) {c : Nat} (hc : mI μ 63 1 = (c : Int)) (hc12 : c ≤ 12) (hl : ∀ r, r < c → ∀ j, j < k → 0 ≤ mI μ (27 + 8 * i + 3) j ∧ okL μ (3 * r) (mI μ (27 + 8 * i + 3) j).toNat) : AM G false d 3 18 y_MC_missing [aP 0, aI (i : Int), aI q] 94 μ (fun r n9 m => n9 = 94 ∧ ((¬ (0 ≤ q ∧ q ≤ 2) ∧ r = .inr 1 ∧ m = μ) ∨ ((0 ≤ q ∧ q ≤ 2) ∧ r = .inl (some (aI (lsO (sF (fun j => shW μ (27 + 8 * i) k j q (mL μ (27 + 8 * i) 9) && !shW μ (27 + 8 * i) k j q (rcW μ (27 + 8 * i) k c)) (k - 0) 0)))) ∧ m = μ))) := by
  refine am_of (n := 4) pf_MC_missing (Nat.le_of_ble_eq_true rfl) (by intro v hv; simp only [List.mem_cons, List.not_mem_nil, or_false] at hv; rcases hv with rfl | rfl | rfl <;> first | trivial | assumption | exact in_c rfl | exact bI_in _ | (show inR _; unfold inR; omega)) rfl ?_
  have key : ∀ (m : Nat) (j : Nat), k - j = m → ((0 ≤ q ∧ q ≤ 2) ∧ j ≤ k ∧ sF (fun j => shW μ (27 + 8 * i) k j q (mL μ (27 + 8 * i) 9) && !shW μ (27 + 8 * i) k j q (rcW μ (27 + 8 * i) k c)) (k - 0) 0 = sF (fun j => shW μ (27 + 8 * i) k j q (mL μ (27 + 8 * i) 9) && !shW μ (27 + 8 * i) k j q (rcW μ (27 + 8 * i) k c)) (k - j) j) → AW G false y_MC_missing d 2 12 (fun r n9 m => n9 = 94 ∧ ((¬ (0 ≤ q ∧ q ≤ 2) ∧ r = .inr 1 ∧ m = μ) ∨ ((0 ≤ q ∧ q ≤ 2) ∧ r = .inl (some (aI (lsO (sF (fun j => shW μ (27 + 8 * i) k j q (mL μ (27 + 8 * i) 9) && !shW μ (27 + 8 * i) k j q (rcW μ (27 + 8 * i) k c)) (k - 0) 0)))) ∧ m = μ))) 23 [some (aP 0), some (aI (i : Int)), some (aI q), some (aP (27 + 8 * i)), some (aL (rcW μ (27 + 8 * i) k c)), none, some (aI (j : Int))] [] 94 μ := by
    intro m
    induction m using Nat.strongRecOn with | _ m ih =>
    intro j hm hj
    refine aw_iload d_MC_missing_23 rfl ?_
    refine aw_aload_n d_MC_missing_25 rfl rfl ?_
    refine aw_ve (as := []) rfl cv_MC_144 (by omega) (shD0 (isD_of (show i < 4 by omega))) rfl d_MC_missing_26 (Nat.le_of_ble_eq_true rfl) (d' := d - 1) (by omega) (m_De_size (by omega) (isD_of (show i < 4 by omega))) ?_
    refine aw_tv (v' := (k : Int)) hk ?_
    refine aw_icmp_ge (tgt := 63) d_MC_missing_29 rfl (fun h29 => ?_) (fun h29 => ?_)
    · refine aw_iconst d_MC_missing_63 (in_c rfl) ?_
      exact aw_iret d_MC_missing_64 rfl ⟨rfl, Or.inr ⟨hj.1, by rw [hj.2.2, sF_end (by omega)]; rfl, rfl⟩⟩
    · refine aw_aload_n d_MC_missing_32 rfl rfl ?_
      refine aw_iload d_MC_missing_33 rfl ?_
      refine aw_iload_n d_MC_missing_35 rfl rfl ?_
      refine aw_ve (as := [_, _]) rfl cv_MC_216 (by omega) (shD0 (isD_of (show i < 4 by omega))) rfl d_MC_missing_36 (Nat.le_of_ble_eq_true rfl) (d' := d - 1) (by omega) (m_De_isSolved (by omega) (isD_of (show i < 4 by omega)) hR hk h6 (by omega) hj.1.1 hj.1.2 (hst _)) ?_
      refine aw_tv (v' := bI (shW μ (27 + 8 * i) k j q (mL μ (27 + 8 * i) 9))) rfl ?_
      refine aw_if_eq (tgt := 57) d_MC_missing_39 rfl (fun h39 => ?_) (fun h39 => ?_)
      · replace h39 := bz h39
        refine aw_iinc (lst' := [_, _, _, _, _, _, some (aI ((j + 1 : Nat) : Int))]) d_MC_missing_57 (Nat.le_of_ble_eq_true rfl) rfl (by unfold inR; omega) rfl ?_
        refine aw_goto (tgt := 23) d_MC_missing_60 rfl ?_
        exact ih (k - (j + 1)) (by omega) (j + 1) rfl ⟨hj.1, by omega, hj.2.2.trans (sF_miss (by omega) (by simp only [h39]; rfl))⟩
      · replace h39 := bn h39
        refine aw_aload_n d_MC_missing_42 rfl rfl ?_
        refine aw_lload d_MC_missing_43 rfl ?_
        refine aw_iload d_MC_missing_45 rfl ?_
        refine aw_iload_n d_MC_missing_47 rfl rfl ?_
        refine aw_ve (as := [_, _, _]) rfl cv_MC_212 (by omega) (shD0 (isD_of (show i < 4 by omega))) rfl d_MC_missing_48 (Nat.le_of_ble_eq_true rfl) (d' := d - 1) (by omega) (m_De_isShownWithin (by omega) (isD_of (show i < 4 by omega)) hR hk h6 (by omega) hj.1.1 hj.1.2 (hst _)) ?_
        refine aw_tv (v' := bI (shW μ (27 + 8 * i) k j q (rcW μ (27 + 8 * i) k c))) rfl ?_
        refine aw_if_ne (tgt := 57) d_MC_missing_51 rfl (fun h51 => ?_) (fun h51 => ?_)
        · replace h51 := bn h51
          refine aw_iinc (lst' := [_, _, _, _, _, _, some (aI ((j + 1 : Nat) : Int))]) d_MC_missing_57 (Nat.le_of_ble_eq_true rfl) rfl (by unfold inR; omega) rfl ?_
          refine aw_goto (tgt := 23) d_MC_missing_60 rfl ?_
          exact ih (k - (j + 1)) (by omega) (j + 1) rfl ⟨hj.1, by omega, hj.2.2.trans (sF_miss (by omega) (by simp only [h39, h51]; rfl))⟩
        · replace h51 := bz h51
          refine aw_iload d_MC_missing_54 rfl ?_
          exact aw_iret d_MC_missing_56 rfl ⟨rfl, Or.inr ⟨hj.1, by rw [hj.2.2, sF_hit (by omega) (by simp only [h39, h51]; rfl)]; rfl, rfl⟩⟩
  refine aw_aload_n d_MC_missing_0 rfl rfl ?_
  refine aw_iload_n d_MC_missing_1 rfl rfl ?_
  refine aw_ve (as := [_]) rfl cv_MC_140 (by omega) rfl rfl d_MC_missing_2 (Nat.le_of_ble_eq_true rfl) (d' := d - 1) (by omega) (m_MC_decisionAt (by omega) hi h4 hR) ?_
  refine aw_astore_n (lst' := [_, _, _, _, _, _, _]) d_MC_missing_5 rfl (Nat.le_of_ble_eq_true rfl) rfl ?_
  refine aw_iload_n d_MC_missing_6 rfl rfl ?_
  refine aw_sor (as := [_]) rfl cs_MC_182 d_MC_missing_7 (Nat.le_of_ble_eq_true rfl) (d' := d - 1) (by omega) (by omega) (by omega) (m_MC_checkCriterion (by omega) hq) (by intro z hz; cases hz) (fun g2 => ⟨rfl, Or.inl ⟨g2, rfl, rfl⟩⟩) (fun g2 => ?_)
  refine aw_aload_n d_MC_missing_10 rfl rfl ?_
  refine aw_getR fd_MC_records lk_MC_81 (by omega) rfl d_MC_missing_11 (hR _ _) ?_
  refine aw_aload_n d_MC_missing_14 rfl rfl ?_
  refine aw_ve (as := [_]) rfl cv_MC_208 (by omega) rfl rfl d_MC_missing_15 (Nat.le_of_ble_eq_true rfl) (d' := d - 1) (by omega) (m_Rc_wordsOf (by omega) (isD_of (show i < 4 by omega)) hR hk h6 hc hc12 hl) ?_
  refine aw_lstore (lst' := [_, _, _, _, some (aL (rcW μ (27 + 8 * i) k c)), _, _]) d_MC_missing_18 (Nat.le_of_ble_eq_true rfl) rfl ?_
  refine aw_pc (pc' := 20) rfl ?_
  refine aw_iconst d_MC_missing_20 (in_c rfl) ?_
  refine aw_istore (lst' := [_, _, _, _, _, _, _]) d_MC_missing_21 (Nat.le_of_ble_eq_true rfl) rfl ?_
  exact key (k - 0) 0 rfl ⟨g2, Nat.zero_le _, rfl⟩
end
