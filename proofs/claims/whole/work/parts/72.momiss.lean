/-! missing: the reference -/
section
variable {G : aG} {pg : Nat} {μ : aM}
set_option maxRecDepth 100000 in
theorem g_Mo_missing {d : Nat} (hd : 4 ≤ d) {i : Nat} (hi : (i : Int) < mI μ 67 11) (h4 : mI μ 67 11 ≤ 4) {k : Nat} (hk : mI μ 78 i = (k : Int)) (h6 : k ≤ 6) (hse : ∀ j, j < 256 → 0 ≤ mI μ 83 j ∧ mI μ 83 j < 64) (hu : ∀ j, j < 6 → 0 ≤ mI μ 79 (6 * i + j) ∧ mI μ 79 (6 * i + j) < 8) {n : Nat} (hn : mI μ 67 31 = (n : Int)) (hn12 : n ≤ 12) (hrec : ∀ j, inR (mI μ 91 j)) (hl : ∀ r, r < n → ∀ j, j < k → okM μ (oU μ i j) (mI μ 91 (3 * r)) (mI μ 91 (3 * r + 1)) (mI μ 91 (3 * r + 2))) (hR : ∀ k j, mR μ k j = R0 pg k j) {q : Int} (hq : inR q) : AM G false d 0 0 y_Mo_missing [aP 67, aI (i : Int), aI q] 94 μ (fun r n9 m => n9 = 94 ∧ ((¬ (0 ≤ q ∧ q ≤ 2) ∧ r = .inl (some (aI 0)) ∧ m = wI μ 67 0 2) ∨ ((0 ≤ q ∧ q ≤ 2) ∧ r = .inl (some (aI (lsO (sF (fun j => decide (0 ≤ pairS (oW μ i k j q) (2 ^ k)) && !oCv μ i k j q n) (k - 0) 0)))) ∧ m = wI μ 67 0 0))) := by
  refine am_of (n := 2) pf_Mo_missing (Nat.le_of_ble_eq_true rfl) (by intro v hv; simp only [List.mem_cons, List.not_mem_nil, or_false] at hv; rcases hv with rfl | rfl | rfl <;> first | trivial | assumption | exact in_c rfl | exact bI_in _ | (show inR _; unfold inR; omega)) rfl ?_
  have hk2 : mI (wI μ 67 0 0) 78 i = (k : Int) := hk
  have hse2 : ∀ j, j < 256 → 0 ≤ mI (wI μ 67 0 0) 83 j ∧ mI (wI μ 67 0 0) 83 j < 64 := hse
  have hu2 : ∀ j, j < 6 → 0 ≤ mI (wI μ 67 0 0) 79 (6 * i + j) ∧ mI (wI μ 67 0 0) 79 (6 * i + j) < 8 := hu
  have hR2 : ∀ k j, mR (wI μ 67 0 0) k j = R0 pg k j := hR
  have hn2 : mI (wI μ 67 0 0) 67 31 = (n : Int) := hn
  have hrec2 : ∀ j, inR (mI (wI μ 67 0 0) 91 j) := hrec
  have hl2 : ∀ r, r < n → ∀ j, j < k → okM (wI μ 67 0 0) (oU (wI μ 67 0 0) i j) (mI (wI μ 67 0 0) 91 (3 * r)) (mI (wI μ 67 0 0) 91 (3 * r + 1)) (mI (wI μ 67 0 0) 91 (3 * r + 2)) := hl
  have key : ∀ (m : Nat) (j : Nat), j = m → ((0 ≤ q ∧ q ≤ 2) ∧ j ≤ k) → AW G false y_Mo_missing d 0 0 (fun r n9 m => n9 = 94 ∧ ((¬ (0 ≤ q ∧ q ≤ 2) ∧ r = .inl (some (aI 0)) ∧ m = wI μ 67 0 2) ∨ ((0 ≤ q ∧ q ≤ 2) ∧ r = .inl (some (aI (lsO (sF (fun j => decide (0 ≤ pairS (oW μ i k j q) (2 ^ k)) && !oCv μ i k j q n) (k - 0) 0)))) ∧ m = wI μ 67 0 0))) 46 [some (aP 67), some (aI (i : Int)), some (aI q), some (aI (lsO (sF (fun j => decide (0 ≤ pairS (oW μ i k j q) (2 ^ k)) && !oCv μ i k j q n) (k - j) j))), some (aI ((j : Int) - 1))] [] 94 (wI μ 67 0 0) := by
    intro m
    induction m using Nat.strongRecOn with | _ m ih =>
    intro j hm hj
    refine aw_iload d_Mo_missing_46 rfl ?_
    refine aw_if_lt (tgt := 86) d_Mo_missing_48 rfl (fun h48 => ?_) (fun h48 => ?_)
    · refine aw_iload_n d_Mo_missing_86 rfl rfl ?_
      exact aw_iret d_Mo_missing_87 rfl ⟨rfl, Or.inr ⟨hj.1, by rw [show j = 0 by omega], rfl⟩⟩
    · refine aw_aload_n d_Mo_missing_51 rfl rfl ?_
      refine aw_iload_n d_Mo_missing_52 rfl rfl ?_
      refine aw_iload d_Mo_missing_53 rfl ?_
      refine aw_tv (v' := ((j - 1 : Nat) : Int)) (by omega) ?_
      refine aw_iload_n d_Mo_missing_55 rfl rfl ?_
      refine aw_ve (as := [_, _, _]) rfl cv_Mo_194 (by omega) rfl rfl d_Mo_missing_56 (Nat.le_of_ble_eq_true rfl) (d' := d - 1) (by omega) (m_Mo_pairOf (μ := wI μ 67 0 0) (i := i) (k := k) (c := j - 1) (q := q) (by omega) (by omega) hk2 h6 (by omega) hj.1.1 hj.1.2 hse2 hu2 hR2) ?_
      refine aw_tv (v' := pairS (oW μ i k (j - 1) q) (2 ^ k)) (by rw [show oW (wI μ 67 0 0) i k (j - 1) q = oW μ i k (j - 1) q from funext fun v => funext fun u => oW_f μ 0 i k _ q v u]) ?_
      refine aw_if_lt (tgt := 78) d_Mo_missing_59 rfl (fun h59 => ?_) (fun h59 => ?_)
      · refine aw_iload_n d_Mo_missing_78 rfl rfl ?_
        refine aw_tv (v' := lsO (sF (fun j => decide (0 ≤ pairS (oW μ i k j q) (2 ^ k)) && !oCv μ i k j q n) (k - (j - 1)) (j - 1))) (by rw [sF_miss (w := j - 1) (by omega) (by show (decide _ && _) = false; rw [decide_eq_false (show ¬ 0 ≤ pairS (oW μ i k (j - 1) q) (2 ^ k) by omega)]; rfl), show j - 1 + 1 = j by omega]) ?_
        refine aw_istore_n (lst' := [_, _, _, _, _]) d_Mo_missing_79 rfl (Nat.le_of_ble_eq_true rfl) rfl ?_
        refine aw_iinc (lst' := [_, _, _, _, _]) d_Mo_missing_80 (Nat.le_of_ble_eq_true rfl) rfl (by unfold inR; omega) rfl ?_
        refine aw_lc (lst' := [_, _, _, _, some (aI (((j - 1 : Nat) : Int) - 1))]) (by rw [show (j : Int) - 1 + -1 = ((j - 1 : Nat) : Int) - 1 by omega]) ?_
        refine aw_goto (tgt := 46) d_Mo_missing_83 rfl ?_
        exact ih (j - 1) (by omega) (j - 1) rfl ⟨hj.1, by omega⟩
      · refine aw_aload_n d_Mo_missing_62 rfl rfl ?_
        refine aw_iload_n d_Mo_missing_63 rfl rfl ?_
        refine aw_iload d_Mo_missing_64 rfl ?_
        refine aw_tv (v' := ((j - 1 : Nat) : Int)) (by omega) ?_
        refine aw_iload_n d_Mo_missing_66 rfl rfl ?_
        refine aw_ve (as := [_, _, _]) rfl cv_Mo_216 (by omega) rfl rfl d_Mo_missing_67 (Nat.le_of_ble_eq_true rfl) (d' := d - 1) (by omega) (m_Mo_isCovered (μ := wI μ 67 0 0) (i := i) (k := k) (c := j - 1) (q := q) (n := n) (by omega) (by omega) hk2 h6 (by omega) hj.1.1 hj.1.2 hse2 hu2 hn2 hn12 hrec2 hl2 hR2) ?_
        refine aw_tv (v' := bI (oCv μ i k (j - 1) q n)) (by rw [oCv_f]) ?_
        refine aw_if_ne (tgt := 78) d_Mo_missing_70 rfl (fun h70 => ?_) (fun h70 => ?_)
        · replace h70 := bn h70
          refine aw_iload_n d_Mo_missing_78 rfl rfl ?_
          refine aw_tv (v' := lsO (sF (fun j => decide (0 ≤ pairS (oW μ i k j q) (2 ^ k)) && !oCv μ i k j q n) (k - (j - 1)) (j - 1))) (by rw [sF_miss (w := j - 1) (by omega) (by show (decide _ && _) = false; rw [h70]; simp), show j - 1 + 1 = j by omega]) ?_
          refine aw_istore_n (lst' := [_, _, _, _, _]) d_Mo_missing_79 rfl (Nat.le_of_ble_eq_true rfl) rfl ?_
          refine aw_iinc (lst' := [_, _, _, _, _]) d_Mo_missing_80 (Nat.le_of_ble_eq_true rfl) rfl (by unfold inR; omega) rfl ?_
          refine aw_lc (lst' := [_, _, _, _, some (aI (((j - 1 : Nat) : Int) - 1))]) (by rw [show (j : Int) - 1 + -1 = ((j - 1 : Nat) : Int) - 1 by omega]) ?_
          refine aw_goto (tgt := 46) d_Mo_missing_83 rfl ?_
          exact ih (j - 1) (by omega) (j - 1) rfl ⟨hj.1, by omega⟩
        · replace h70 := bz h70
          refine aw_iload d_Mo_missing_73 rfl ?_
          refine aw_tv (v' := lsO (sF (fun j => decide (0 ≤ pairS (oW μ i k j q) (2 ^ k)) && !oCv μ i k j q n) (k - (j - 1)) (j - 1))) (by rw [sF_hit (by omega) (by show (decide _ && _) = true; rw [decide_eq_true (show 0 ≤ pairS (oW μ i k (j - 1) q) (2 ^ k) by omega), h70]; rfl)]; show (j : Int) - 1 = ((j - 1 : Nat) : Int); omega) ?_
          refine aw_goto (tgt := 79) d_Mo_missing_75 rfl ?_
          refine aw_istore_n (lst' := [_, _, _, _, _]) d_Mo_missing_79 rfl (Nat.le_of_ble_eq_true rfl) rfl ?_
          refine aw_iinc (lst' := [_, _, _, _, _]) d_Mo_missing_80 (Nat.le_of_ble_eq_true rfl) rfl (by unfold inR; omega) rfl ?_
          refine aw_lc (lst' := [_, _, _, _, some (aI (((j - 1 : Nat) : Int) - 1))]) (by rw [show (j : Int) - 1 + -1 = ((j - 1 : Nat) : Int) - 1 by omega]) ?_
          refine aw_goto (tgt := 46) d_Mo_missing_83 rfl ?_
          exact ih (j - 1) (by omega) (j - 1) rfl ⟨hj.1, by omega⟩
  refine aw_aload_n d_Mo_missing_0 rfl rfl ?_
  refine aw_aload_n d_Mo_missing_1 rfl rfl ?_
  refine aw_iload_n d_Mo_missing_2 rfl rfl ?_
  refine aw_ve (as := [_]) rfl cv_Mo_159 (by omega) rfl rfl d_Mo_missing_3 (Nat.le_of_ble_eq_true rfl) (d' := d - 1) (by omega) (g_Mo_isDecision (by omega) hi h4) ?_
  refine aw_if_ne (tgt := 13) d_Mo_missing_6 rfl (fun h6 => ?_) (fun h6 => absurd h6 (by omega))
  refine aw_iconst d_Mo_missing_13 (in_c rfl) ?_
  refine aw_iload_n d_Mo_missing_14 rfl rfl ?_
  refine aw_se (as := [_]) rfl cs_Mo_191 d_Mo_missing_15 (Nat.le_of_ble_eq_true rfl) (d' := d - 1) (by omega) (m_Mo_isCriterion (by omega) hq) ?_
  refine aw_if_ne (tgt := 25) d_Mo_missing_18 rfl (fun h18 => ?_) (fun h18 => ?_)
  · replace h18 := ite_n h18
    refine aw_iconst d_Mo_missing_25 (in_c rfl) ?_
    refine aw_ve (as := [_, _]) rfl cv_Mo_96 (by omega) rfl rfl d_Mo_missing_26 (Nat.le_of_ble_eq_true rfl) (d' := d - 1) (by omega) (m_Mo_refused_0 (by omega)) ?_
    refine aw_if_eq (tgt := 34) d_Mo_missing_29 rfl (fun h29 => ?_) (fun h29 => absurd (by omega) h29)
    refine aw_iconst d_Mo_missing_34 (in_c rfl) ?_
    refine aw_istore_n (lst' := [_, _, _, _, _]) d_Mo_missing_35 rfl (Nat.le_of_ble_eq_true rfl) rfl ?_
    refine aw_aload_n d_Mo_missing_36 rfl rfl ?_
    refine aw_getR fd_Mo_many lk_Mo_41 (by omega) rfl d_Mo_missing_37 (hR _ _) ?_
    refine aw_iload_n d_Mo_missing_40 rfl rfl ?_
    refine aw_iald (n := i) (by omega) rfl rfl (by omega) d_Mo_missing_41 ?_
    refine aw_tv (v' := (k : Int)) hk ?_
    refine aw_iconst d_Mo_missing_42 (in_c rfl) ?_
    refine aw_isub d_Mo_missing_43 (by unfold inR; omega) ?_
    refine aw_pc (pc' := 44) rfl ?_
    refine aw_istore (lst' := [_, _, _, _, _]) d_Mo_missing_44 (Nat.le_of_ble_eq_true rfl) rfl ?_
    refine aw_lc (lst' := [_, _, _, some (aI (lsO (sF (fun j => decide (0 ≤ pairS (oW μ i k j q) (2 ^ k)) && !oCv μ i k j q n) (k - k) k))), _]) (by rw [sF_end (Nat.le_refl k)]; rfl) ?_
    exact key k k rfl ⟨h18, Nat.le_refl _⟩
  · replace h18 := ite_z h18
    refine aw_iconst d_Mo_missing_21 (in_c rfl) ?_
    refine aw_goto (tgt := 26) d_Mo_missing_22 rfl ?_
    refine aw_ve (as := [_, _]) rfl cv_Mo_96 (by omega) rfl rfl d_Mo_missing_26 (Nat.le_of_ble_eq_true rfl) (d' := d - 1) (by omega) (m_Mo_refused_2 (by omega)) ?_
    refine aw_if_eq (tgt := 34) d_Mo_missing_29 rfl (fun h29 => absurd h29 (by omega)) (fun h29 => ?_)
    refine aw_iconst d_Mo_missing_32 (in_c rfl) ?_
    exact aw_iret d_Mo_missing_33 rfl ⟨rfl, Or.inl ⟨h18, rfl, rfl⟩⟩
end
