/-! input, condition, type .. -/
section
variable {G : aG} {pg : Nat} {μ : aM}
set_option maxRecDepth 100000 in
theorem m_MC_input {d : Nat} (hd : 7 ≤ d) {lo hi : Int} {c : Nat} (hlo : inR lo) (hhi : inR hi) (hc : mI μ 1 2 = (c : Int)) (h3 : c ≤ 3) (hR : ∀ k j, mR μ k j = R0 pg k j) : AM G false d 3 18 y_MC_input [aP 0, aI lo, aI hi] 94 μ (fun r n9 m => n9 = 94 ∧ (((c = 3 ∨ 0 < mI μ 4 4) ∧ r = .inr 0 ∧ m = μ) ∨ (¬ (c = 3 ∨ 0 < mI μ 4 4) ∧ ¬ (-20 ≤ lo ∧ lo ≤ hi ∧ hi ≤ 20) ∧ r = .inr 1 ∧ m = μ) ∨ (¬ (c = 3 ∨ 0 < mI μ 4 4) ∧ (-20 ≤ lo ∧ lo ≤ hi ∧ hi ≤ 20) ∧ r = .inl (some (aI (c : Int))) ∧ m = wI (wI (wI μ 2 c lo) 3 c hi) 1 2 ((c : Int) + 1)))) := by
  refine am_of (n := 0) pf_MC_input (Nat.le_of_ble_eq_true rfl) (by intro v hv; simp only [List.mem_cons, List.not_mem_nil, or_false] at hv; rcases hv with rfl | rfl | rfl <;> first | trivial | assumption) rfl ?_
  refine aw_aload_n d_MC_input_0 rfl rfl ?_
  refine aw_getR fd_MC_inputs lk_MC_10 (by omega) rfl d_MC_input_1 (hR _ _) ?_
  refine aw_ve (as := []) rfl cv_MC_92 (by omega) rfl rfl d_MC_input_4 (Nat.le_of_ble_eq_true rfl) (d' := d - 1) (by omega) (m_In_isFull (by omega)) ?_
  refine aw_if_ne (tgt := 20) d_MC_input_7 rfl (fun h7 => ?_) (fun h7 => ?_)
  · replace h7 := ite_n h7
    exact aw_throw thr_0 d_MC_input_20 d_MC_input_23 d_MC_input_24 d_MC_input_27 (by intro z hz; cases hz) (by omega) (by omega) (by omega) (Nat.le_of_ble_eq_true rfl) ⟨rfl, Or.inl ⟨by omega, rfl, rfl⟩⟩
  · replace h7 := ite_z h7
    refine aw_aload_n d_MC_input_10 rfl rfl ?_
    refine aw_getR fd_MC_conditions lk_MC_19 (by omega) rfl d_MC_input_11 (hR _ _) ?_
    refine aw_ve (as := []) rfl cv_MC_96 (by omega) rfl rfl d_MC_input_14 (Nat.le_of_ble_eq_true rfl) (d' := d - 1) (by omega) (m_Co_size (by omega)) ?_
    refine aw_if_le (tgt := 28) d_MC_input_17 rfl (fun h17 => ?_) (fun h17 => ?_)
    · refine aw_iload_n d_MC_input_28 rfl rfl ?_
      refine aw_bipush (z := (-20)) d_MC_input_29 (in_c rfl) rfl ?_
      refine aw_icmp_lt (tgt := 45) d_MC_input_31 rfl (fun h31 => ?_) (fun h31 => ?_)
      · exact aw_throw thr_1 d_MC_input_45 d_MC_input_48 d_MC_input_49 d_MC_input_52 (by intro z hz; cases hz) (by omega) (by omega) (by omega) (Nat.le_of_ble_eq_true rfl) ⟨rfl, Or.inr (Or.inl ⟨by omega, by omega, rfl, rfl⟩)⟩
      · refine aw_iload_n d_MC_input_34 rfl rfl ?_
        refine aw_iload_n d_MC_input_35 rfl rfl ?_
        refine aw_icmp_gt (tgt := 45) d_MC_input_36 rfl (fun h36 => ?_) (fun h36 => ?_)
        · exact aw_throw thr_1 d_MC_input_45 d_MC_input_48 d_MC_input_49 d_MC_input_52 (by intro z hz; cases hz) (by omega) (by omega) (by omega) (Nat.le_of_ble_eq_true rfl) ⟨rfl, Or.inr (Or.inl ⟨by omega, by omega, rfl, rfl⟩)⟩
        · refine aw_iload_n d_MC_input_39 rfl rfl ?_
          refine aw_bipush (z := 20) d_MC_input_40 (in_c rfl) rfl ?_
          refine aw_icmp_le (tgt := 53) d_MC_input_42 rfl (fun h42 => ?_) (fun h42 => ?_)
          · refine aw_aload_n d_MC_input_53 rfl rfl ?_
            refine aw_getR fd_MC_inputs lk_MC_10 (by omega) rfl d_MC_input_54 (hR _ _) ?_
            refine aw_iload_n d_MC_input_57 rfl rfl ?_
            refine aw_iload_n d_MC_input_58 rfl rfl ?_
            refine aw_ve (as := [_, _]) rfl cv_MC_106 (by omega) rfl rfl d_MC_input_59 (Nat.le_of_ble_eq_true rfl) (d' := d - 1) (by omega) (m_In_add (by omega) (by assumption) (by assumption) hc (by omega) hR) ?_
            exact aw_iret d_MC_input_62 rfl ⟨rfl, Or.inr (Or.inr (⟨by omega, by omega, rfl, rfl⟩))⟩
          · exact aw_throw thr_1 d_MC_input_45 d_MC_input_48 d_MC_input_49 d_MC_input_52 (by intro z hz; cases hz) (by omega) (by omega) (by omega) (Nat.le_of_ble_eq_true rfl) ⟨rfl, Or.inr (Or.inl ⟨by omega, by omega, rfl, rfl⟩)⟩
    · exact aw_throw thr_0 d_MC_input_20 d_MC_input_23 d_MC_input_24 d_MC_input_27 (by intro z hz; cases hz) (by omega) (by omega) (by omega) (Nat.le_of_ble_eq_true rfl) ⟨rfl, Or.inl ⟨by omega, rfl, rfl⟩⟩
set_option maxRecDepth 100000 in
theorem m_MC_condition {d : Nat} (hd : 7 ≤ d) {kd a b k : Int} {c : Nat} (h1 : inR kd) (h2 : inR a) (h3 : inR b) (h4 : inR k) (hc : mI μ 4 4 = (c : Int)) (h8 : c ≤ 8) (hR : ∀ k j, mR μ k j = R0 pg k j) : AM G false d 3 18 y_MC_condition [aP 0, aI kd, aI a, aI b, aI k] 94 μ (fun r n9 m => n9 = 94 ∧ ((c = 8 ∧ r = .inr 0 ∧ m = μ) ∨ (¬ c = 8 ∧ ¬ ((0 ≤ a ∧ a < mI μ 1 2) ∧ (b = -1 ∨ (0 ≤ b ∧ b < mI μ 1 2))) ∧ r = .inr 2 ∧ m = μ) ∨ (¬ c = 8 ∧ ((0 ≤ a ∧ a < mI μ 1 2) ∧ (b = -1 ∨ (0 ≤ b ∧ b < mI μ 1 2))) ∧ ¬ (0 ≤ kd ∧ kd ≤ 3 ∧ -50 ≤ k ∧ k ≤ 50 ∧ ¬ a = b) ∧ r = .inr 1 ∧ m = μ) ∨ (¬ c = 8 ∧ ((0 ≤ a ∧ a < mI μ 1 2) ∧ (b = -1 ∨ (0 ≤ b ∧ b < mI μ 1 2))) ∧ (0 ≤ kd ∧ kd ≤ 3 ∧ -50 ≤ k ∧ k ≤ 50 ∧ ¬ a = b) ∧ r = .inl (some (aI (c : Int))) ∧ m = wI (wI (wI (wI (wI μ 5 c kd) 6 c a) 7 c b) 8 c k) 4 4 ((c : Int) + 1)))) := by
  refine am_of (n := 0) pf_MC_condition (Nat.le_of_ble_eq_true rfl) (by intro v hv; simp only [List.mem_cons, List.not_mem_nil, or_false] at hv; rcases hv with rfl | rfl | rfl | rfl | rfl <;> first | trivial | assumption) rfl ?_
  refine aw_aload_n d_MC_condition_0 rfl rfl ?_
  refine aw_getR fd_MC_conditions lk_MC_19 (by omega) rfl d_MC_condition_1 (hR _ _) ?_
  refine aw_ve (as := []) rfl cv_MC_110 (by omega) rfl rfl d_MC_condition_4 (Nat.le_of_ble_eq_true rfl) (d' := d - 1) (by omega) (m_Co_isFull (by omega)) ?_
  refine aw_if_eq (tgt := 18) d_MC_condition_7 rfl (fun h7 => ?_) (fun h7 => ?_)
  · replace h7 := ite_z h7
    refine aw_aload_n d_MC_condition_18 rfl rfl ?_
    refine aw_getR fd_MC_inputs lk_MC_10 (by omega) rfl d_MC_condition_19 (hR _ _) ?_
    refine aw_iload_n d_MC_condition_22 rfl rfl ?_
    refine aw_ve (as := [_]) rfl cv_MC_111 (by omega) rfl rfl d_MC_condition_23 (Nat.le_of_ble_eq_true rfl) (d' := d - 1) (by omega) (m_In_has (by omega) (by assumption)) ?_
    refine aw_if_eq (tgt := 45) d_MC_condition_26 rfl (fun h26 => ?_) (fun h26 => ?_)
    · replace h26 := ite_z h26
      exact aw_throw thr_2 d_MC_condition_45 d_MC_condition_48 d_MC_condition_49 d_MC_condition_52 (by intro z hz; cases hz) (by omega) (by omega) (by omega) (Nat.le_of_ble_eq_true rfl) ⟨rfl, Or.inr (Or.inl ⟨by omega, by omega, rfl, rfl⟩)⟩
    · replace h26 := ite_n h26
      refine aw_iload_n d_MC_condition_29 rfl rfl ?_
      refine aw_iconst d_MC_condition_30 (in_c rfl) ?_
      refine aw_icmp_eq (tgt := 53) d_MC_condition_31 rfl (fun h31 => ?_) (fun h31 => ?_)
      · refine aw_iload_n d_MC_condition_53 rfl rfl ?_
        refine aw_if_lt (tgt := 81) d_MC_condition_54 rfl (fun h54 => ?_) (fun h54 => ?_)
        · exact aw_throw thr_1 d_MC_condition_81 d_MC_condition_84 d_MC_condition_85 d_MC_condition_88 (by intro z hz; cases hz) (by omega) (by omega) (by omega) (Nat.le_of_ble_eq_true rfl) ⟨rfl, Or.inr (Or.inr (Or.inl ⟨by omega, by omega, by omega, rfl, rfl⟩))⟩
        · refine aw_iload_n d_MC_condition_57 rfl rfl ?_
          refine aw_iconst d_MC_condition_58 (in_c rfl) ?_
          refine aw_icmp_gt (tgt := 81) d_MC_condition_59 rfl (fun h59 => ?_) (fun h59 => ?_)
          · exact aw_throw thr_1 d_MC_condition_81 d_MC_condition_84 d_MC_condition_85 d_MC_condition_88 (by intro z hz; cases hz) (by omega) (by omega) (by omega) (Nat.le_of_ble_eq_true rfl) ⟨rfl, Or.inr (Or.inr (Or.inl ⟨by omega, by omega, by omega, rfl, rfl⟩))⟩
          · refine aw_iload d_MC_condition_62 rfl ?_
            refine aw_bipush (z := (-50)) d_MC_condition_64 (in_c rfl) rfl ?_
            refine aw_icmp_lt (tgt := 81) d_MC_condition_66 rfl (fun h66 => ?_) (fun h66 => ?_)
            · exact aw_throw thr_1 d_MC_condition_81 d_MC_condition_84 d_MC_condition_85 d_MC_condition_88 (by intro z hz; cases hz) (by omega) (by omega) (by omega) (Nat.le_of_ble_eq_true rfl) ⟨rfl, Or.inr (Or.inr (Or.inl ⟨by omega, by omega, by omega, rfl, rfl⟩))⟩
            · refine aw_iload d_MC_condition_69 rfl ?_
              refine aw_bipush (z := 50) d_MC_condition_71 (in_c rfl) rfl ?_
              refine aw_icmp_gt (tgt := 81) d_MC_condition_73 rfl (fun h73 => ?_) (fun h73 => ?_)
              · exact aw_throw thr_1 d_MC_condition_81 d_MC_condition_84 d_MC_condition_85 d_MC_condition_88 (by intro z hz; cases hz) (by omega) (by omega) (by omega) (Nat.le_of_ble_eq_true rfl) ⟨rfl, Or.inr (Or.inr (Or.inl ⟨by omega, by omega, by omega, rfl, rfl⟩))⟩
              · refine aw_iload_n d_MC_condition_76 rfl rfl ?_
                refine aw_iload_n d_MC_condition_77 rfl rfl ?_
                refine aw_icmp_ne (tgt := 89) d_MC_condition_78 rfl (fun h78 => ?_) (fun h78 => ?_)
                · refine aw_aload_n d_MC_condition_89 rfl rfl ?_
                  refine aw_getR fd_MC_conditions lk_MC_19 (by omega) rfl d_MC_condition_90 (hR _ _) ?_
                  refine aw_iload_n d_MC_condition_93 rfl rfl ?_
                  refine aw_iload_n d_MC_condition_94 rfl rfl ?_
                  refine aw_iload_n d_MC_condition_95 rfl rfl ?_
                  refine aw_iload d_MC_condition_96 rfl ?_
                  refine aw_ve (as := [_, _, _, _]) rfl cv_MC_118 (by omega) rfl rfl d_MC_condition_98 (Nat.le_of_ble_eq_true rfl) (d' := d - 1) (by omega) (m_Co_add (by omega) (by assumption) (by assumption) (by assumption) (by assumption) hc (by omega) hR) ?_
                  exact aw_iret d_MC_condition_101 rfl ⟨rfl, Or.inr (Or.inr (Or.inr (⟨by omega, by omega, by omega, rfl, rfl⟩)))⟩
                · exact aw_throw thr_1 d_MC_condition_81 d_MC_condition_84 d_MC_condition_85 d_MC_condition_88 (by intro z hz; cases hz) (by omega) (by omega) (by omega) (Nat.le_of_ble_eq_true rfl) ⟨rfl, Or.inr (Or.inr (Or.inl ⟨by omega, by omega, by omega, rfl, rfl⟩))⟩
      · refine aw_aload_n d_MC_condition_34 rfl rfl ?_
        refine aw_getR fd_MC_inputs lk_MC_10 (by omega) rfl d_MC_condition_35 (hR _ _) ?_
        refine aw_iload_n d_MC_condition_38 rfl rfl ?_
        refine aw_ve (as := [_]) rfl cv_MC_111 (by omega) rfl rfl d_MC_condition_39 (Nat.le_of_ble_eq_true rfl) (d' := d - 1) (by omega) (m_In_has (by omega) (by assumption)) ?_
        refine aw_if_ne (tgt := 53) d_MC_condition_42 rfl (fun h42 => ?_) (fun h42 => ?_)
        · replace h42 := ite_n h42
          refine aw_iload_n d_MC_condition_53 rfl rfl ?_
          refine aw_if_lt (tgt := 81) d_MC_condition_54 rfl (fun h54 => ?_) (fun h54 => ?_)
          · exact aw_throw thr_1 d_MC_condition_81 d_MC_condition_84 d_MC_condition_85 d_MC_condition_88 (by intro z hz; cases hz) (by omega) (by omega) (by omega) (Nat.le_of_ble_eq_true rfl) ⟨rfl, Or.inr (Or.inr (Or.inl ⟨by omega, by omega, by omega, rfl, rfl⟩))⟩
          · refine aw_iload_n d_MC_condition_57 rfl rfl ?_
            refine aw_iconst d_MC_condition_58 (in_c rfl) ?_
            refine aw_icmp_gt (tgt := 81) d_MC_condition_59 rfl (fun h59 => ?_) (fun h59 => ?_)
            · exact aw_throw thr_1 d_MC_condition_81 d_MC_condition_84 d_MC_condition_85 d_MC_condition_88 (by intro z hz; cases hz) (by omega) (by omega) (by omega) (Nat.le_of_ble_eq_true rfl) ⟨rfl, Or.inr (Or.inr (Or.inl ⟨by omega, by omega, by omega, rfl, rfl⟩))⟩
            · refine aw_iload d_MC_condition_62 rfl ?_
              refine aw_bipush (z := (-50)) d_MC_condition_64 (in_c rfl) rfl ?_
              refine aw_icmp_lt (tgt := 81) d_MC_condition_66 rfl (fun h66 => ?_) (fun h66 => ?_)
              · exact aw_throw thr_1 d_MC_condition_81 d_MC_condition_84 d_MC_condition_85 d_MC_condition_88 (by intro z hz; cases hz) (by omega) (by omega) (by omega) (Nat.le_of_ble_eq_true rfl) ⟨rfl, Or.inr (Or.inr (Or.inl ⟨by omega, by omega, by omega, rfl, rfl⟩))⟩
              · refine aw_iload d_MC_condition_69 rfl ?_
                refine aw_bipush (z := 50) d_MC_condition_71 (in_c rfl) rfl ?_
                refine aw_icmp_gt (tgt := 81) d_MC_condition_73 rfl (fun h73 => ?_) (fun h73 => ?_)
                · exact aw_throw thr_1 d_MC_condition_81 d_MC_condition_84 d_MC_condition_85 d_MC_condition_88 (by intro z hz; cases hz) (by omega) (by omega) (by omega) (Nat.le_of_ble_eq_true rfl) ⟨rfl, Or.inr (Or.inr (Or.inl ⟨by omega, by omega, by omega, rfl, rfl⟩))⟩
                · refine aw_iload_n d_MC_condition_76 rfl rfl ?_
                  refine aw_iload_n d_MC_condition_77 rfl rfl ?_
                  refine aw_icmp_ne (tgt := 89) d_MC_condition_78 rfl (fun h78 => ?_) (fun h78 => ?_)
                  · refine aw_aload_n d_MC_condition_89 rfl rfl ?_
                    refine aw_getR fd_MC_conditions lk_MC_19 (by omega) rfl d_MC_condition_90 (hR _ _) ?_
                    refine aw_iload_n d_MC_condition_93 rfl rfl ?_
                    refine aw_iload_n d_MC_condition_94 rfl rfl ?_
                    refine aw_iload_n d_MC_condition_95 rfl rfl ?_
                    refine aw_iload d_MC_condition_96 rfl ?_
                    refine aw_ve (as := [_, _, _, _]) rfl cv_MC_118 (by omega) rfl rfl d_MC_condition_98 (Nat.le_of_ble_eq_true rfl) (d' := d - 1) (by omega) (m_Co_add (by omega) (by assumption) (by assumption) (by assumption) (by assumption) hc (by omega) hR) ?_
                    exact aw_iret d_MC_condition_101 rfl ⟨rfl, Or.inr (Or.inr (Or.inr (⟨by omega, by omega, by omega, rfl, rfl⟩)))⟩
                  · exact aw_throw thr_1 d_MC_condition_81 d_MC_condition_84 d_MC_condition_85 d_MC_condition_88 (by intro z hz; cases hz) (by omega) (by omega) (by omega) (Nat.le_of_ble_eq_true rfl) ⟨rfl, Or.inr (Or.inr (Or.inl ⟨by omega, by omega, by omega, rfl, rfl⟩))⟩
        · replace h42 := ite_z h42
          exact aw_throw thr_2 d_MC_condition_45 d_MC_condition_48 d_MC_condition_49 d_MC_condition_52 (by intro z hz; cases hz) (by omega) (by omega) (by omega) (Nat.le_of_ble_eq_true rfl) ⟨rfl, Or.inr (Or.inl ⟨by omega, by omega, rfl, rfl⟩)⟩
  · replace h7 := ite_n h7
    exact aw_throw thr_0 d_MC_condition_10 d_MC_condition_13 d_MC_condition_14 d_MC_condition_17 (by intro z hz; cases hz) (by omega) (by omega) (by omega) (Nat.le_of_ble_eq_true rfl) ⟨rfl, Or.inl ⟨by omega, rfl, rfl⟩⟩
set_option maxRecDepth 100000 in
theorem m_MC_type {d : Nat} (hd : 1 ≤ d) {n : Nat} (hn : mI μ 9 1 = (n : Int)) (h40 : n ≤ 40) {ch : Int} (hch : 0 ≤ ch ∧ ch < 65536) (hR : ∀ k j, mR μ k j = R0 pg k j) : AM G false d 0 0 y_MC_type [aP 0, aI ch] 94 μ (fun r n9 m => n9 = 94 ∧ ((¬ (32 ≤ ch ∧ ch ≤ 126 ∧ n < 40) ∧ r = .inl (some (aI 0)) ∧ m = μ) ∨ ((32 ≤ ch ∧ ch ≤ 126 ∧ n < 40) ∧ r = .inl (some (aI 1)) ∧ m = wI (wI μ 10 n ch) 9 1 ((n : Int) + 1)))) := by
  refine am_of (n := 0) pf_MC_type (Nat.le_of_ble_eq_true rfl) (by intro v hv; simp only [List.mem_cons, List.not_mem_nil, or_false] at hv; rcases hv with rfl | rfl; trivial; show inR ch; unfold inR; omega) rfl ?_
  refine aw_iload_n d_MC_type_0 rfl rfl ?_
  refine aw_bipush (z := 32) d_MC_type_1 (in_c rfl) rfl ?_
  refine aw_icmp_lt (tgt := 27) d_MC_type_3 rfl (fun h3 => ?_) (fun h3 => ?_)
  · refine aw_iconst d_MC_type_27 (in_c rfl) ?_
    exact aw_zret d_MC_type_28 rfl rfl (by first | exact ⟨rfl, Or.inl ⟨by omega, rfl, by first | rfl | rw [if_pos (by omega)]⟩⟩ | exact ⟨rfl, Or.inr ⟨by omega, rfl, by rw [if_neg (by omega)]⟩⟩)
  · refine aw_iload_n d_MC_type_6 rfl rfl ?_
    refine aw_bipush (z := 126) d_MC_type_7 (in_c rfl) rfl ?_
    refine aw_icmp_gt (tgt := 27) d_MC_type_9 rfl (fun h9 => ?_) (fun h9 => ?_)
    · refine aw_iconst d_MC_type_27 (in_c rfl) ?_
      exact aw_zret d_MC_type_28 rfl rfl (by first | exact ⟨rfl, Or.inl ⟨by omega, rfl, by first | rfl | rw [if_pos (by omega)]⟩⟩ | exact ⟨rfl, Or.inr ⟨by omega, rfl, by rw [if_neg (by omega)]⟩⟩)
    · refine aw_aload_n d_MC_type_12 rfl rfl ?_
      refine aw_getR fd_MC_text lk_MC_26 (by omega) rfl d_MC_type_13 (hR _ _) ?_
      refine aw_iload_n d_MC_type_16 rfl rfl ?_
      refine aw_ve (as := [_]) rfl cv_MC_121 (by omega) rfl rfl d_MC_type_17 (Nat.le_of_ble_eq_true rfl) (d' := d - 1) (by omega) (m_Li_put (k := 9) (by omega) (by omega) rfl rfl (hR 9 0) hn h40 hch) ?_
      refine aw_if_eq (tgt := 27) d_MC_type_20 rfl (fun h20 => ?_) (fun h20 => ?_)
      · refine aw_iconst d_MC_type_27 (in_c rfl) ?_
        exact aw_zret d_MC_type_28 rfl rfl (by first | exact ⟨rfl, Or.inl ⟨by omega, rfl, by first | rfl | rw [if_pos (by omega)]⟩⟩ | exact ⟨rfl, Or.inr ⟨by omega, rfl, by rw [if_neg (by omega)]⟩⟩)
      · refine aw_iconst d_MC_type_23 (in_c rfl) ?_
        refine aw_goto (tgt := 28) d_MC_type_24 rfl ?_
        exact aw_zret d_MC_type_28 rfl rfl (by first | exact ⟨rfl, Or.inl ⟨by omega, rfl, by first | rfl | rw [if_pos (by omega)]⟩⟩ | exact ⟨rfl, Or.inr ⟨by omega, rfl, by rw [if_neg (by omega)]⟩⟩)
set_option maxRecDepth 100000 in
theorem m_MC_wipe {d : Nat} (hd : 1 ≤ d) (hR : ∀ k j, mR μ k j = R0 pg k j) : AM G false d 0 0 y_MC_wipe [aP 0] 94 μ (Qe (some (aI (mI μ 9 1))) 94 (wI μ 9 1 0)) := by
  refine am_of (n := 0) pf_MC_wipe (Nat.le_of_ble_eq_true rfl) (by intro v hv; simp only [List.mem_cons, List.not_mem_nil, or_false] at hv; rcases hv with rfl <;> first | trivial | assumption) rfl ?_
  refine aw_aload_n d_MC_wipe_0 rfl rfl ?_
  refine aw_getR fd_MC_text lk_MC_26 (by omega) rfl d_MC_wipe_1 (hR _ _) ?_
  refine aw_ve (as := []) rfl cv_MC_125 (by omega) rfl rfl d_MC_wipe_4 (Nat.le_of_ble_eq_true rfl) (d' := d - 1) (by omega) (m_Li_clear (k := 9) (by omega) (by omega) rfl rfl (hR 9 0)) ?_
  exact aw_iret d_MC_wipe_7 rfl ⟨rfl, rfl, rfl⟩
set_option maxRecDepth 100000 in
theorem m_MC_forget {d : Nat} (hd : 1 ≤ d) (hR : ∀ k j, mR μ k j = R0 pg k j) : AM G false d 0 0 y_MC_forget [aP 0] 94 μ (Qe (some (aI (mI μ 63 1))) 94 (wI μ 63 1 0)) := by
  refine am_of (n := 0) pf_MC_forget (Nat.le_of_ble_eq_true rfl) (by intro v hv; simp only [List.mem_cons, List.not_mem_nil, or_false] at hv; rcases hv with rfl <;> first | trivial | assumption) rfl ?_
  refine aw_aload_n d_MC_forget_0 rfl rfl ?_
  refine aw_getR fd_MC_records lk_MC_81 (by omega) rfl d_MC_forget_1 (hR _ _) ?_
  refine aw_ve (as := []) rfl cv_MC_207 (by omega) rfl rfl d_MC_forget_4 (Nat.le_of_ble_eq_true rfl) (d' := d - 1) (by omega) (m_Rc_clear (by omega)) ?_
  exact aw_iret d_MC_forget_7 rfl ⟨rfl, rfl, rfl⟩
set_option maxRecDepth 100000 in
theorem m_MC_suiteAt {d : Nat} (hd : 1 ≤ d) {i : Int} (hi : inR i) (h12 : mI μ 59 1 ≤ 12) (hR : ∀ k j, mR μ k j = R0 pg k j) : AM G false d 0 0 y_MC_suiteAt [aP 0, aI i] 94 μ (Qe (some (aI (if 0 ≤ i ∧ i < mI μ 59 1 then mI μ 60 i.toNat else -1))) 94 μ) := by
  refine am_of (n := 0) pf_MC_suiteAt (Nat.le_of_ble_eq_true rfl) (by intro v hv; simp only [List.mem_cons, List.not_mem_nil, or_false] at hv; rcases hv with rfl | rfl <;> first | trivial | assumption) rfl ?_
  refine aw_aload_n d_MC_suiteAt_0 rfl rfl ?_
  refine aw_getR fd_MC_suite lk_MC_67 (by omega) rfl d_MC_suiteAt_1 (hR _ _) ?_
  refine aw_iload_n d_MC_suiteAt_4 rfl rfl ?_
  refine aw_ve (as := [_]) rfl cv_MC_193 (by omega) rfl rfl d_MC_suiteAt_5 (Nat.le_of_ble_eq_true rfl) (d' := d - 1) (by omega) (m_Su_wordAt (by omega) hi h12 hR) ?_
  exact aw_iret d_MC_suiteAt_8 rfl ⟨rfl, rfl, rfl⟩
set_option maxRecDepth 100000 in
theorem m_MC_length {d : Nat} (hd : 1 ≤ d) {p0 : Nat} (hp : pg = p0) (hpk : p0 + 1 < 94) (hq : shL[p0]? = some (3 + 10, 0)) (hq1 : shL[p0 + 1]? = some (2, 40)) (hpr : mR μ p0 0 = some (p0 + 1)) (hR : ∀ k j, mR μ k j = R0 pg k j) : AM G false d 0 0 y_MC_length [aP 0] 94 μ (Qe (some (aI (mI μ p0 1))) 94 μ) := by
  refine am_of (n := 0) pf_MC_length (Nat.le_of_ble_eq_true rfl) (by intro v hv; simp only [List.mem_cons, List.not_mem_nil, or_false] at hv; rcases hv with rfl <;> first | trivial | assumption) rfl ?_
  refine aw_aload_n d_MC_length_0 rfl rfl ?_
  refine aw_getR fd_MC_page lk_MC_89 (by omega) rfl d_MC_length_1 ((hR 0 11).trans (by rw [hp]; rfl)) ?_
  refine aw_ve (as := []) rfl cv_MC_149 (by omega) hq rfl d_MC_length_4 (Nat.le_of_ble_eq_true rfl) (d' := d - 1) (by omega) (m_Li_size (by omega) hpk hq hq1 hpr) ?_
  exact aw_iret d_MC_length_7 rfl ⟨rfl, rfl, rfl⟩
set_option maxRecDepth 100000 in
theorem m_MC_charAt {d : Nat} (hd : 1 ≤ d) {p0 : Nat} (hp : pg = p0) (hpk : p0 + 1 < 94) (hq : shL[p0]? = some (3 + 10, 0)) (hq1 : shL[p0 + 1]? = some (2, 40)) (hpr : mR μ p0 0 = some (p0 + 1)) {i : Int} (hi : inR i) (h40 : mI μ p0 1 ≤ 40) (hch : ∀ j, 0 ≤ mI μ (p0 + 1) j ∧ mI μ (p0 + 1) j < 65536) (hR : ∀ k j, mR μ k j = R0 pg k j) : AM G false d 0 0 y_MC_charAt [aP 0, aI i] 94 μ (Qe (some (aI (if 0 ≤ i ∧ i < mI μ p0 1 then mI μ (p0 + 1) i.toNat else 32))) 94 μ) := by
  refine am_of (n := 0) pf_MC_charAt (Nat.le_of_ble_eq_true rfl) (by intro v hv; simp only [List.mem_cons, List.not_mem_nil, or_false] at hv; rcases hv with rfl | rfl <;> first | trivial | assumption) rfl ?_
  refine aw_aload_n d_MC_charAt_0 rfl rfl ?_
  refine aw_getR fd_MC_page lk_MC_89 (by omega) rfl d_MC_charAt_1 ((hR 0 11).trans (by rw [hp]; rfl)) ?_
  refine aw_iload_n d_MC_charAt_4 rfl rfl ?_
  refine aw_ve (as := [_]) rfl cv_MC_219 (by omega) hq rfl d_MC_charAt_5 (Nat.le_of_ble_eq_true rfl) (d' := d - 1) (by omega) (m_Li_at (by omega) hpk hq hq1 hpr hi h40 hch) ?_
  exact aw_zret d_MC_charAt_8 rfl (nr_c (by split; exact hch _; omega)) ⟨rfl, rfl, rfl⟩
end
