/-! the reference: input, type .. -/
section
variable {G : aG} {pg : Nat} {μ : aM}
set_option maxRecDepth 100000 in
theorem m_Mo_input {d : Nat} (hd : 1 ≤ d) {lo hi : Int} {c : Nat} (hlo : inR lo) (hhi : inR hi) (hc : mI μ 67 1 = (c : Int)) (h3 : c ≤ 3) (hR : ∀ k j, mR μ k j = R0 pg k j) : AM G false d 0 0 y_Mo_input [aP 67, aI lo, aI hi] 94 μ (fun r n9 m => n9 = 94 ∧ (((c = 3 ∨ 0 < mI μ 67 4) ∧ r = .inl (some (aI 0)) ∧ m = wI μ 67 0 1) ∨ (¬ (c = 3 ∨ 0 < mI μ 67 4) ∧ ¬ (-20 ≤ lo ∧ lo ≤ hi ∧ hi ≤ 20) ∧ r = .inl (some (aI 0)) ∧ m = wI μ 67 0 2) ∨ (¬ (c = 3 ∨ 0 < mI μ 67 4) ∧ (-20 ≤ lo ∧ lo ≤ hi ∧ hi ≤ 20) ∧ r = .inl (some (aI (c : Int))) ∧ m = wI (wI (wI (wI μ 67 0 0) 68 c lo) 69 c hi) 67 1 ((c : Int) + 1)))) := by
  refine am_of (n := 0) pf_Mo_input (Nat.le_of_ble_eq_true rfl) (by intro v hv; simp only [List.mem_cons, List.not_mem_nil, or_false] at hv; rcases hv with rfl | rfl | rfl <;> first | trivial | assumption | exact in_c rfl) rfl ?_
  refine aw_aload_n d_Mo_input_0 rfl rfl ?_
  refine aw_aload_n d_Mo_input_1 rfl rfl ?_
  refine aw_getI fd_Mo_inputs lk_Mo_90 (by omega) rfl d_Mo_input_2 ?_
  refine aw_tv (v' := (c : Int)) hc ?_
  refine aw_iconst d_Mo_input_5 (in_c rfl) ?_
  refine aw_icmp_eq (tgt := 16) d_Mo_input_6 rfl (fun h6 => ?_) (fun h6 => ?_)
  · refine aw_iconst d_Mo_input_16 (in_c rfl) ?_
    refine aw_goto (tgt := 21) d_Mo_input_17 rfl ?_
    refine aw_iload_n d_Mo_input_21 rfl rfl ?_
    refine aw_bipush (z := (-20)) d_Mo_input_22 (in_c rfl) rfl ?_
    refine aw_icmp_lt (tgt := 38) d_Mo_input_24 rfl (fun h24 => ?_) (fun h24 => ?_)
    · refine aw_iconst d_Mo_input_38 (in_c rfl) ?_
      refine aw_goto (tgt := 43) d_Mo_input_39 rfl ?_
      refine aw_ve (as := [_, _]) rfl cv_Mo_96 (by omega) rfl rfl d_Mo_input_43 (Nat.le_of_ble_eq_true rfl) (d' := d - 1) (by omega) (m_Mo_refused_1 (by omega) (in_c rfl)) ?_
      refine aw_if_eq (tgt := 51) d_Mo_input_46 rfl (fun h46 => absurd h46 (by omega)) (fun h46 => ?_)
      refine aw_iconst d_Mo_input_49 (in_c rfl) ?_
      exact aw_iret d_Mo_input_50 rfl ⟨rfl, Or.inl ⟨by omega, rfl, rfl⟩⟩
    · refine aw_iload_n d_Mo_input_27 rfl rfl ?_
      refine aw_iload_n d_Mo_input_28 rfl rfl ?_
      refine aw_icmp_gt (tgt := 38) d_Mo_input_29 rfl (fun h29 => ?_) (fun h29 => ?_)
      · refine aw_iconst d_Mo_input_38 (in_c rfl) ?_
        refine aw_goto (tgt := 43) d_Mo_input_39 rfl ?_
        refine aw_ve (as := [_, _]) rfl cv_Mo_96 (by omega) rfl rfl d_Mo_input_43 (Nat.le_of_ble_eq_true rfl) (d' := d - 1) (by omega) (m_Mo_refused_1 (by omega) (in_c rfl)) ?_
        refine aw_if_eq (tgt := 51) d_Mo_input_46 rfl (fun h46 => absurd h46 (by omega)) (fun h46 => ?_)
        refine aw_iconst d_Mo_input_49 (in_c rfl) ?_
        exact aw_iret d_Mo_input_50 rfl ⟨rfl, Or.inl ⟨by omega, rfl, rfl⟩⟩
      · refine aw_iload_n d_Mo_input_32 rfl rfl ?_
        refine aw_bipush (z := 20) d_Mo_input_33 (in_c rfl) rfl ?_
        refine aw_icmp_le (tgt := 42) d_Mo_input_35 rfl (fun h35 => ?_) (fun h35 => ?_)
        · refine aw_iconst d_Mo_input_42 (in_c rfl) ?_
          refine aw_ve (as := [_, _]) rfl cv_Mo_96 (by omega) rfl rfl d_Mo_input_43 (Nat.le_of_ble_eq_true rfl) (d' := d - 1) (by omega) (m_Mo_refused_1 (by omega) (in_c rfl)) ?_
          refine aw_if_eq (tgt := 51) d_Mo_input_46 rfl (fun h46 => absurd h46 (by omega)) (fun h46 => ?_)
          refine aw_iconst d_Mo_input_49 (in_c rfl) ?_
          exact aw_iret d_Mo_input_50 rfl ⟨rfl, Or.inl ⟨by omega, rfl, rfl⟩⟩
        · refine aw_iconst d_Mo_input_38 (in_c rfl) ?_
          refine aw_goto (tgt := 43) d_Mo_input_39 rfl ?_
          refine aw_ve (as := [_, _]) rfl cv_Mo_96 (by omega) rfl rfl d_Mo_input_43 (Nat.le_of_ble_eq_true rfl) (d' := d - 1) (by omega) (m_Mo_refused_1 (by omega) (in_c rfl)) ?_
          refine aw_if_eq (tgt := 51) d_Mo_input_46 rfl (fun h46 => absurd h46 (by omega)) (fun h46 => ?_)
          refine aw_iconst d_Mo_input_49 (in_c rfl) ?_
          exact aw_iret d_Mo_input_50 rfl ⟨rfl, Or.inl ⟨by omega, rfl, rfl⟩⟩
  · refine aw_aload_n d_Mo_input_9 rfl rfl ?_
    refine aw_getI fd_Mo_made lk_Mo_93 (by omega) rfl d_Mo_input_10 ?_
    refine aw_if_le (tgt := 20) d_Mo_input_13 rfl (fun h13 => ?_) (fun h13 => ?_)
    · refine aw_iconst d_Mo_input_20 (in_c rfl) ?_
      refine aw_iload_n d_Mo_input_21 rfl rfl ?_
      refine aw_bipush (z := (-20)) d_Mo_input_22 (in_c rfl) rfl ?_
      refine aw_icmp_lt (tgt := 38) d_Mo_input_24 rfl (fun h24 => ?_) (fun h24 => ?_)
      · refine aw_iconst d_Mo_input_38 (in_c rfl) ?_
        refine aw_goto (tgt := 43) d_Mo_input_39 rfl ?_
        refine aw_ve (as := [_, _]) rfl cv_Mo_96 (by omega) rfl rfl d_Mo_input_43 (Nat.le_of_ble_eq_true rfl) (d' := d - 1) (by omega) (m_Mo_refused_2 (by omega)) ?_
        refine aw_if_eq (tgt := 51) d_Mo_input_46 rfl (fun h46 => absurd h46 (by omega)) (fun h46 => ?_)
        refine aw_iconst d_Mo_input_49 (in_c rfl) ?_
        exact aw_iret d_Mo_input_50 rfl ⟨rfl, Or.inr (Or.inl ⟨by omega, by omega, rfl, rfl⟩)⟩
      · refine aw_iload_n d_Mo_input_27 rfl rfl ?_
        refine aw_iload_n d_Mo_input_28 rfl rfl ?_
        refine aw_icmp_gt (tgt := 38) d_Mo_input_29 rfl (fun h29 => ?_) (fun h29 => ?_)
        · refine aw_iconst d_Mo_input_38 (in_c rfl) ?_
          refine aw_goto (tgt := 43) d_Mo_input_39 rfl ?_
          refine aw_ve (as := [_, _]) rfl cv_Mo_96 (by omega) rfl rfl d_Mo_input_43 (Nat.le_of_ble_eq_true rfl) (d' := d - 1) (by omega) (m_Mo_refused_2 (by omega)) ?_
          refine aw_if_eq (tgt := 51) d_Mo_input_46 rfl (fun h46 => absurd h46 (by omega)) (fun h46 => ?_)
          refine aw_iconst d_Mo_input_49 (in_c rfl) ?_
          exact aw_iret d_Mo_input_50 rfl ⟨rfl, Or.inr (Or.inl ⟨by omega, by omega, rfl, rfl⟩)⟩
        · refine aw_iload_n d_Mo_input_32 rfl rfl ?_
          refine aw_bipush (z := 20) d_Mo_input_33 (in_c rfl) rfl ?_
          refine aw_icmp_le (tgt := 42) d_Mo_input_35 rfl (fun h35 => ?_) (fun h35 => ?_)
          · refine aw_iconst d_Mo_input_42 (in_c rfl) ?_
            refine aw_ve (as := [_, _]) rfl cv_Mo_96 (by omega) rfl rfl d_Mo_input_43 (Nat.le_of_ble_eq_true rfl) (d' := d - 1) (by omega) (m_Mo_refused_0 (by omega)) ?_
            refine aw_if_eq (tgt := 51) d_Mo_input_46 rfl (fun h46 => ?_) (fun h46 => absurd (by omega) h46)
            refine aw_aload_n d_Mo_input_51 rfl rfl ?_
            refine aw_getR fd_Mo_low lk_Mo_7 (by omega) rfl d_Mo_input_52 (hR _ _) ?_
            refine aw_aload_n d_Mo_input_55 rfl rfl ?_
            refine aw_getI fd_Mo_inputs lk_Mo_90 (by omega) rfl d_Mo_input_56 ?_
            refine aw_tv (v' := (c : Int)) (by first | exact hc | (simp only [mI_wI]; rw [if_neg (by omega)]; exact hc) | (simp only [mI_wI]; rw [if_neg (by omega), if_neg (by omega)]; exact hc) | (simp only [mI_wI]; rw [if_neg (by omega), if_neg (by omega), if_neg (by omega)]; exact hc) | (simp only [mI_wI]; rw [if_neg (by omega), if_neg (by omega), if_neg (by omega), if_neg (by omega)]; exact hc) | (simp only [mI_wI]; rw [if_neg (by omega), if_neg (by omega), if_neg (by omega), if_neg (by omega), if_neg (by omega)]; exact hc)) ?_
            refine aw_iload_n d_Mo_input_59 rfl rfl ?_
            refine aw_iast (n := _) (by omega) rfl rfl (by omega) d_Mo_input_60 ?_
            refine aw_aload_n d_Mo_input_61 rfl rfl ?_
            refine aw_getR fd_Mo_high lk_Mo_13 (by omega) rfl d_Mo_input_62 (hR _ _) ?_
            refine aw_pc (pc' := 65) rfl ?_
            refine aw_aload_n d_Mo_input_65 rfl rfl ?_
            refine aw_getI fd_Mo_inputs lk_Mo_90 (by omega) rfl d_Mo_input_66 ?_
            refine aw_tv (v' := (c : Int)) (by first | exact hc | (simp only [mI_wI]; rw [if_neg (by omega)]; exact hc) | (simp only [mI_wI]; rw [if_neg (by omega), if_neg (by omega)]; exact hc) | (simp only [mI_wI]; rw [if_neg (by omega), if_neg (by omega), if_neg (by omega)]; exact hc) | (simp only [mI_wI]; rw [if_neg (by omega), if_neg (by omega), if_neg (by omega), if_neg (by omega)]; exact hc) | (simp only [mI_wI]; rw [if_neg (by omega), if_neg (by omega), if_neg (by omega), if_neg (by omega), if_neg (by omega)]; exact hc)) ?_
            refine aw_iload_n d_Mo_input_69 rfl rfl ?_
            refine aw_iast (n := _) (by omega) rfl rfl (by omega) d_Mo_input_70 ?_
            refine aw_aload_n d_Mo_input_71 rfl rfl ?_
            refine aw_dup d_Mo_input_72 rfl ?_
            refine aw_getI fd_Mo_inputs lk_Mo_90 (by omega) rfl d_Mo_input_73 ?_
            refine aw_tv (v' := (c : Int)) (by first | exact hc | (simp only [mI_wI]; rw [if_neg (by omega)]; exact hc) | (simp only [mI_wI]; rw [if_neg (by omega), if_neg (by omega)]; exact hc) | (simp only [mI_wI]; rw [if_neg (by omega), if_neg (by omega), if_neg (by omega)]; exact hc) | (simp only [mI_wI]; rw [if_neg (by omega), if_neg (by omega), if_neg (by omega), if_neg (by omega)]; exact hc) | (simp only [mI_wI]; rw [if_neg (by omega), if_neg (by omega), if_neg (by omega), if_neg (by omega), if_neg (by omega)]; exact hc)) ?_
            refine aw_iconst d_Mo_input_76 (in_c rfl) ?_
            refine aw_iadd d_Mo_input_77 (by unfold inR; omega) ?_
            refine aw_putI fd_Mo_inputs lk_Mo_90 (by omega) rfl d_Mo_input_78 (Or.inl rfl) ?_
            refine aw_aload_n d_Mo_input_81 rfl rfl ?_
            refine aw_getI fd_Mo_inputs lk_Mo_90 (by omega) rfl d_Mo_input_82 ?_
            refine aw_tv (v' := (c : Int) + 1) rfl ?_
            refine aw_pc (pc' := 85) rfl ?_
            refine aw_iconst d_Mo_input_85 (in_c rfl) ?_
            refine aw_isub d_Mo_input_86 (by unfold inR; omega) ?_
            exact aw_iret d_Mo_input_87 rfl ⟨rfl, Or.inr (Or.inr (⟨by omega, by omega, by rw [Int.add_sub_cancel], rfl⟩))⟩
          · refine aw_iconst d_Mo_input_38 (in_c rfl) ?_
            refine aw_goto (tgt := 43) d_Mo_input_39 rfl ?_
            refine aw_ve (as := [_, _]) rfl cv_Mo_96 (by omega) rfl rfl d_Mo_input_43 (Nat.le_of_ble_eq_true rfl) (d' := d - 1) (by omega) (m_Mo_refused_2 (by omega)) ?_
            refine aw_if_eq (tgt := 51) d_Mo_input_46 rfl (fun h46 => absurd h46 (by omega)) (fun h46 => ?_)
            refine aw_iconst d_Mo_input_49 (in_c rfl) ?_
            exact aw_iret d_Mo_input_50 rfl ⟨rfl, Or.inr (Or.inl ⟨by omega, by omega, rfl, rfl⟩)⟩
    · refine aw_iconst d_Mo_input_16 (in_c rfl) ?_
      refine aw_goto (tgt := 21) d_Mo_input_17 rfl ?_
      refine aw_iload_n d_Mo_input_21 rfl rfl ?_
      refine aw_bipush (z := (-20)) d_Mo_input_22 (in_c rfl) rfl ?_
      refine aw_icmp_lt (tgt := 38) d_Mo_input_24 rfl (fun h24 => ?_) (fun h24 => ?_)
      · refine aw_iconst d_Mo_input_38 (in_c rfl) ?_
        refine aw_goto (tgt := 43) d_Mo_input_39 rfl ?_
        refine aw_ve (as := [_, _]) rfl cv_Mo_96 (by omega) rfl rfl d_Mo_input_43 (Nat.le_of_ble_eq_true rfl) (d' := d - 1) (by omega) (m_Mo_refused_1 (by omega) (in_c rfl)) ?_
        refine aw_if_eq (tgt := 51) d_Mo_input_46 rfl (fun h46 => absurd h46 (by omega)) (fun h46 => ?_)
        refine aw_iconst d_Mo_input_49 (in_c rfl) ?_
        exact aw_iret d_Mo_input_50 rfl ⟨rfl, Or.inl ⟨by omega, rfl, rfl⟩⟩
      · refine aw_iload_n d_Mo_input_27 rfl rfl ?_
        refine aw_iload_n d_Mo_input_28 rfl rfl ?_
        refine aw_icmp_gt (tgt := 38) d_Mo_input_29 rfl (fun h29 => ?_) (fun h29 => ?_)
        · refine aw_iconst d_Mo_input_38 (in_c rfl) ?_
          refine aw_goto (tgt := 43) d_Mo_input_39 rfl ?_
          refine aw_ve (as := [_, _]) rfl cv_Mo_96 (by omega) rfl rfl d_Mo_input_43 (Nat.le_of_ble_eq_true rfl) (d' := d - 1) (by omega) (m_Mo_refused_1 (by omega) (in_c rfl)) ?_
          refine aw_if_eq (tgt := 51) d_Mo_input_46 rfl (fun h46 => absurd h46 (by omega)) (fun h46 => ?_)
          refine aw_iconst d_Mo_input_49 (in_c rfl) ?_
          exact aw_iret d_Mo_input_50 rfl ⟨rfl, Or.inl ⟨by omega, rfl, rfl⟩⟩
        · refine aw_iload_n d_Mo_input_32 rfl rfl ?_
          refine aw_bipush (z := 20) d_Mo_input_33 (in_c rfl) rfl ?_
          refine aw_icmp_le (tgt := 42) d_Mo_input_35 rfl (fun h35 => ?_) (fun h35 => ?_)
          · refine aw_iconst d_Mo_input_42 (in_c rfl) ?_
            refine aw_ve (as := [_, _]) rfl cv_Mo_96 (by omega) rfl rfl d_Mo_input_43 (Nat.le_of_ble_eq_true rfl) (d' := d - 1) (by omega) (m_Mo_refused_1 (by omega) (in_c rfl)) ?_
            refine aw_if_eq (tgt := 51) d_Mo_input_46 rfl (fun h46 => absurd h46 (by omega)) (fun h46 => ?_)
            refine aw_iconst d_Mo_input_49 (in_c rfl) ?_
            exact aw_iret d_Mo_input_50 rfl ⟨rfl, Or.inl ⟨by omega, rfl, rfl⟩⟩
          · refine aw_iconst d_Mo_input_38 (in_c rfl) ?_
            refine aw_goto (tgt := 43) d_Mo_input_39 rfl ?_
            refine aw_ve (as := [_, _]) rfl cv_Mo_96 (by omega) rfl rfl d_Mo_input_43 (Nat.le_of_ble_eq_true rfl) (d' := d - 1) (by omega) (m_Mo_refused_1 (by omega) (in_c rfl)) ?_
            refine aw_if_eq (tgt := 51) d_Mo_input_46 rfl (fun h46 => absurd h46 (by omega)) (fun h46 => ?_)
            refine aw_iconst d_Mo_input_49 (in_c rfl) ?_
            exact aw_iret d_Mo_input_50 rfl ⟨rfl, Or.inl ⟨by omega, rfl, rfl⟩⟩
set_option maxRecDepth 100000 in
theorem m_Mo_type {d : Nat} (hd : 0 ≤ d) {n : Nat} (hn : mI μ 67 9 = (n : Int)) (h40 : n ≤ 40) {ch : Int} (hch : 0 ≤ ch ∧ ch < 65536) (hR : ∀ k j, mR μ k j = R0 pg k j) : AM G false d 0 0 y_Mo_type [aP 67, aI ch] 94 μ (fun r n9 m => n9 = 94 ∧ ((¬ (32 ≤ ch ∧ ch ≤ 126 ∧ n < 40) ∧ r = .inl (some (aI 0)) ∧ m = wI μ 67 0 0) ∨ ((32 ≤ ch ∧ ch ≤ 126 ∧ n < 40) ∧ r = .inl (some (aI 1)) ∧ m = wI (wI (wI μ 67 0 0) 74 n ch) 67 9 ((n : Int) + 1)))) := by
  refine am_of (n := 0) pf_Mo_type (Nat.le_of_ble_eq_true rfl) (by intro v hv; simp only [List.mem_cons, List.not_mem_nil, or_false] at hv; rcases hv with rfl | rfl; trivial; show inR ch; unfold inR; omega) rfl ?_
  refine aw_aload_n d_Mo_type_0 rfl rfl ?_
  refine aw_iconst d_Mo_type_1 (in_c rfl) ?_
  refine aw_putI fd_Mo_fault lk_Mo_86 (by omega) rfl d_Mo_type_2 (Or.inl rfl) ?_
  refine aw_iload_n d_Mo_type_5 rfl rfl ?_
  refine aw_bipush (z := 32) d_Mo_type_6 (in_c rfl) rfl ?_
  refine aw_icmp_lt (tgt := 26) d_Mo_type_8 rfl (fun h8 => ?_) (fun h8 => ?_)
  · refine aw_iconst d_Mo_type_26 (in_c rfl) ?_
    exact aw_zret d_Mo_type_27 rfl rfl ⟨rfl, Or.inl ⟨by omega, rfl, rfl⟩⟩
  · refine aw_iload_n d_Mo_type_11 rfl rfl ?_
    refine aw_bipush (z := 126) d_Mo_type_12 (in_c rfl) rfl ?_
    refine aw_icmp_gt (tgt := 26) d_Mo_type_14 rfl (fun h14 => ?_) (fun h14 => ?_)
    · refine aw_iconst d_Mo_type_26 (in_c rfl) ?_
      exact aw_zret d_Mo_type_27 rfl rfl ⟨rfl, Or.inl ⟨by omega, rfl, rfl⟩⟩
    · refine aw_aload_n d_Mo_type_17 rfl rfl ?_
      refine aw_getI fd_Mo_typed lk_Mo_100 (by omega) rfl d_Mo_type_18 ?_
      refine aw_tv (v' := (n : Int)) (by first | exact hn | (simp only [mI_wI]; rw [if_neg (by omega)]; exact hn) | (simp only [mI_wI]; rw [if_neg (by omega), if_neg (by omega)]; exact hn) | (simp only [mI_wI]; rw [if_neg (by omega), if_neg (by omega), if_neg (by omega)]; exact hn) | (simp only [mI_wI]; rw [if_neg (by omega), if_neg (by omega), if_neg (by omega), if_neg (by omega)]; exact hn) | (simp only [mI_wI]; rw [if_neg (by omega), if_neg (by omega), if_neg (by omega), if_neg (by omega), if_neg (by omega)]; exact hn)) ?_
      refine aw_bipush (z := 40) d_Mo_type_21 (in_c rfl) rfl ?_
      refine aw_icmp_ne (tgt := 28) d_Mo_type_23 rfl (fun h23 => ?_) (fun h23 => ?_)
      · refine aw_aload_n d_Mo_type_28 rfl rfl ?_
        refine aw_getR fd_Mo_text lk_Mo_28 (by omega) rfl d_Mo_type_29 (hR _ _) ?_
        refine aw_aload_n d_Mo_type_32 rfl rfl ?_
        refine aw_getI fd_Mo_typed lk_Mo_100 (by omega) rfl d_Mo_type_33 ?_
        refine aw_tv (v' := (n : Int)) (by first | exact hn | (simp only [mI_wI]; rw [if_neg (by omega)]; exact hn) | (simp only [mI_wI]; rw [if_neg (by omega), if_neg (by omega)]; exact hn) | (simp only [mI_wI]; rw [if_neg (by omega), if_neg (by omega), if_neg (by omega)]; exact hn) | (simp only [mI_wI]; rw [if_neg (by omega), if_neg (by omega), if_neg (by omega), if_neg (by omega)]; exact hn) | (simp only [mI_wI]; rw [if_neg (by omega), if_neg (by omega), if_neg (by omega), if_neg (by omega), if_neg (by omega)]; exact hn)) ?_
        refine aw_iload_n d_Mo_type_36 rfl rfl ?_
        refine aw_iast (n := _) (by omega) rfl rfl (by omega) d_Mo_type_37 ?_
        refine aw_aload_n d_Mo_type_38 rfl rfl ?_
        refine aw_dup d_Mo_type_39 rfl ?_
        refine aw_getI fd_Mo_typed lk_Mo_100 (by omega) rfl d_Mo_type_40 ?_
        refine aw_tv (v' := (n : Int)) (by first | exact hn | (simp only [mI_wI]; rw [if_neg (by omega)]; exact hn) | (simp only [mI_wI]; rw [if_neg (by omega), if_neg (by omega)]; exact hn) | (simp only [mI_wI]; rw [if_neg (by omega), if_neg (by omega), if_neg (by omega)]; exact hn) | (simp only [mI_wI]; rw [if_neg (by omega), if_neg (by omega), if_neg (by omega), if_neg (by omega)]; exact hn) | (simp only [mI_wI]; rw [if_neg (by omega), if_neg (by omega), if_neg (by omega), if_neg (by omega), if_neg (by omega)]; exact hn)) ?_
        refine aw_iconst d_Mo_type_43 (in_c rfl) ?_
        refine aw_iadd d_Mo_type_44 (by unfold inR; omega) ?_
        refine aw_pc (pc' := 45) rfl ?_
        refine aw_putI fd_Mo_typed lk_Mo_100 (by omega) rfl d_Mo_type_45 (Or.inl rfl) ?_
        refine aw_iconst d_Mo_type_48 (in_c rfl) ?_
        exact aw_zret d_Mo_type_49 rfl rfl ⟨rfl, Or.inr (⟨by omega, rfl, rfl⟩)⟩
      · refine aw_iconst d_Mo_type_26 (in_c rfl) ?_
        exact aw_zret d_Mo_type_27 rfl rfl ⟨rfl, Or.inl ⟨by omega, rfl, rfl⟩⟩
set_option maxRecDepth 100000 in
theorem m_Mo_wipe {d : Nat} (hd : 0 ≤ d)  : AM G false d 0 0 y_Mo_wipe [aP 67] 94 μ (Qe (some (aI (mI μ 67 9))) 94 (wI (wI μ 67 0 0) 67 9 0)) := by
  refine am_of (n := 1) pf_Mo_wipe (Nat.le_of_ble_eq_true rfl) (by intro v hv; simp only [List.mem_cons, List.not_mem_nil, or_false] at hv; rcases hv with rfl <;> first | trivial | assumption | exact in_c rfl) rfl ?_
  refine aw_aload_n d_Mo_wipe_0 rfl rfl ?_
  refine aw_iconst d_Mo_wipe_1 (in_c rfl) ?_
  refine aw_putI fd_Mo_fault lk_Mo_86 (by omega) rfl d_Mo_wipe_2 (Or.inl rfl) ?_
  refine aw_aload_n d_Mo_wipe_5 rfl rfl ?_
  refine aw_getI fd_Mo_typed lk_Mo_100 (by omega) rfl d_Mo_wipe_6 ?_
  refine aw_istore_n (lst' := [_, _]) d_Mo_wipe_9 rfl (Nat.le_of_ble_eq_true rfl) rfl ?_
  refine aw_aload_n d_Mo_wipe_10 rfl rfl ?_
  refine aw_iconst d_Mo_wipe_11 (in_c rfl) ?_
  refine aw_putI fd_Mo_typed lk_Mo_100 (by omega) rfl d_Mo_wipe_12 (Or.inl rfl) ?_
  refine aw_iload_n d_Mo_wipe_15 rfl rfl ?_
  exact aw_iret d_Mo_wipe_16 rfl ⟨rfl, rfl, rfl⟩
set_option maxRecDepth 100000 in
theorem m_Mo_forget {d : Nat} (hd : 0 ≤ d)  : AM G false d 0 0 y_Mo_forget [aP 67] 94 μ (Qe (some (aI (mI μ 67 31))) 94 (wI (wI μ 67 0 0) 67 31 0)) := by
  refine am_of (n := 1) pf_Mo_forget (Nat.le_of_ble_eq_true rfl) (by intro v hv; simp only [List.mem_cons, List.not_mem_nil, or_false] at hv; rcases hv with rfl <;> first | trivial | assumption | exact in_c rfl) rfl ?_
  refine aw_aload_n d_Mo_forget_0 rfl rfl ?_
  refine aw_iconst d_Mo_forget_1 (in_c rfl) ?_
  refine aw_putI fd_Mo_fault lk_Mo_86 (by omega) rfl d_Mo_forget_2 (Or.inl rfl) ?_
  refine aw_aload_n d_Mo_forget_5 rfl rfl ?_
  refine aw_getI fd_Mo_kept lk_Mo_210 (by omega) rfl d_Mo_forget_6 ?_
  refine aw_istore_n (lst' := [_, _]) d_Mo_forget_9 rfl (Nat.le_of_ble_eq_true rfl) rfl ?_
  refine aw_aload_n d_Mo_forget_10 rfl rfl ?_
  refine aw_iconst d_Mo_forget_11 (in_c rfl) ?_
  refine aw_putI fd_Mo_kept lk_Mo_210 (by omega) rfl d_Mo_forget_12 (Or.inl rfl) ?_
  refine aw_iload_n d_Mo_forget_15 rfl rfl ?_
  exact aw_iret d_Mo_forget_16 rfl ⟨rfl, rfl, rfl⟩
set_option maxRecDepth 100000 in
theorem m_Mo_length {d : Nat} (hd : 0 ≤ d)  : AM G false d 0 0 y_Mo_length [aP 67] 94 μ (Qe (some (aI (mI μ 67 33))) 94 (wI μ 67 0 0)) := by
  refine am_of (n := 0) pf_Mo_length (Nat.le_of_ble_eq_true rfl) (by intro v hv; simp only [List.mem_cons, List.not_mem_nil, or_false] at hv; rcases hv with rfl <;> first | trivial | assumption | exact in_c rfl) rfl ?_
  refine aw_aload_n d_Mo_length_0 rfl rfl ?_
  refine aw_iconst d_Mo_length_1 (in_c rfl) ?_
  refine aw_putI fd_Mo_fault lk_Mo_86 (by omega) rfl d_Mo_length_2 (Or.inl rfl) ?_
  refine aw_aload_n d_Mo_length_5 rfl rfl ?_
  refine aw_getI fd_Mo_written lk_Mo_168 (by omega) rfl d_Mo_length_6 ?_
  exact aw_iret d_Mo_length_9 rfl ⟨rfl, rfl, rfl⟩
set_option maxRecDepth 100000 in
theorem m_Mo_suiteAt {d : Nat} (hd : 0 ≤ d) {i : Int} (hi : inR i) (h12 : mI μ 67 28 ≤ 12) (hR : ∀ k j, mR μ k j = R0 pg k j) : AM G false d 0 0 y_Mo_suiteAt [aP 67, aI i] 94 μ (Qe (some (aI (if 0 ≤ i ∧ i < mI μ 67 28 then mI μ 89 i.toNat else -1))) 94 (wI μ 67 0 0)) := by
  refine am_of (n := 0) pf_Mo_suiteAt (Nat.le_of_ble_eq_true rfl) (by intro v hv; simp only [List.mem_cons, List.not_mem_nil, or_false] at hv; rcases hv with rfl | rfl <;> first | trivial | assumption | exact in_c rfl) rfl ?_
  refine aw_aload_n d_Mo_suiteAt_0 rfl rfl ?_
  refine aw_iconst d_Mo_suiteAt_1 (in_c rfl) ?_
  refine aw_putI fd_Mo_fault lk_Mo_86 (by omega) rfl d_Mo_suiteAt_2 (Or.inl rfl) ?_
  refine aw_iload_n d_Mo_suiteAt_5 rfl rfl ?_
  refine aw_if_lt (tgt := 26) d_Mo_suiteAt_6 rfl (fun h6 => ?_) (fun h6 => ?_)
  · refine aw_iconst d_Mo_suiteAt_26 (in_c rfl) ?_
    exact aw_iret d_Mo_suiteAt_27 rfl ⟨by first | (rw [if_pos (by omega)]; rfl) | rw [if_neg (by omega)], rfl, rfl⟩
  · refine aw_iload_n d_Mo_suiteAt_9 rfl rfl ?_
    refine aw_aload_n d_Mo_suiteAt_10 rfl rfl ?_
    refine aw_getI fd_Mo_suiteSize lk_Mo_198 (by omega) rfl d_Mo_suiteAt_11 ?_
    refine aw_tv (v' := mI μ 67 28) rfl ?_
    refine aw_icmp_ge (tgt := 26) d_Mo_suiteAt_14 rfl (fun h14 => ?_) (fun h14 => ?_)
    · refine aw_iconst d_Mo_suiteAt_26 (in_c rfl) ?_
      exact aw_iret d_Mo_suiteAt_27 rfl ⟨by first | (rw [if_pos (by omega)]; rfl) | rw [if_neg (by omega)], rfl, rfl⟩
    · refine aw_aload_n d_Mo_suiteAt_17 rfl rfl ?_
      refine aw_getR fd_Mo_suite lk_Mo_74 (by omega) rfl d_Mo_suiteAt_18 (hR _ _) ?_
      refine aw_iload_n d_Mo_suiteAt_21 rfl rfl ?_
      refine aw_iald (n := i.toNat) (by omega) rfl (by omega) (by omega) d_Mo_suiteAt_22 ?_
      refine aw_goto (tgt := 27) d_Mo_suiteAt_23 rfl ?_
      exact aw_iret d_Mo_suiteAt_27 rfl ⟨by first | (rw [if_pos (by omega)]; rfl) | rw [if_neg (by omega)], rfl, rfl⟩
set_option maxRecDepth 100000 in
theorem m_Mo_charAt {d : Nat} (hd : 0 ≤ d) {i : Int} (hi : inR i) (h40 : mI μ 67 33 ≤ 40) (hch : ∀ j, 0 ≤ mI μ 92 j ∧ mI μ 92 j < 65536) (hR : ∀ k j, mR μ k j = R0 pg k j) : AM G false d 0 0 y_Mo_charAt [aP 67, aI i] 94 μ (Qe (some (aI (if 0 ≤ i ∧ i < mI μ 67 33 then mI μ 92 i.toNat else 32))) 94 (wI μ 67 0 0)) := by
  refine am_of (n := 0) pf_Mo_charAt (Nat.le_of_ble_eq_true rfl) (by intro v hv; simp only [List.mem_cons, List.not_mem_nil, or_false] at hv; rcases hv with rfl | rfl <;> first | trivial | assumption | exact in_c rfl) rfl ?_
  refine aw_aload_n d_Mo_charAt_0 rfl rfl ?_
  refine aw_iconst d_Mo_charAt_1 (in_c rfl) ?_
  refine aw_putI fd_Mo_fault lk_Mo_86 (by omega) rfl d_Mo_charAt_2 (Or.inl rfl) ?_
  refine aw_iload_n d_Mo_charAt_5 rfl rfl ?_
  refine aw_if_lt (tgt := 17) d_Mo_charAt_6 rfl (fun h6 => ?_) (fun h6 => ?_)
  · refine aw_bipush (z := 32) d_Mo_charAt_17 (in_c rfl) rfl ?_
    refine aw_goto (tgt := 29) d_Mo_charAt_19 rfl ?_
    exact aw_zret d_Mo_charAt_29 rfl (nr_c (by first | exact hch _ | omega)) ⟨by first | rw [if_pos (by omega)] | rw [if_neg (by omega)], rfl, rfl⟩
  · refine aw_iload_n d_Mo_charAt_9 rfl rfl ?_
    refine aw_aload_n d_Mo_charAt_10 rfl rfl ?_
    refine aw_getI fd_Mo_written lk_Mo_168 (by omega) rfl d_Mo_charAt_11 ?_
    refine aw_tv (v' := mI μ 67 33) rfl ?_
    refine aw_icmp_lt (tgt := 22) d_Mo_charAt_14 rfl (fun h14 => ?_) (fun h14 => ?_)
    · refine aw_aload_n d_Mo_charAt_22 rfl rfl ?_
      refine aw_getR fd_Mo_page lk_Mo_83 (by omega) rfl d_Mo_charAt_23 (hR _ _) ?_
      refine aw_iload_n d_Mo_charAt_26 rfl rfl ?_
      refine aw_iald (n := i.toNat) (by omega) rfl (by omega) (by omega) d_Mo_charAt_27 ?_
      refine aw_tv (v' := mI μ 92 i.toNat) rfl ?_
      refine aw_i2c d_Mo_charAt_28 ?_
      refine aw_tv (v' := mI μ 92 i.toNat) (by have := hch i.toNat; omega) ?_
      exact aw_zret d_Mo_charAt_29 rfl (nr_c (by first | exact hch _ | omega)) ⟨by first | rw [if_pos (by omega)] | rw [if_neg (by omega)], rfl, rfl⟩
    · refine aw_bipush (z := 32) d_Mo_charAt_17 (in_c rfl) rfl ?_
      refine aw_goto (tgt := 29) d_Mo_charAt_19 rfl ?_
      exact aw_zret d_Mo_charAt_29 rfl (nr_c (by first | exact hch _ | omega)) ⟨by first | rw [if_pos (by omega)] | rw [if_neg (by omega)], rfl, rfl⟩
set_option maxRecDepth 100000 in
theorem b_Mo_decision {d : Nat} (hd : 1 ≤ d) {i : Int} (hi : inR i) (hb : mI μ 67 11 = 4 ∨ mI μ 67 4 = 0) : AM G false d 0 0 y_Mo_decision [aP 67, aI i] 94 μ (Qe (some (aI 0)) 94 (wI μ 67 0 1)) := by
  refine am_of (n := 4) pf_Mo_decision (Nat.le_of_ble_eq_true rfl) (by intro v hv; simp only [List.mem_cons, List.not_mem_nil, or_false] at hv; rcases hv with rfl | rfl <;> first | trivial | assumption | exact in_c rfl) rfl ?_
  refine aw_aload_n d_Mo_decision_0 rfl rfl ?_
  refine aw_aload_n d_Mo_decision_1 rfl rfl ?_
  refine aw_getI fd_Mo_decisions lk_Mo_146 (by omega) rfl d_Mo_decision_2 ?_
  refine aw_iconst d_Mo_decision_5 (in_c rfl) ?_
  refine aw_icmp_eq (tgt := 16) d_Mo_decision_6 rfl (fun h6 => ?_) (fun h6 => ?_)
  · refine aw_iconst d_Mo_decision_16 (in_c rfl) ?_
    refine aw_goto (tgt := 21) d_Mo_decision_17 rfl ?_
    refine aw_iconst d_Mo_decision_21 (in_c rfl) ?_
    refine aw_ve (as := [_, _]) rfl cv_Mo_96 (by omega) rfl rfl d_Mo_decision_22 (Nat.le_of_ble_eq_true rfl) (d' := d - 1) (by omega) (m_Mo_refused_1 (by omega) (in_c rfl)) ?_
    refine aw_if_eq (tgt := 30) d_Mo_decision_25 rfl (fun h25 => absurd h25 (by omega)) (fun h25 => ?_)
    refine aw_iconst d_Mo_decision_28 (in_c rfl) ?_
    exact aw_iret d_Mo_decision_29 rfl ⟨rfl, rfl, rfl⟩
  · refine aw_aload_n d_Mo_decision_9 rfl rfl ?_
    refine aw_getI fd_Mo_made lk_Mo_93 (by omega) rfl d_Mo_decision_10 ?_
    refine aw_if_ne (tgt := 20) d_Mo_decision_13 rfl (fun h13 => absurd h13 (by omega)) (fun h13 => ?_)
    refine aw_iconst d_Mo_decision_16 (in_c rfl) ?_
    refine aw_goto (tgt := 21) d_Mo_decision_17 rfl ?_
    refine aw_iconst d_Mo_decision_21 (in_c rfl) ?_
    refine aw_ve (as := [_, _]) rfl cv_Mo_96 (by omega) rfl rfl d_Mo_decision_22 (Nat.le_of_ble_eq_true rfl) (d' := d - 1) (by omega) (m_Mo_refused_1 (by omega) (in_c rfl)) ?_
    refine aw_if_eq (tgt := 30) d_Mo_decision_25 rfl (fun h25 => absurd h25 (by omega)) (fun h25 => ?_)
    refine aw_iconst d_Mo_decision_28 (in_c rfl) ?_
    exact aw_iret d_Mo_decision_29 rfl ⟨rfl, rfl, rfl⟩
set_option maxRecDepth 100000 in
theorem m_Mo_isOut {d : Nat} (hd : 0 ≤ d) {a k : Int} (h1 : inR a) (h2 : 0 ≤ k) (h3 : k < 3) (hR : ∀ k j, mR μ k j = R0 pg k j) : AM G false d 0 0 y_Mo_isOut [aP 67, aI a, aI k] 94 μ (Qe (some (aI (if k < mI μ 67 1 ∧ (a < mI μ 68 k.toNat ∨ mI μ 69 k.toNat < a) then 1 else 0))) 94 μ) := by
  refine am_of (n := 0) pf_Mo_isOut (Nat.le_of_ble_eq_true rfl) (by intro v hv; simp only [List.mem_cons, List.not_mem_nil, or_false] at hv; rcases hv with rfl | rfl | rfl; trivial; assumption; show inR k; unfold inR; omega) rfl ?_
  refine aw_iload_n d_Mo_isOut_0 rfl rfl ?_
  refine aw_aload_n d_Mo_isOut_1 rfl rfl ?_
  refine aw_getI fd_Mo_inputs lk_Mo_90 (by omega) rfl d_Mo_isOut_2 ?_
  refine aw_icmp_ge (tgt := 32) d_Mo_isOut_5 rfl (fun h5 => ?_) (fun h5 => ?_)
  · refine aw_iconst d_Mo_isOut_32 (in_c rfl) ?_
    exact aw_zret d_Mo_isOut_33 rfl rfl ⟨by first | rfl | rw [if_pos (by omega)] | rw [if_neg (by omega)], rfl, rfl⟩
  · refine aw_iload_n d_Mo_isOut_8 rfl rfl ?_
    refine aw_aload_n d_Mo_isOut_9 rfl rfl ?_
    refine aw_getR fd_Mo_low lk_Mo_7 (by omega) rfl d_Mo_isOut_10 (hR _ _) ?_
    refine aw_iload_n d_Mo_isOut_13 rfl rfl ?_
    refine aw_iald (n := k.toNat) (by omega) rfl (by omega) (by omega) d_Mo_isOut_14 ?_
    refine aw_icmp_lt (tgt := 28) d_Mo_isOut_15 rfl (fun h15 => ?_) (fun h15 => ?_)
    · refine aw_iconst d_Mo_isOut_28 (in_c rfl) ?_
      refine aw_goto (tgt := 33) d_Mo_isOut_29 rfl ?_
      exact aw_zret d_Mo_isOut_33 rfl rfl ⟨by first | rfl | rw [if_pos (by omega)] | rw [if_neg (by omega)], rfl, rfl⟩
    · refine aw_iload_n d_Mo_isOut_18 rfl rfl ?_
      refine aw_aload_n d_Mo_isOut_19 rfl rfl ?_
      refine aw_getR fd_Mo_high lk_Mo_13 (by omega) rfl d_Mo_isOut_20 (hR _ _) ?_
      refine aw_iload_n d_Mo_isOut_23 rfl rfl ?_
      refine aw_iald (n := k.toNat) (by omega) rfl (by omega) (by omega) d_Mo_isOut_24 ?_
      refine aw_icmp_le (tgt := 32) d_Mo_isOut_25 rfl (fun h25 => ?_) (fun h25 => ?_)
      · refine aw_iconst d_Mo_isOut_32 (in_c rfl) ?_
        exact aw_zret d_Mo_isOut_33 rfl rfl ⟨by first | rfl | rw [if_pos (by omega)] | rw [if_neg (by omega)], rfl, rfl⟩
      · refine aw_iconst d_Mo_isOut_28 (in_c rfl) ?_
        refine aw_goto (tgt := 33) d_Mo_isOut_29 rfl ?_
        exact aw_zret d_Mo_isOut_33 rfl rfl ⟨by first | rfl | rw [if_pos (by omega)] | rw [if_neg (by omega)], rfl, rfl⟩
set_option maxRecDepth 100000 in
theorem b_Mo_keep {d : Nat} (hd : 1 ≤ d) {a b e : Int} (h1 : inR a) (h2 : inR b) (h3 : inR e) (hb : mI μ 67 31 = 12 ∨ mI μ 67 4 = 0) (hR : ∀ k j, mR μ k j = R0 pg k j) : AM G false d 0 0 y_Mo_keep [aP 67, aI a, aI b, aI e] 94 μ (Qe (some (aI 0)) 94 (wI μ 67 0 1)) := by
  refine am_of (n := 0) pf_Mo_keep (Nat.le_of_ble_eq_true rfl) (by intro v hv; simp only [List.mem_cons, List.not_mem_nil, or_false] at hv; rcases hv with rfl | rfl | rfl | rfl <;> first | trivial | assumption | exact in_c rfl) rfl ?_
  refine aw_aload_n d_Mo_keep_0 rfl rfl ?_
  refine aw_aload_n d_Mo_keep_1 rfl rfl ?_
  refine aw_getI fd_Mo_kept lk_Mo_210 (by omega) rfl d_Mo_keep_2 ?_
  refine aw_bipush (z := 12) d_Mo_keep_5 (in_c rfl) rfl ?_
  refine aw_icmp_eq (tgt := 17) d_Mo_keep_7 rfl (fun h7 => ?_) (fun h7 => ?_)
  · refine aw_iconst d_Mo_keep_17 (in_c rfl) ?_
    refine aw_goto (tgt := 22) d_Mo_keep_18 rfl ?_
    refine aw_aload_n d_Mo_keep_22 rfl rfl ?_
    refine aw_iload_n d_Mo_keep_23 rfl rfl ?_
    refine aw_iconst d_Mo_keep_24 (in_c rfl) ?_
    refine aw_ve (as := [_, _]) rfl cv_Mo_213 (by omega) rfl rfl d_Mo_keep_25 (Nat.le_of_ble_eq_true rfl) (d' := d - 1) (by omega) (m_Mo_isOut (by omega) (by assumption) (by omega) (by omega) hR) ?_
    refine aw_if_ne (tgt := 49) d_Mo_keep_28 rfl (fun h28 => ?_) (fun h28 => ?_)
    · replace h28 := ite_n h28
      refine aw_iconst d_Mo_keep_49 (in_c rfl) ?_
      refine aw_goto (tgt := 54) d_Mo_keep_50 rfl ?_
      refine aw_ve (as := [_, _]) rfl cv_Mo_96 (by omega) rfl rfl d_Mo_keep_54 (Nat.le_of_ble_eq_true rfl) (d' := d - 1) (by omega) (m_Mo_refused_1 (by omega) (in_c rfl)) ?_
      refine aw_if_eq (tgt := 62) d_Mo_keep_57 rfl (fun h57 => absurd h57 (by omega)) (fun h57 => ?_)
      refine aw_iconst d_Mo_keep_60 (in_c rfl) ?_
      exact aw_iret d_Mo_keep_61 rfl ⟨rfl, rfl, rfl⟩
    · replace h28 := ite_z h28
      refine aw_aload_n d_Mo_keep_31 rfl rfl ?_
      refine aw_iload_n d_Mo_keep_32 rfl rfl ?_
      refine aw_iconst d_Mo_keep_33 (in_c rfl) ?_
      refine aw_ve (as := [_, _]) rfl cv_Mo_213 (by omega) rfl rfl d_Mo_keep_34 (Nat.le_of_ble_eq_true rfl) (d' := d - 1) (by omega) (m_Mo_isOut (by omega) (by assumption) (by omega) (by omega) hR) ?_
      refine aw_if_ne (tgt := 49) d_Mo_keep_37 rfl (fun h37 => ?_) (fun h37 => ?_)
      · replace h37 := ite_n h37
        refine aw_iconst d_Mo_keep_49 (in_c rfl) ?_
        refine aw_goto (tgt := 54) d_Mo_keep_50 rfl ?_
        refine aw_ve (as := [_, _]) rfl cv_Mo_96 (by omega) rfl rfl d_Mo_keep_54 (Nat.le_of_ble_eq_true rfl) (d' := d - 1) (by omega) (m_Mo_refused_1 (by omega) (in_c rfl)) ?_
        refine aw_if_eq (tgt := 62) d_Mo_keep_57 rfl (fun h57 => absurd h57 (by omega)) (fun h57 => ?_)
        refine aw_iconst d_Mo_keep_60 (in_c rfl) ?_
        exact aw_iret d_Mo_keep_61 rfl ⟨rfl, rfl, rfl⟩
      · replace h37 := ite_z h37
        refine aw_aload_n d_Mo_keep_40 rfl rfl ?_
        refine aw_iload_n d_Mo_keep_41 rfl rfl ?_
        refine aw_iconst d_Mo_keep_42 (in_c rfl) ?_
        refine aw_ve (as := [_, _]) rfl cv_Mo_213 (by omega) rfl rfl d_Mo_keep_43 (Nat.le_of_ble_eq_true rfl) (d' := d - 1) (by omega) (m_Mo_isOut (by omega) (by assumption) (by omega) (by omega) hR) ?_
        refine aw_if_eq (tgt := 53) d_Mo_keep_46 rfl (fun h46 => ?_) (fun h46 => ?_)
        · replace h46 := ite_z h46
          refine aw_iconst d_Mo_keep_53 (in_c rfl) ?_
          refine aw_ve (as := [_, _]) rfl cv_Mo_96 (by omega) rfl rfl d_Mo_keep_54 (Nat.le_of_ble_eq_true rfl) (d' := d - 1) (by omega) (m_Mo_refused_1 (by omega) (in_c rfl)) ?_
          refine aw_if_eq (tgt := 62) d_Mo_keep_57 rfl (fun h57 => absurd h57 (by omega)) (fun h57 => ?_)
          refine aw_iconst d_Mo_keep_60 (in_c rfl) ?_
          exact aw_iret d_Mo_keep_61 rfl ⟨rfl, rfl, rfl⟩
        · replace h46 := ite_n h46
          refine aw_iconst d_Mo_keep_49 (in_c rfl) ?_
          refine aw_goto (tgt := 54) d_Mo_keep_50 rfl ?_
          refine aw_ve (as := [_, _]) rfl cv_Mo_96 (by omega) rfl rfl d_Mo_keep_54 (Nat.le_of_ble_eq_true rfl) (d' := d - 1) (by omega) (m_Mo_refused_1 (by omega) (in_c rfl)) ?_
          refine aw_if_eq (tgt := 62) d_Mo_keep_57 rfl (fun h57 => absurd h57 (by omega)) (fun h57 => ?_)
          refine aw_iconst d_Mo_keep_60 (in_c rfl) ?_
          exact aw_iret d_Mo_keep_61 rfl ⟨rfl, rfl, rfl⟩
  · refine aw_aload_n d_Mo_keep_10 rfl rfl ?_
    refine aw_getI fd_Mo_made lk_Mo_93 (by omega) rfl d_Mo_keep_11 ?_
    refine aw_if_ne (tgt := 21) d_Mo_keep_14 rfl (fun h14 => absurd h14 (by omega)) (fun h14 => ?_)
    refine aw_iconst d_Mo_keep_17 (in_c rfl) ?_
    refine aw_goto (tgt := 22) d_Mo_keep_18 rfl ?_
    refine aw_aload_n d_Mo_keep_22 rfl rfl ?_
    refine aw_iload_n d_Mo_keep_23 rfl rfl ?_
    refine aw_iconst d_Mo_keep_24 (in_c rfl) ?_
    refine aw_ve (as := [_, _]) rfl cv_Mo_213 (by omega) rfl rfl d_Mo_keep_25 (Nat.le_of_ble_eq_true rfl) (d' := d - 1) (by omega) (m_Mo_isOut (by omega) (by assumption) (by omega) (by omega) hR) ?_
    refine aw_if_ne (tgt := 49) d_Mo_keep_28 rfl (fun h28 => ?_) (fun h28 => ?_)
    · replace h28 := ite_n h28
      refine aw_iconst d_Mo_keep_49 (in_c rfl) ?_
      refine aw_goto (tgt := 54) d_Mo_keep_50 rfl ?_
      refine aw_ve (as := [_, _]) rfl cv_Mo_96 (by omega) rfl rfl d_Mo_keep_54 (Nat.le_of_ble_eq_true rfl) (d' := d - 1) (by omega) (m_Mo_refused_1 (by omega) (in_c rfl)) ?_
      refine aw_if_eq (tgt := 62) d_Mo_keep_57 rfl (fun h57 => absurd h57 (by omega)) (fun h57 => ?_)
      refine aw_iconst d_Mo_keep_60 (in_c rfl) ?_
      exact aw_iret d_Mo_keep_61 rfl ⟨rfl, rfl, rfl⟩
    · replace h28 := ite_z h28
      refine aw_aload_n d_Mo_keep_31 rfl rfl ?_
      refine aw_iload_n d_Mo_keep_32 rfl rfl ?_
      refine aw_iconst d_Mo_keep_33 (in_c rfl) ?_
      refine aw_ve (as := [_, _]) rfl cv_Mo_213 (by omega) rfl rfl d_Mo_keep_34 (Nat.le_of_ble_eq_true rfl) (d' := d - 1) (by omega) (m_Mo_isOut (by omega) (by assumption) (by omega) (by omega) hR) ?_
      refine aw_if_ne (tgt := 49) d_Mo_keep_37 rfl (fun h37 => ?_) (fun h37 => ?_)
      · replace h37 := ite_n h37
        refine aw_iconst d_Mo_keep_49 (in_c rfl) ?_
        refine aw_goto (tgt := 54) d_Mo_keep_50 rfl ?_
        refine aw_ve (as := [_, _]) rfl cv_Mo_96 (by omega) rfl rfl d_Mo_keep_54 (Nat.le_of_ble_eq_true rfl) (d' := d - 1) (by omega) (m_Mo_refused_1 (by omega) (in_c rfl)) ?_
        refine aw_if_eq (tgt := 62) d_Mo_keep_57 rfl (fun h57 => absurd h57 (by omega)) (fun h57 => ?_)
        refine aw_iconst d_Mo_keep_60 (in_c rfl) ?_
        exact aw_iret d_Mo_keep_61 rfl ⟨rfl, rfl, rfl⟩
      · replace h37 := ite_z h37
        refine aw_aload_n d_Mo_keep_40 rfl rfl ?_
        refine aw_iload_n d_Mo_keep_41 rfl rfl ?_
        refine aw_iconst d_Mo_keep_42 (in_c rfl) ?_
        refine aw_ve (as := [_, _]) rfl cv_Mo_213 (by omega) rfl rfl d_Mo_keep_43 (Nat.le_of_ble_eq_true rfl) (d' := d - 1) (by omega) (m_Mo_isOut (by omega) (by assumption) (by omega) (by omega) hR) ?_
        refine aw_if_eq (tgt := 53) d_Mo_keep_46 rfl (fun h46 => ?_) (fun h46 => ?_)
        · replace h46 := ite_z h46
          refine aw_iconst d_Mo_keep_53 (in_c rfl) ?_
          refine aw_ve (as := [_, _]) rfl cv_Mo_96 (by omega) rfl rfl d_Mo_keep_54 (Nat.le_of_ble_eq_true rfl) (d' := d - 1) (by omega) (m_Mo_refused_1 (by omega) (in_c rfl)) ?_
          refine aw_if_eq (tgt := 62) d_Mo_keep_57 rfl (fun h57 => absurd h57 (by omega)) (fun h57 => ?_)
          refine aw_iconst d_Mo_keep_60 (in_c rfl) ?_
          exact aw_iret d_Mo_keep_61 rfl ⟨rfl, rfl, rfl⟩
        · replace h46 := ite_n h46
          refine aw_iconst d_Mo_keep_49 (in_c rfl) ?_
          refine aw_goto (tgt := 54) d_Mo_keep_50 rfl ?_
          refine aw_ve (as := [_, _]) rfl cv_Mo_96 (by omega) rfl rfl d_Mo_keep_54 (Nat.le_of_ble_eq_true rfl) (d' := d - 1) (by omega) (m_Mo_refused_1 (by omega) (in_c rfl)) ?_
          refine aw_if_eq (tgt := 62) d_Mo_keep_57 rfl (fun h57 => absurd h57 (by omega)) (fun h57 => ?_)
          refine aw_iconst d_Mo_keep_60 (in_c rfl) ?_
          exact aw_iret d_Mo_keep_61 rfl ⟨rfl, rfl, rfl⟩
end
