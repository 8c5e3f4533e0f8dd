/-! the reference: condition -/
section
variable {G : aG} {pg : Nat} {μ : aM}
set_option maxRecDepth 100000 in
theorem m_Mo_condition {d : Nat} (hd : 0 ≤ d) {kd a b k : Int} {c : Nat} (h1 : inR kd) (h2 : inR a) (h3 : inR b) (h4 : inR k) (hc : mI μ 67 4 = (c : Int)) (h8 : c ≤ 8) (hR : ∀ k j, mR μ k j = R0 pg k j) : AM G false d 0 0 y_Mo_condition [aP 67, aI kd, aI a, aI b, aI k] 94 μ (fun r n9 m => n9 = 94 ∧ ((c = 8 ∧ r = .inl (some (aI 0)) ∧ m = wI μ 67 0 1) ∨ (¬ c = 8 ∧ ¬ ((0 ≤ a ∧ a < mI μ 67 1) ∧ (-1 ≤ b ∧ b < mI μ 67 1)) ∧ r = .inl (some (aI 0)) ∧ m = wI μ 67 0 2) ∨ (¬ c = 8 ∧ ((0 ≤ a ∧ a < mI μ 67 1) ∧ (-1 ≤ b ∧ b < mI μ 67 1)) ∧ ¬ (0 ≤ kd ∧ kd ≤ 3 ∧ -50 ≤ k ∧ k ≤ 50 ∧ ¬ a = b) ∧ r = .inl (some (aI 0)) ∧ m = wI μ 67 0 3) ∨ (¬ c = 8 ∧ ((0 ≤ a ∧ a < mI μ 67 1) ∧ (-1 ≤ b ∧ b < mI μ 67 1)) ∧ (0 ≤ kd ∧ kd ≤ 3 ∧ -50 ≤ k ∧ k ≤ 50 ∧ ¬ a = b) ∧ r = .inl (some (aI (c : Int))) ∧ m = wI (wI (wI (wI (wI (wI μ 67 0 0) 70 c kd) 71 c a) 72 c b) 73 c k) 67 4 ((c : Int) + 1)))) := by
  refine am_of (n := 2) pf_Mo_condition (Nat.le_of_ble_eq_true rfl) (by intro v hv; simp only [List.mem_cons, List.not_mem_nil, or_false] at hv; rcases hv with rfl | rfl | rfl | rfl | rfl <;> first | trivial | assumption | exact in_c rfl) rfl ?_
  refine aw_iload_n d_Mo_condition_0 rfl rfl ?_
  refine aw_if_lt (tgt := 29) d_Mo_condition_1 rfl (fun h1 => ?_) (fun h1 => ?_)
  · refine aw_iconst d_Mo_condition_29 (in_c rfl) ?_
    refine aw_istore (lst' := [_, _, _, _, _, _, _]) d_Mo_condition_30 (Nat.le_of_ble_eq_true rfl) rfl ?_
    refine aw_iload_n d_Mo_condition_32 rfl rfl ?_
    refine aw_if_lt (tgt := 64) d_Mo_condition_33 rfl (fun h33 => ?_) (fun h33 => ?_)
    · refine aw_iconst d_Mo_condition_64 (in_c rfl) ?_
      refine aw_istore (lst' := [_, _, _, _, _, _, _]) d_Mo_condition_65 (Nat.le_of_ble_eq_true rfl) rfl ?_
      refine aw_aload_n d_Mo_condition_67 rfl rfl ?_
      refine aw_aload_n d_Mo_condition_68 rfl rfl ?_
      refine aw_getI fd_Mo_made lk_Mo_93 (by omega) rfl d_Mo_condition_69 ?_
      refine aw_tv (v' := (c : Int)) hc ?_
      refine aw_bipush (z := 8) d_Mo_condition_72 (in_c rfl) rfl ?_
      refine aw_icmp_ne (tgt := 81) d_Mo_condition_74 rfl (fun h74 => ?_) (fun h74 => ?_)
      · refine aw_iload d_Mo_condition_81 rfl ?_
        refine aw_if_ne (tgt := 90) d_Mo_condition_83 rfl (fun h83 => absurd h83 (by omega)) (fun h83 => ?_)
        refine aw_iconst d_Mo_condition_86 (in_c rfl) ?_
        refine aw_goto (tgt := 100) d_Mo_condition_87 rfl ?_
        refine aw_putI fd_Mo_fault lk_Mo_86 (by omega) rfl d_Mo_condition_100 (Or.inl rfl) ?_
        refine aw_aload_n d_Mo_condition_103 rfl rfl ?_
        refine aw_getI fd_Mo_fault lk_Mo_86 (by omega) rfl d_Mo_condition_104 ?_
        refine aw_tv (v' := 2) rfl ?_
        refine aw_if_le (tgt := 112) d_Mo_condition_107 rfl (fun h107 => absurd h107 (by omega)) (fun h107 => ?_)
        refine aw_iconst d_Mo_condition_110 (in_c rfl) ?_
        exact aw_iret d_Mo_condition_111 rfl ⟨rfl, Or.inr (Or.inl ⟨by omega, by omega, rfl, rfl⟩)⟩
      · refine aw_iconst d_Mo_condition_77 (in_c rfl) ?_
        refine aw_goto (tgt := 100) d_Mo_condition_78 rfl ?_
        refine aw_putI fd_Mo_fault lk_Mo_86 (by omega) rfl d_Mo_condition_100 (Or.inl rfl) ?_
        refine aw_aload_n d_Mo_condition_103 rfl rfl ?_
        refine aw_getI fd_Mo_fault lk_Mo_86 (by omega) rfl d_Mo_condition_104 ?_
        refine aw_tv (v' := 1) rfl ?_
        refine aw_if_le (tgt := 112) d_Mo_condition_107 rfl (fun h107 => absurd h107 (by omega)) (fun h107 => ?_)
        refine aw_iconst d_Mo_condition_110 (in_c rfl) ?_
        exact aw_iret d_Mo_condition_111 rfl ⟨rfl, Or.inl ⟨by omega, rfl, rfl⟩⟩
    · refine aw_iload_n d_Mo_condition_36 rfl rfl ?_
      refine aw_iconst d_Mo_condition_37 (in_c rfl) ?_
      refine aw_icmp_gt (tgt := 64) d_Mo_condition_38 rfl (fun h38 => ?_) (fun h38 => ?_)
      · refine aw_iconst d_Mo_condition_64 (in_c rfl) ?_
        refine aw_istore (lst' := [_, _, _, _, _, _, _]) d_Mo_condition_65 (Nat.le_of_ble_eq_true rfl) rfl ?_
        refine aw_aload_n d_Mo_condition_67 rfl rfl ?_
        refine aw_aload_n d_Mo_condition_68 rfl rfl ?_
        refine aw_getI fd_Mo_made lk_Mo_93 (by omega) rfl d_Mo_condition_69 ?_
        refine aw_tv (v' := (c : Int)) hc ?_
        refine aw_bipush (z := 8) d_Mo_condition_72 (in_c rfl) rfl ?_
        refine aw_icmp_ne (tgt := 81) d_Mo_condition_74 rfl (fun h74 => ?_) (fun h74 => ?_)
        · refine aw_iload d_Mo_condition_81 rfl ?_
          refine aw_if_ne (tgt := 90) d_Mo_condition_83 rfl (fun h83 => absurd h83 (by omega)) (fun h83 => ?_)
          refine aw_iconst d_Mo_condition_86 (in_c rfl) ?_
          refine aw_goto (tgt := 100) d_Mo_condition_87 rfl ?_
          refine aw_putI fd_Mo_fault lk_Mo_86 (by omega) rfl d_Mo_condition_100 (Or.inl rfl) ?_
          refine aw_aload_n d_Mo_condition_103 rfl rfl ?_
          refine aw_getI fd_Mo_fault lk_Mo_86 (by omega) rfl d_Mo_condition_104 ?_
          refine aw_tv (v' := 2) rfl ?_
          refine aw_if_le (tgt := 112) d_Mo_condition_107 rfl (fun h107 => absurd h107 (by omega)) (fun h107 => ?_)
          refine aw_iconst d_Mo_condition_110 (in_c rfl) ?_
          exact aw_iret d_Mo_condition_111 rfl ⟨rfl, Or.inr (Or.inl ⟨by omega, by omega, rfl, rfl⟩)⟩
        · refine aw_iconst d_Mo_condition_77 (in_c rfl) ?_
          refine aw_goto (tgt := 100) d_Mo_condition_78 rfl ?_
          refine aw_putI fd_Mo_fault lk_Mo_86 (by omega) rfl d_Mo_condition_100 (Or.inl rfl) ?_
          refine aw_aload_n d_Mo_condition_103 rfl rfl ?_
          refine aw_getI fd_Mo_fault lk_Mo_86 (by omega) rfl d_Mo_condition_104 ?_
          refine aw_tv (v' := 1) rfl ?_
          refine aw_if_le (tgt := 112) d_Mo_condition_107 rfl (fun h107 => absurd h107 (by omega)) (fun h107 => ?_)
          refine aw_iconst d_Mo_condition_110 (in_c rfl) ?_
          exact aw_iret d_Mo_condition_111 rfl ⟨rfl, Or.inl ⟨by omega, rfl, rfl⟩⟩
      · refine aw_iload d_Mo_condition_41 rfl ?_
        refine aw_bipush (z := (-50)) d_Mo_condition_43 (in_c rfl) rfl ?_
        refine aw_icmp_lt (tgt := 64) d_Mo_condition_45 rfl (fun h45 => ?_) (fun h45 => ?_)
        · refine aw_iconst d_Mo_condition_64 (in_c rfl) ?_
          refine aw_istore (lst' := [_, _, _, _, _, _, _]) d_Mo_condition_65 (Nat.le_of_ble_eq_true rfl) rfl ?_
          refine aw_aload_n d_Mo_condition_67 rfl rfl ?_
          refine aw_aload_n d_Mo_condition_68 rfl rfl ?_
          refine aw_getI fd_Mo_made lk_Mo_93 (by omega) rfl d_Mo_condition_69 ?_
          refine aw_tv (v' := (c : Int)) hc ?_
          refine aw_bipush (z := 8) d_Mo_condition_72 (in_c rfl) rfl ?_
          refine aw_icmp_ne (tgt := 81) d_Mo_condition_74 rfl (fun h74 => ?_) (fun h74 => ?_)
          · refine aw_iload d_Mo_condition_81 rfl ?_
            refine aw_if_ne (tgt := 90) d_Mo_condition_83 rfl (fun h83 => absurd h83 (by omega)) (fun h83 => ?_)
            refine aw_iconst d_Mo_condition_86 (in_c rfl) ?_
            refine aw_goto (tgt := 100) d_Mo_condition_87 rfl ?_
            refine aw_putI fd_Mo_fault lk_Mo_86 (by omega) rfl d_Mo_condition_100 (Or.inl rfl) ?_
            refine aw_aload_n d_Mo_condition_103 rfl rfl ?_
            refine aw_getI fd_Mo_fault lk_Mo_86 (by omega) rfl d_Mo_condition_104 ?_
            refine aw_tv (v' := 2) rfl ?_
            refine aw_if_le (tgt := 112) d_Mo_condition_107 rfl (fun h107 => absurd h107 (by omega)) (fun h107 => ?_)
            refine aw_iconst d_Mo_condition_110 (in_c rfl) ?_
            exact aw_iret d_Mo_condition_111 rfl ⟨rfl, Or.inr (Or.inl ⟨by omega, by omega, rfl, rfl⟩)⟩
          · refine aw_iconst d_Mo_condition_77 (in_c rfl) ?_
            refine aw_goto (tgt := 100) d_Mo_condition_78 rfl ?_
            refine aw_putI fd_Mo_fault lk_Mo_86 (by omega) rfl d_Mo_condition_100 (Or.inl rfl) ?_
            refine aw_aload_n d_Mo_condition_103 rfl rfl ?_
            refine aw_getI fd_Mo_fault lk_Mo_86 (by omega) rfl d_Mo_condition_104 ?_
            refine aw_tv (v' := 1) rfl ?_
            refine aw_if_le (tgt := 112) d_Mo_condition_107 rfl (fun h107 => absurd h107 (by omega)) (fun h107 => ?_)
            refine aw_iconst d_Mo_condition_110 (in_c rfl) ?_
            exact aw_iret d_Mo_condition_111 rfl ⟨rfl, Or.inl ⟨by omega, rfl, rfl⟩⟩
        · refine aw_iload d_Mo_condition_48 rfl ?_
          refine aw_bipush (z := 50) d_Mo_condition_50 (in_c rfl) rfl ?_
          refine aw_icmp_gt (tgt := 64) d_Mo_condition_52 rfl (fun h52 => ?_) (fun h52 => ?_)
          · refine aw_iconst d_Mo_condition_64 (in_c rfl) ?_
            refine aw_istore (lst' := [_, _, _, _, _, _, _]) d_Mo_condition_65 (Nat.le_of_ble_eq_true rfl) rfl ?_
            refine aw_aload_n d_Mo_condition_67 rfl rfl ?_
            refine aw_aload_n d_Mo_condition_68 rfl rfl ?_
            refine aw_getI fd_Mo_made lk_Mo_93 (by omega) rfl d_Mo_condition_69 ?_
            refine aw_tv (v' := (c : Int)) hc ?_
            refine aw_bipush (z := 8) d_Mo_condition_72 (in_c rfl) rfl ?_
            refine aw_icmp_ne (tgt := 81) d_Mo_condition_74 rfl (fun h74 => ?_) (fun h74 => ?_)
            · refine aw_iload d_Mo_condition_81 rfl ?_
              refine aw_if_ne (tgt := 90) d_Mo_condition_83 rfl (fun h83 => absurd h83 (by omega)) (fun h83 => ?_)
              refine aw_iconst d_Mo_condition_86 (in_c rfl) ?_
              refine aw_goto (tgt := 100) d_Mo_condition_87 rfl ?_
              refine aw_putI fd_Mo_fault lk_Mo_86 (by omega) rfl d_Mo_condition_100 (Or.inl rfl) ?_
              refine aw_aload_n d_Mo_condition_103 rfl rfl ?_
              refine aw_getI fd_Mo_fault lk_Mo_86 (by omega) rfl d_Mo_condition_104 ?_
              refine aw_tv (v' := 2) rfl ?_
              refine aw_if_le (tgt := 112) d_Mo_condition_107 rfl (fun h107 => absurd h107 (by omega)) (fun h107 => ?_)
              refine aw_iconst d_Mo_condition_110 (in_c rfl) ?_
              exact aw_iret d_Mo_condition_111 rfl ⟨rfl, Or.inr (Or.inl ⟨by omega, by omega, rfl, rfl⟩)⟩
            · refine aw_iconst d_Mo_condition_77 (in_c rfl) ?_
              refine aw_goto (tgt := 100) d_Mo_condition_78 rfl ?_
              refine aw_putI fd_Mo_fault lk_Mo_86 (by omega) rfl d_Mo_condition_100 (Or.inl rfl) ?_
              refine aw_aload_n d_Mo_condition_103 rfl rfl ?_
              refine aw_getI fd_Mo_fault lk_Mo_86 (by omega) rfl d_Mo_condition_104 ?_
              refine aw_tv (v' := 1) rfl ?_
              refine aw_if_le (tgt := 112) d_Mo_condition_107 rfl (fun h107 => absurd h107 (by omega)) (fun h107 => ?_)
              refine aw_iconst d_Mo_condition_110 (in_c rfl) ?_
              exact aw_iret d_Mo_condition_111 rfl ⟨rfl, Or.inl ⟨by omega, rfl, rfl⟩⟩
          · refine aw_iload_n d_Mo_condition_55 rfl rfl ?_
            refine aw_iload_n d_Mo_condition_56 rfl rfl ?_
            refine aw_icmp_eq (tgt := 64) d_Mo_condition_57 rfl (fun h57 => ?_) (fun h57 => ?_)
            · refine aw_iconst d_Mo_condition_64 (in_c rfl) ?_
              refine aw_istore (lst' := [_, _, _, _, _, _, _]) d_Mo_condition_65 (Nat.le_of_ble_eq_true rfl) rfl ?_
              refine aw_aload_n d_Mo_condition_67 rfl rfl ?_
              refine aw_aload_n d_Mo_condition_68 rfl rfl ?_
              refine aw_getI fd_Mo_made lk_Mo_93 (by omega) rfl d_Mo_condition_69 ?_
              refine aw_tv (v' := (c : Int)) hc ?_
              refine aw_bipush (z := 8) d_Mo_condition_72 (in_c rfl) rfl ?_
              refine aw_icmp_ne (tgt := 81) d_Mo_condition_74 rfl (fun h74 => ?_) (fun h74 => ?_)
              · refine aw_iload d_Mo_condition_81 rfl ?_
                refine aw_if_ne (tgt := 90) d_Mo_condition_83 rfl (fun h83 => absurd h83 (by omega)) (fun h83 => ?_)
                refine aw_iconst d_Mo_condition_86 (in_c rfl) ?_
                refine aw_goto (tgt := 100) d_Mo_condition_87 rfl ?_
                refine aw_putI fd_Mo_fault lk_Mo_86 (by omega) rfl d_Mo_condition_100 (Or.inl rfl) ?_
                refine aw_aload_n d_Mo_condition_103 rfl rfl ?_
                refine aw_getI fd_Mo_fault lk_Mo_86 (by omega) rfl d_Mo_condition_104 ?_
                refine aw_tv (v' := 2) rfl ?_
                refine aw_if_le (tgt := 112) d_Mo_condition_107 rfl (fun h107 => absurd h107 (by omega)) (fun h107 => ?_)
                refine aw_iconst d_Mo_condition_110 (in_c rfl) ?_
                exact aw_iret d_Mo_condition_111 rfl ⟨rfl, Or.inr (Or.inl ⟨by omega, by omega, rfl, rfl⟩)⟩
              · refine aw_iconst d_Mo_condition_77 (in_c rfl) ?_
                refine aw_goto (tgt := 100) d_Mo_condition_78 rfl ?_
                refine aw_putI fd_Mo_fault lk_Mo_86 (by omega) rfl d_Mo_condition_100 (Or.inl rfl) ?_
                refine aw_aload_n d_Mo_condition_103 rfl rfl ?_
                refine aw_getI fd_Mo_fault lk_Mo_86 (by omega) rfl d_Mo_condition_104 ?_
                refine aw_tv (v' := 1) rfl ?_
                refine aw_if_le (tgt := 112) d_Mo_condition_107 rfl (fun h107 => absurd h107 (by omega)) (fun h107 => ?_)
                refine aw_iconst d_Mo_condition_110 (in_c rfl) ?_
                exact aw_iret d_Mo_condition_111 rfl ⟨rfl, Or.inl ⟨by omega, rfl, rfl⟩⟩
            · refine aw_iconst d_Mo_condition_60 (in_c rfl) ?_
              refine aw_goto (tgt := 65) d_Mo_condition_61 rfl ?_
              refine aw_istore (lst' := [_, _, _, _, _, _, _]) d_Mo_condition_65 (Nat.le_of_ble_eq_true rfl) rfl ?_
              refine aw_aload_n d_Mo_condition_67 rfl rfl ?_
              refine aw_aload_n d_Mo_condition_68 rfl rfl ?_
              refine aw_getI fd_Mo_made lk_Mo_93 (by omega) rfl d_Mo_condition_69 ?_
              refine aw_tv (v' := (c : Int)) hc ?_
              refine aw_bipush (z := 8) d_Mo_condition_72 (in_c rfl) rfl ?_
              refine aw_icmp_ne (tgt := 81) d_Mo_condition_74 rfl (fun h74 => ?_) (fun h74 => ?_)
              · refine aw_iload d_Mo_condition_81 rfl ?_
                refine aw_if_ne (tgt := 90) d_Mo_condition_83 rfl (fun h83 => absurd h83 (by omega)) (fun h83 => ?_)
                refine aw_iconst d_Mo_condition_86 (in_c rfl) ?_
                refine aw_goto (tgt := 100) d_Mo_condition_87 rfl ?_
                refine aw_putI fd_Mo_fault lk_Mo_86 (by omega) rfl d_Mo_condition_100 (Or.inl rfl) ?_
                refine aw_aload_n d_Mo_condition_103 rfl rfl ?_
                refine aw_getI fd_Mo_fault lk_Mo_86 (by omega) rfl d_Mo_condition_104 ?_
                refine aw_tv (v' := 2) rfl ?_
                refine aw_if_le (tgt := 112) d_Mo_condition_107 rfl (fun h107 => absurd h107 (by omega)) (fun h107 => ?_)
                refine aw_iconst d_Mo_condition_110 (in_c rfl) ?_
                exact aw_iret d_Mo_condition_111 rfl ⟨rfl, Or.inr (Or.inl ⟨by omega, by omega, rfl, rfl⟩)⟩
              · refine aw_iconst d_Mo_condition_77 (in_c rfl) ?_
                refine aw_goto (tgt := 100) d_Mo_condition_78 rfl ?_
                refine aw_putI fd_Mo_fault lk_Mo_86 (by omega) rfl d_Mo_condition_100 (Or.inl rfl) ?_
                refine aw_aload_n d_Mo_condition_103 rfl rfl ?_
                refine aw_getI fd_Mo_fault lk_Mo_86 (by omega) rfl d_Mo_condition_104 ?_
                refine aw_tv (v' := 1) rfl ?_
                refine aw_if_le (tgt := 112) d_Mo_condition_107 rfl (fun h107 => absurd h107 (by omega)) (fun h107 => ?_)
                refine aw_iconst d_Mo_condition_110 (in_c rfl) ?_
                exact aw_iret d_Mo_condition_111 rfl ⟨rfl, Or.inl ⟨by omega, rfl, rfl⟩⟩
  · refine aw_iload_n d_Mo_condition_4 rfl rfl ?_
    refine aw_aload_n d_Mo_condition_5 rfl rfl ?_
    refine aw_getI fd_Mo_inputs lk_Mo_90 (by omega) rfl d_Mo_condition_6 ?_
    refine aw_icmp_ge (tgt := 29) d_Mo_condition_9 rfl (fun h9 => ?_) (fun h9 => ?_)
    · refine aw_iconst d_Mo_condition_29 (in_c rfl) ?_
      refine aw_istore (lst' := [_, _, _, _, _, _, _]) d_Mo_condition_30 (Nat.le_of_ble_eq_true rfl) rfl ?_
      refine aw_iload_n d_Mo_condition_32 rfl rfl ?_
      refine aw_if_lt (tgt := 64) d_Mo_condition_33 rfl (fun h33 => ?_) (fun h33 => ?_)
      · refine aw_iconst d_Mo_condition_64 (in_c rfl) ?_
        refine aw_istore (lst' := [_, _, _, _, _, _, _]) d_Mo_condition_65 (Nat.le_of_ble_eq_true rfl) rfl ?_
        refine aw_aload_n d_Mo_condition_67 rfl rfl ?_
        refine aw_aload_n d_Mo_condition_68 rfl rfl ?_
        refine aw_getI fd_Mo_made lk_Mo_93 (by omega) rfl d_Mo_condition_69 ?_
        refine aw_tv (v' := (c : Int)) hc ?_
        refine aw_bipush (z := 8) d_Mo_condition_72 (in_c rfl) rfl ?_
        refine aw_icmp_ne (tgt := 81) d_Mo_condition_74 rfl (fun h74 => ?_) (fun h74 => ?_)
        · refine aw_iload d_Mo_condition_81 rfl ?_
          refine aw_if_ne (tgt := 90) d_Mo_condition_83 rfl (fun h83 => absurd h83 (by omega)) (fun h83 => ?_)
          refine aw_iconst d_Mo_condition_86 (in_c rfl) ?_
          refine aw_goto (tgt := 100) d_Mo_condition_87 rfl ?_
          refine aw_putI fd_Mo_fault lk_Mo_86 (by omega) rfl d_Mo_condition_100 (Or.inl rfl) ?_
          refine aw_aload_n d_Mo_condition_103 rfl rfl ?_
          refine aw_getI fd_Mo_fault lk_Mo_86 (by omega) rfl d_Mo_condition_104 ?_
          refine aw_tv (v' := 2) rfl ?_
          refine aw_if_le (tgt := 112) d_Mo_condition_107 rfl (fun h107 => absurd h107 (by omega)) (fun h107 => ?_)
          refine aw_iconst d_Mo_condition_110 (in_c rfl) ?_
          exact aw_iret d_Mo_condition_111 rfl ⟨rfl, Or.inr (Or.inl ⟨by omega, by omega, rfl, rfl⟩)⟩
        · refine aw_iconst d_Mo_condition_77 (in_c rfl) ?_
          refine aw_goto (tgt := 100) d_Mo_condition_78 rfl ?_
          refine aw_putI fd_Mo_fault lk_Mo_86 (by omega) rfl d_Mo_condition_100 (Or.inl rfl) ?_
          refine aw_aload_n d_Mo_condition_103 rfl rfl ?_
          refine aw_getI fd_Mo_fault lk_Mo_86 (by omega) rfl d_Mo_condition_104 ?_
          refine aw_tv (v' := 1) rfl ?_
          refine aw_if_le (tgt := 112) d_Mo_condition_107 rfl (fun h107 => absurd h107 (by omega)) (fun h107 => ?_)
          refine aw_iconst d_Mo_condition_110 (in_c rfl) ?_
          exact aw_iret d_Mo_condition_111 rfl ⟨rfl, Or.inl ⟨by omega, rfl, rfl⟩⟩
      · refine aw_iload_n d_Mo_condition_36 rfl rfl ?_
        refine aw_iconst d_Mo_condition_37 (in_c rfl) ?_
        refine aw_icmp_gt (tgt := 64) d_Mo_condition_38 rfl (fun h38 => ?_) (fun h38 => ?_)
        · refine aw_iconst d_Mo_condition_64 (in_c rfl) ?_
          refine aw_istore (lst' := [_, _, _, _, _, _, _]) d_Mo_condition_65 (Nat.le_of_ble_eq_true rfl) rfl ?_
          refine aw_aload_n d_Mo_condition_67 rfl rfl ?_
          refine aw_aload_n d_Mo_condition_68 rfl rfl ?_
          refine aw_getI fd_Mo_made lk_Mo_93 (by omega) rfl d_Mo_condition_69 ?_
          refine aw_tv (v' := (c : Int)) hc ?_
          refine aw_bipush (z := 8) d_Mo_condition_72 (in_c rfl) rfl ?_
          refine aw_icmp_ne (tgt := 81) d_Mo_condition_74 rfl (fun h74 => ?_) (fun h74 => ?_)
          · refine aw_iload d_Mo_condition_81 rfl ?_
            refine aw_if_ne (tgt := 90) d_Mo_condition_83 rfl (fun h83 => absurd h83 (by omega)) (fun h83 => ?_)
            refine aw_iconst d_Mo_condition_86 (in_c rfl) ?_
            refine aw_goto (tgt := 100) d_Mo_condition_87 rfl ?_
            refine aw_putI fd_Mo_fault lk_Mo_86 (by omega) rfl d_Mo_condition_100 (Or.inl rfl) ?_
            refine aw_aload_n d_Mo_condition_103 rfl rfl ?_
            refine aw_getI fd_Mo_fault lk_Mo_86 (by omega) rfl d_Mo_condition_104 ?_
            refine aw_tv (v' := 2) rfl ?_
            refine aw_if_le (tgt := 112) d_Mo_condition_107 rfl (fun h107 => absurd h107 (by omega)) (fun h107 => ?_)
            refine aw_iconst d_Mo_condition_110 (in_c rfl) ?_
            exact aw_iret d_Mo_condition_111 rfl ⟨rfl, Or.inr (Or.inl ⟨by omega, by omega, rfl, rfl⟩)⟩
          · refine aw_iconst d_Mo_condition_77 (in_c rfl) ?_
            refine aw_goto (tgt := 100) d_Mo_condition_78 rfl ?_
            refine aw_putI fd_Mo_fault lk_Mo_86 (by omega) rfl d_Mo_condition_100 (Or.inl rfl) ?_
            refine aw_aload_n d_Mo_condition_103 rfl rfl ?_
            refine aw_getI fd_Mo_fault lk_Mo_86 (by omega) rfl d_Mo_condition_104 ?_
            refine aw_tv (v' := 1) rfl ?_
            refine aw_if_le (tgt := 112) d_Mo_condition_107 rfl (fun h107 => absurd h107 (by omega)) (fun h107 => ?_)
            refine aw_iconst d_Mo_condition_110 (in_c rfl) ?_
            exact aw_iret d_Mo_condition_111 rfl ⟨rfl, Or.inl ⟨by omega, rfl, rfl⟩⟩
        · refine aw_iload d_Mo_condition_41 rfl ?_
          refine aw_bipush (z := (-50)) d_Mo_condition_43 (in_c rfl) rfl ?_
          refine aw_icmp_lt (tgt := 64) d_Mo_condition_45 rfl (fun h45 => ?_) (fun h45 => ?_)
          · refine aw_iconst d_Mo_condition_64 (in_c rfl) ?_
            refine aw_istore (lst' := [_, _, _, _, _, _, _]) d_Mo_condition_65 (Nat.le_of_ble_eq_true rfl) rfl ?_
            refine aw_aload_n d_Mo_condition_67 rfl rfl ?_
            refine aw_aload_n d_Mo_condition_68 rfl rfl ?_
            refine aw_getI fd_Mo_made lk_Mo_93 (by omega) rfl d_Mo_condition_69 ?_
            refine aw_tv (v' := (c : Int)) hc ?_
            refine aw_bipush (z := 8) d_Mo_condition_72 (in_c rfl) rfl ?_
            refine aw_icmp_ne (tgt := 81) d_Mo_condition_74 rfl (fun h74 => ?_) (fun h74 => ?_)
            · refine aw_iload d_Mo_condition_81 rfl ?_
              refine aw_if_ne (tgt := 90) d_Mo_condition_83 rfl (fun h83 => absurd h83 (by omega)) (fun h83 => ?_)
              refine aw_iconst d_Mo_condition_86 (in_c rfl) ?_
              refine aw_goto (tgt := 100) d_Mo_condition_87 rfl ?_
              refine aw_putI fd_Mo_fault lk_Mo_86 (by omega) rfl d_Mo_condition_100 (Or.inl rfl) ?_
              refine aw_aload_n d_Mo_condition_103 rfl rfl ?_
              refine aw_getI fd_Mo_fault lk_Mo_86 (by omega) rfl d_Mo_condition_104 ?_
              refine aw_tv (v' := 2) rfl ?_
              refine aw_if_le (tgt := 112) d_Mo_condition_107 rfl (fun h107 => absurd h107 (by omega)) (fun h107 => ?_)
              refine aw_iconst d_Mo_condition_110 (in_c rfl) ?_
              exact aw_iret d_Mo_condition_111 rfl ⟨rfl, Or.inr (Or.inl ⟨by omega, by omega, rfl, rfl⟩)⟩
            · refine aw_iconst d_Mo_condition_77 (in_c rfl) ?_
              refine aw_goto (tgt := 100) d_Mo_condition_78 rfl ?_
              refine aw_putI fd_Mo_fault lk_Mo_86 (by omega) rfl d_Mo_condition_100 (Or.inl rfl) ?_
              refine aw_aload_n d_Mo_condition_103 rfl rfl ?_
              refine aw_getI fd_Mo_fault lk_Mo_86 (by omega) rfl d_Mo_condition_104 ?_
              refine aw_tv (v' := 1) rfl ?_
              refine aw_if_le (tgt := 112) d_Mo_condition_107 rfl (fun h107 => absurd h107 (by omega)) (fun h107 => ?_)
              refine aw_iconst d_Mo_condition_110 (in_c rfl) ?_
              exact aw_iret d_Mo_condition_111 rfl ⟨rfl, Or.inl ⟨by omega, rfl, rfl⟩⟩
          · refine aw_iload d_Mo_condition_48 rfl ?_
            refine aw_bipush (z := 50) d_Mo_condition_50 (in_c rfl) rfl ?_
            refine aw_icmp_gt (tgt := 64) d_Mo_condition_52 rfl (fun h52 => ?_) (fun h52 => ?_)
            · refine aw_iconst d_Mo_condition_64 (in_c rfl) ?_
              refine aw_istore (lst' := [_, _, _, _, _, _, _]) d_Mo_condition_65 (Nat.le_of_ble_eq_true rfl) rfl ?_
              refine aw_aload_n d_Mo_condition_67 rfl rfl ?_
              refine aw_aload_n d_Mo_condition_68 rfl rfl ?_
              refine aw_getI fd_Mo_made lk_Mo_93 (by omega) rfl d_Mo_condition_69 ?_
              refine aw_tv (v' := (c : Int)) hc ?_
              refine aw_bipush (z := 8) d_Mo_condition_72 (in_c rfl) rfl ?_
              refine aw_icmp_ne (tgt := 81) d_Mo_condition_74 rfl (fun h74 => ?_) (fun h74 => ?_)
              · refine aw_iload d_Mo_condition_81 rfl ?_
                refine aw_if_ne (tgt := 90) d_Mo_condition_83 rfl (fun h83 => absurd h83 (by omega)) (fun h83 => ?_)
                refine aw_iconst d_Mo_condition_86 (in_c rfl) ?_
                refine aw_goto (tgt := 100) d_Mo_condition_87 rfl ?_
                refine aw_putI fd_Mo_fault lk_Mo_86 (by omega) rfl d_Mo_condition_100 (Or.inl rfl) ?_
                refine aw_aload_n d_Mo_condition_103 rfl rfl ?_
                refine aw_getI fd_Mo_fault lk_Mo_86 (by omega) rfl d_Mo_condition_104 ?_
                refine aw_tv (v' := 2) rfl ?_
                refine aw_if_le (tgt := 112) d_Mo_condition_107 rfl (fun h107 => absurd h107 (by omega)) (fun h107 => ?_)
                refine aw_iconst d_Mo_condition_110 (in_c rfl) ?_
                exact aw_iret d_Mo_condition_111 rfl ⟨rfl, Or.inr (Or.inl ⟨by omega, by omega, rfl, rfl⟩)⟩
              · refine aw_iconst d_Mo_condition_77 (in_c rfl) ?_
                refine aw_goto (tgt := 100) d_Mo_condition_78 rfl ?_
                refine aw_putI fd_Mo_fault lk_Mo_86 (by omega) rfl d_Mo_condition_100 (Or.inl rfl) ?_
                refine aw_aload_n d_Mo_condition_103 rfl rfl ?_
                refine aw_getI fd_Mo_fault lk_Mo_86 (by omega) rfl d_Mo_condition_104 ?_
                refine aw_tv (v' := 1) rfl ?_
                refine aw_if_le (tgt := 112) d_Mo_condition_107 rfl (fun h107 => absurd h107 (by omega)) (fun h107 => ?_)
                refine aw_iconst d_Mo_condition_110 (in_c rfl) ?_
                exact aw_iret d_Mo_condition_111 rfl ⟨rfl, Or.inl ⟨by omega, rfl, rfl⟩⟩
            · refine aw_iload_n d_Mo_condition_55 rfl rfl ?_
              refine aw_iload_n d_Mo_condition_56 rfl rfl ?_
              refine aw_icmp_eq (tgt := 64) d_Mo_condition_57 rfl (fun h57 => ?_) (fun h57 => ?_)
              · refine aw_iconst d_Mo_condition_64 (in_c rfl) ?_
                refine aw_istore (lst' := [_, _, _, _, _, _, _]) d_Mo_condition_65 (Nat.le_of_ble_eq_true rfl) rfl ?_
                refine aw_aload_n d_Mo_condition_67 rfl rfl ?_
                refine aw_aload_n d_Mo_condition_68 rfl rfl ?_
                refine aw_getI fd_Mo_made lk_Mo_93 (by omega) rfl d_Mo_condition_69 ?_
                refine aw_tv (v' := (c : Int)) hc ?_
                refine aw_bipush (z := 8) d_Mo_condition_72 (in_c rfl) rfl ?_
                refine aw_icmp_ne (tgt := 81) d_Mo_condition_74 rfl (fun h74 => ?_) (fun h74 => ?_)
                · refine aw_iload d_Mo_condition_81 rfl ?_
                  refine aw_if_ne (tgt := 90) d_Mo_condition_83 rfl (fun h83 => absurd h83 (by omega)) (fun h83 => ?_)
                  refine aw_iconst d_Mo_condition_86 (in_c rfl) ?_
                  refine aw_goto (tgt := 100) d_Mo_condition_87 rfl ?_
                  refine aw_putI fd_Mo_fault lk_Mo_86 (by omega) rfl d_Mo_condition_100 (Or.inl rfl) ?_
                  refine aw_aload_n d_Mo_condition_103 rfl rfl ?_
                  refine aw_getI fd_Mo_fault lk_Mo_86 (by omega) rfl d_Mo_condition_104 ?_
                  refine aw_tv (v' := 2) rfl ?_
                  refine aw_if_le (tgt := 112) d_Mo_condition_107 rfl (fun h107 => absurd h107 (by omega)) (fun h107 => ?_)
                  refine aw_iconst d_Mo_condition_110 (in_c rfl) ?_
                  exact aw_iret d_Mo_condition_111 rfl ⟨rfl, Or.inr (Or.inl ⟨by omega, by omega, rfl, rfl⟩)⟩
                · refine aw_iconst d_Mo_condition_77 (in_c rfl) ?_
                  refine aw_goto (tgt := 100) d_Mo_condition_78 rfl ?_
                  refine aw_putI fd_Mo_fault lk_Mo_86 (by omega) rfl d_Mo_condition_100 (Or.inl rfl) ?_
                  refine aw_aload_n d_Mo_condition_103 rfl rfl ?_
                  refine aw_getI fd_Mo_fault lk_Mo_86 (by omega) rfl d_Mo_condition_104 ?_
                  refine aw_tv (v' := 1) rfl ?_
                  refine aw_if_le (tgt := 112) d_Mo_condition_107 rfl (fun h107 => absurd h107 (by omega)) (fun h107 => ?_)
                  refine aw_iconst d_Mo_condition_110 (in_c rfl) ?_
                  exact aw_iret d_Mo_condition_111 rfl ⟨rfl, Or.inl ⟨by omega, rfl, rfl⟩⟩
              · refine aw_iconst d_Mo_condition_60 (in_c rfl) ?_
                refine aw_goto (tgt := 65) d_Mo_condition_61 rfl ?_
                refine aw_istore (lst' := [_, _, _, _, _, _, _]) d_Mo_condition_65 (Nat.le_of_ble_eq_true rfl) rfl ?_
                refine aw_aload_n d_Mo_condition_67 rfl rfl ?_
                refine aw_aload_n d_Mo_condition_68 rfl rfl ?_
                refine aw_getI fd_Mo_made lk_Mo_93 (by omega) rfl d_Mo_condition_69 ?_
                refine aw_tv (v' := (c : Int)) hc ?_
                refine aw_bipush (z := 8) d_Mo_condition_72 (in_c rfl) rfl ?_
                refine aw_icmp_ne (tgt := 81) d_Mo_condition_74 rfl (fun h74 => ?_) (fun h74 => ?_)
                · refine aw_iload d_Mo_condition_81 rfl ?_
                  refine aw_if_ne (tgt := 90) d_Mo_condition_83 rfl (fun h83 => absurd h83 (by omega)) (fun h83 => ?_)
                  refine aw_iconst d_Mo_condition_86 (in_c rfl) ?_
                  refine aw_goto (tgt := 100) d_Mo_condition_87 rfl ?_
                  refine aw_putI fd_Mo_fault lk_Mo_86 (by omega) rfl d_Mo_condition_100 (Or.inl rfl) ?_
                  refine aw_aload_n d_Mo_condition_103 rfl rfl ?_
                  refine aw_getI fd_Mo_fault lk_Mo_86 (by omega) rfl d_Mo_condition_104 ?_
                  refine aw_tv (v' := 2) rfl ?_
                  refine aw_if_le (tgt := 112) d_Mo_condition_107 rfl (fun h107 => absurd h107 (by omega)) (fun h107 => ?_)
                  refine aw_iconst d_Mo_condition_110 (in_c rfl) ?_
                  exact aw_iret d_Mo_condition_111 rfl ⟨rfl, Or.inr (Or.inl ⟨by omega, by omega, rfl, rfl⟩)⟩
                · refine aw_iconst d_Mo_condition_77 (in_c rfl) ?_
                  refine aw_goto (tgt := 100) d_Mo_condition_78 rfl ?_
                  refine aw_putI fd_Mo_fault lk_Mo_86 (by omega) rfl d_Mo_condition_100 (Or.inl rfl) ?_
                  refine aw_aload_n d_Mo_condition_103 rfl rfl ?_
                  refine aw_getI fd_Mo_fault lk_Mo_86 (by omega) rfl d_Mo_condition_104 ?_
                  refine aw_tv (v' := 1) rfl ?_
                  refine aw_if_le (tgt := 112) d_Mo_condition_107 rfl (fun h107 => absurd h107 (by omega)) (fun h107 => ?_)
                  refine aw_iconst d_Mo_condition_110 (in_c rfl) ?_
                  exact aw_iret d_Mo_condition_111 rfl ⟨rfl, Or.inl ⟨by omega, rfl, rfl⟩⟩
    · refine aw_iload_n d_Mo_condition_12 rfl rfl ?_
      refine aw_iconst d_Mo_condition_13 (in_c rfl) ?_
      refine aw_icmp_lt (tgt := 29) d_Mo_condition_14 rfl (fun h14 => ?_) (fun h14 => ?_)
      · refine aw_iconst d_Mo_condition_29 (in_c rfl) ?_
        refine aw_istore (lst' := [_, _, _, _, _, _, _]) d_Mo_condition_30 (Nat.le_of_ble_eq_true rfl) rfl ?_
        refine aw_iload_n d_Mo_condition_32 rfl rfl ?_
        refine aw_if_lt (tgt := 64) d_Mo_condition_33 rfl (fun h33 => ?_) (fun h33 => ?_)
        · refine aw_iconst d_Mo_condition_64 (in_c rfl) ?_
          refine aw_istore (lst' := [_, _, _, _, _, _, _]) d_Mo_condition_65 (Nat.le_of_ble_eq_true rfl) rfl ?_
          refine aw_aload_n d_Mo_condition_67 rfl rfl ?_
          refine aw_aload_n d_Mo_condition_68 rfl rfl ?_
          refine aw_getI fd_Mo_made lk_Mo_93 (by omega) rfl d_Mo_condition_69 ?_
          refine aw_tv (v' := (c : Int)) hc ?_
          refine aw_bipush (z := 8) d_Mo_condition_72 (in_c rfl) rfl ?_
          refine aw_icmp_ne (tgt := 81) d_Mo_condition_74 rfl (fun h74 => ?_) (fun h74 => ?_)
          · refine aw_iload d_Mo_condition_81 rfl ?_
            refine aw_if_ne (tgt := 90) d_Mo_condition_83 rfl (fun h83 => absurd h83 (by omega)) (fun h83 => ?_)
            refine aw_iconst d_Mo_condition_86 (in_c rfl) ?_
            refine aw_goto (tgt := 100) d_Mo_condition_87 rfl ?_
            refine aw_putI fd_Mo_fault lk_Mo_86 (by omega) rfl d_Mo_condition_100 (Or.inl rfl) ?_
            refine aw_aload_n d_Mo_condition_103 rfl rfl ?_
            refine aw_getI fd_Mo_fault lk_Mo_86 (by omega) rfl d_Mo_condition_104 ?_
            refine aw_tv (v' := 2) rfl ?_
            refine aw_if_le (tgt := 112) d_Mo_condition_107 rfl (fun h107 => absurd h107 (by omega)) (fun h107 => ?_)
            refine aw_iconst d_Mo_condition_110 (in_c rfl) ?_
            exact aw_iret d_Mo_condition_111 rfl ⟨rfl, Or.inr (Or.inl ⟨by omega, by omega, rfl, rfl⟩)⟩
          · refine aw_iconst d_Mo_condition_77 (in_c rfl) ?_
            refine aw_goto (tgt := 100) d_Mo_condition_78 rfl ?_
            refine aw_putI fd_Mo_fault lk_Mo_86 (by omega) rfl d_Mo_condition_100 (Or.inl rfl) ?_
            refine aw_aload_n d_Mo_condition_103 rfl rfl ?_
            refine aw_getI fd_Mo_fault lk_Mo_86 (by omega) rfl d_Mo_condition_104 ?_
            refine aw_tv (v' := 1) rfl ?_
            refine aw_if_le (tgt := 112) d_Mo_condition_107 rfl (fun h107 => absurd h107 (by omega)) (fun h107 => ?_)
            refine aw_iconst d_Mo_condition_110 (in_c rfl) ?_
            exact aw_iret d_Mo_condition_111 rfl ⟨rfl, Or.inl ⟨by omega, rfl, rfl⟩⟩
        · refine aw_iload_n d_Mo_condition_36 rfl rfl ?_
          refine aw_iconst d_Mo_condition_37 (in_c rfl) ?_
          refine aw_icmp_gt (tgt := 64) d_Mo_condition_38 rfl (fun h38 => ?_) (fun h38 => ?_)
          · refine aw_iconst d_Mo_condition_64 (in_c rfl) ?_
            refine aw_istore (lst' := [_, _, _, _, _, _, _]) d_Mo_condition_65 (Nat.le_of_ble_eq_true rfl) rfl ?_
            refine aw_aload_n d_Mo_condition_67 rfl rfl ?_
            refine aw_aload_n d_Mo_condition_68 rfl rfl ?_
            refine aw_getI fd_Mo_made lk_Mo_93 (by omega) rfl d_Mo_condition_69 ?_
            refine aw_tv (v' := (c : Int)) hc ?_
            refine aw_bipush (z := 8) d_Mo_condition_72 (in_c rfl) rfl ?_
            refine aw_icmp_ne (tgt := 81) d_Mo_condition_74 rfl (fun h74 => ?_) (fun h74 => ?_)
            · refine aw_iload d_Mo_condition_81 rfl ?_
              refine aw_if_ne (tgt := 90) d_Mo_condition_83 rfl (fun h83 => absurd h83 (by omega)) (fun h83 => ?_)
              refine aw_iconst d_Mo_condition_86 (in_c rfl) ?_
              refine aw_goto (tgt := 100) d_Mo_condition_87 rfl ?_
              refine aw_putI fd_Mo_fault lk_Mo_86 (by omega) rfl d_Mo_condition_100 (Or.inl rfl) ?_
              refine aw_aload_n d_Mo_condition_103 rfl rfl ?_
              refine aw_getI fd_Mo_fault lk_Mo_86 (by omega) rfl d_Mo_condition_104 ?_
              refine aw_tv (v' := 2) rfl ?_
              refine aw_if_le (tgt := 112) d_Mo_condition_107 rfl (fun h107 => absurd h107 (by omega)) (fun h107 => ?_)
              refine aw_iconst d_Mo_condition_110 (in_c rfl) ?_
              exact aw_iret d_Mo_condition_111 rfl ⟨rfl, Or.inr (Or.inl ⟨by omega, by omega, rfl, rfl⟩)⟩
            · refine aw_iconst d_Mo_condition_77 (in_c rfl) ?_
              refine aw_goto (tgt := 100) d_Mo_condition_78 rfl ?_
              refine aw_putI fd_Mo_fault lk_Mo_86 (by omega) rfl d_Mo_condition_100 (Or.inl rfl) ?_
              refine aw_aload_n d_Mo_condition_103 rfl rfl ?_
              refine aw_getI fd_Mo_fault lk_Mo_86 (by omega) rfl d_Mo_condition_104 ?_
              refine aw_tv (v' := 1) rfl ?_
              refine aw_if_le (tgt := 112) d_Mo_condition_107 rfl (fun h107 => absurd h107 (by omega)) (fun h107 => ?_)
              refine aw_iconst d_Mo_condition_110 (in_c rfl) ?_
              exact aw_iret d_Mo_condition_111 rfl ⟨rfl, Or.inl ⟨by omega, rfl, rfl⟩⟩
          · refine aw_iload d_Mo_condition_41 rfl ?_
            refine aw_bipush (z := (-50)) d_Mo_condition_43 (in_c rfl) rfl ?_
            refine aw_icmp_lt (tgt := 64) d_Mo_condition_45 rfl (fun h45 => ?_) (fun h45 => ?_)
            · refine aw_iconst d_Mo_condition_64 (in_c rfl) ?_
              refine aw_istore (lst' := [_, _, _, _, _, _, _]) d_Mo_condition_65 (Nat.le_of_ble_eq_true rfl) rfl ?_
              refine aw_aload_n d_Mo_condition_67 rfl rfl ?_
              refine aw_aload_n d_Mo_condition_68 rfl rfl ?_
              refine aw_getI fd_Mo_made lk_Mo_93 (by omega) rfl d_Mo_condition_69 ?_
              refine aw_tv (v' := (c : Int)) hc ?_
              refine aw_bipush (z := 8) d_Mo_condition_72 (in_c rfl) rfl ?_
              refine aw_icmp_ne (tgt := 81) d_Mo_condition_74 rfl (fun h74 => ?_) (fun h74 => ?_)
              · refine aw_iload d_Mo_condition_81 rfl ?_
                refine aw_if_ne (tgt := 90) d_Mo_condition_83 rfl (fun h83 => absurd h83 (by omega)) (fun h83 => ?_)
                refine aw_iconst d_Mo_condition_86 (in_c rfl) ?_
                refine aw_goto (tgt := 100) d_Mo_condition_87 rfl ?_
                refine aw_putI fd_Mo_fault lk_Mo_86 (by omega) rfl d_Mo_condition_100 (Or.inl rfl) ?_
                refine aw_aload_n d_Mo_condition_103 rfl rfl ?_
                refine aw_getI fd_Mo_fault lk_Mo_86 (by omega) rfl d_Mo_condition_104 ?_
                refine aw_tv (v' := 2) rfl ?_
                refine aw_if_le (tgt := 112) d_Mo_condition_107 rfl (fun h107 => absurd h107 (by omega)) (fun h107 => ?_)
                refine aw_iconst d_Mo_condition_110 (in_c rfl) ?_
                exact aw_iret d_Mo_condition_111 rfl ⟨rfl, Or.inr (Or.inl ⟨by omega, by omega, rfl, rfl⟩)⟩
              · refine aw_iconst d_Mo_condition_77 (in_c rfl) ?_
                refine aw_goto (tgt := 100) d_Mo_condition_78 rfl ?_
                refine aw_putI fd_Mo_fault lk_Mo_86 (by omega) rfl d_Mo_condition_100 (Or.inl rfl) ?_
                refine aw_aload_n d_Mo_condition_103 rfl rfl ?_
                refine aw_getI fd_Mo_fault lk_Mo_86 (by omega) rfl d_Mo_condition_104 ?_
                refine aw_tv (v' := 1) rfl ?_
                refine aw_if_le (tgt := 112) d_Mo_condition_107 rfl (fun h107 => absurd h107 (by omega)) (fun h107 => ?_)
                refine aw_iconst d_Mo_condition_110 (in_c rfl) ?_
                exact aw_iret d_Mo_condition_111 rfl ⟨rfl, Or.inl ⟨by omega, rfl, rfl⟩⟩
            · refine aw_iload d_Mo_condition_48 rfl ?_
              refine aw_bipush (z := 50) d_Mo_condition_50 (in_c rfl) rfl ?_
              refine aw_icmp_gt (tgt := 64) d_Mo_condition_52 rfl (fun h52 => ?_) (fun h52 => ?_)
              · refine aw_iconst d_Mo_condition_64 (in_c rfl) ?_
                refine aw_istore (lst' := [_, _, _, _, _, _, _]) d_Mo_condition_65 (Nat.le_of_ble_eq_true rfl) rfl ?_
                refine aw_aload_n d_Mo_condition_67 rfl rfl ?_
                refine aw_aload_n d_Mo_condition_68 rfl rfl ?_
                refine aw_getI fd_Mo_made lk_Mo_93 (by omega) rfl d_Mo_condition_69 ?_
                refine aw_tv (v' := (c : Int)) hc ?_
                refine aw_bipush (z := 8) d_Mo_condition_72 (in_c rfl) rfl ?_
                refine aw_icmp_ne (tgt := 81) d_Mo_condition_74 rfl (fun h74 => ?_) (fun h74 => ?_)
                · refine aw_iload d_Mo_condition_81 rfl ?_
                  refine aw_if_ne (tgt := 90) d_Mo_condition_83 rfl (fun h83 => absurd h83 (by omega)) (fun h83 => ?_)
                  refine aw_iconst d_Mo_condition_86 (in_c rfl) ?_
                  refine aw_goto (tgt := 100) d_Mo_condition_87 rfl ?_
                  refine aw_putI fd_Mo_fault lk_Mo_86 (by omega) rfl d_Mo_condition_100 (Or.inl rfl) ?_
                  refine aw_aload_n d_Mo_condition_103 rfl rfl ?_
                  refine aw_getI fd_Mo_fault lk_Mo_86 (by omega) rfl d_Mo_condition_104 ?_
                  refine aw_tv (v' := 2) rfl ?_
                  refine aw_if_le (tgt := 112) d_Mo_condition_107 rfl (fun h107 => absurd h107 (by omega)) (fun h107 => ?_)
                  refine aw_iconst d_Mo_condition_110 (in_c rfl) ?_
                  exact aw_iret d_Mo_condition_111 rfl ⟨rfl, Or.inr (Or.inl ⟨by omega, by omega, rfl, rfl⟩)⟩
                · refine aw_iconst d_Mo_condition_77 (in_c rfl) ?_
                  refine aw_goto (tgt := 100) d_Mo_condition_78 rfl ?_
                  refine aw_putI fd_Mo_fault lk_Mo_86 (by omega) rfl d_Mo_condition_100 (Or.inl rfl) ?_
                  refine aw_aload_n d_Mo_condition_103 rfl rfl ?_
                  refine aw_getI fd_Mo_fault lk_Mo_86 (by omega) rfl d_Mo_condition_104 ?_
                  refine aw_tv (v' := 1) rfl ?_
                  refine aw_if_le (tgt := 112) d_Mo_condition_107 rfl (fun h107 => absurd h107 (by omega)) (fun h107 => ?_)
                  refine aw_iconst d_Mo_condition_110 (in_c rfl) ?_
                  exact aw_iret d_Mo_condition_111 rfl ⟨rfl, Or.inl ⟨by omega, rfl, rfl⟩⟩
              · refine aw_iload_n d_Mo_condition_55 rfl rfl ?_
                refine aw_iload_n d_Mo_condition_56 rfl rfl ?_
                refine aw_icmp_eq (tgt := 64) d_Mo_condition_57 rfl (fun h57 => ?_) (fun h57 => ?_)
                · refine aw_iconst d_Mo_condition_64 (in_c rfl) ?_
                  refine aw_istore (lst' := [_, _, _, _, _, _, _]) d_Mo_condition_65 (Nat.le_of_ble_eq_true rfl) rfl ?_
                  refine aw_aload_n d_Mo_condition_67 rfl rfl ?_
                  refine aw_aload_n d_Mo_condition_68 rfl rfl ?_
                  refine aw_getI fd_Mo_made lk_Mo_93 (by omega) rfl d_Mo_condition_69 ?_
                  refine aw_tv (v' := (c : Int)) hc ?_
                  refine aw_bipush (z := 8) d_Mo_condition_72 (in_c rfl) rfl ?_
                  refine aw_icmp_ne (tgt := 81) d_Mo_condition_74 rfl (fun h74 => ?_) (fun h74 => ?_)
                  · refine aw_iload d_Mo_condition_81 rfl ?_
                    refine aw_if_ne (tgt := 90) d_Mo_condition_83 rfl (fun h83 => absurd h83 (by omega)) (fun h83 => ?_)
                    refine aw_iconst d_Mo_condition_86 (in_c rfl) ?_
                    refine aw_goto (tgt := 100) d_Mo_condition_87 rfl ?_
                    refine aw_putI fd_Mo_fault lk_Mo_86 (by omega) rfl d_Mo_condition_100 (Or.inl rfl) ?_
                    refine aw_aload_n d_Mo_condition_103 rfl rfl ?_
                    refine aw_getI fd_Mo_fault lk_Mo_86 (by omega) rfl d_Mo_condition_104 ?_
                    refine aw_tv (v' := 2) rfl ?_
                    refine aw_if_le (tgt := 112) d_Mo_condition_107 rfl (fun h107 => absurd h107 (by omega)) (fun h107 => ?_)
                    refine aw_iconst d_Mo_condition_110 (in_c rfl) ?_
                    exact aw_iret d_Mo_condition_111 rfl ⟨rfl, Or.inr (Or.inl ⟨by omega, by omega, rfl, rfl⟩)⟩
                  · refine aw_iconst d_Mo_condition_77 (in_c rfl) ?_
                    refine aw_goto (tgt := 100) d_Mo_condition_78 rfl ?_
                    refine aw_putI fd_Mo_fault lk_Mo_86 (by omega) rfl d_Mo_condition_100 (Or.inl rfl) ?_
                    refine aw_aload_n d_Mo_condition_103 rfl rfl ?_
                    refine aw_getI fd_Mo_fault lk_Mo_86 (by omega) rfl d_Mo_condition_104 ?_
                    refine aw_tv (v' := 1) rfl ?_
                    refine aw_if_le (tgt := 112) d_Mo_condition_107 rfl (fun h107 => absurd h107 (by omega)) (fun h107 => ?_)
                    refine aw_iconst d_Mo_condition_110 (in_c rfl) ?_
                    exact aw_iret d_Mo_condition_111 rfl ⟨rfl, Or.inl ⟨by omega, rfl, rfl⟩⟩
                · refine aw_iconst d_Mo_condition_60 (in_c rfl) ?_
                  refine aw_goto (tgt := 65) d_Mo_condition_61 rfl ?_
                  refine aw_istore (lst' := [_, _, _, _, _, _, _]) d_Mo_condition_65 (Nat.le_of_ble_eq_true rfl) rfl ?_
                  refine aw_aload_n d_Mo_condition_67 rfl rfl ?_
                  refine aw_aload_n d_Mo_condition_68 rfl rfl ?_
                  refine aw_getI fd_Mo_made lk_Mo_93 (by omega) rfl d_Mo_condition_69 ?_
                  refine aw_tv (v' := (c : Int)) hc ?_
                  refine aw_bipush (z := 8) d_Mo_condition_72 (in_c rfl) rfl ?_
                  refine aw_icmp_ne (tgt := 81) d_Mo_condition_74 rfl (fun h74 => ?_) (fun h74 => ?_)
                  · refine aw_iload d_Mo_condition_81 rfl ?_
                    refine aw_if_ne (tgt := 90) d_Mo_condition_83 rfl (fun h83 => absurd h83 (by omega)) (fun h83 => ?_)
                    refine aw_iconst d_Mo_condition_86 (in_c rfl) ?_
                    refine aw_goto (tgt := 100) d_Mo_condition_87 rfl ?_
                    refine aw_putI fd_Mo_fault lk_Mo_86 (by omega) rfl d_Mo_condition_100 (Or.inl rfl) ?_
                    refine aw_aload_n d_Mo_condition_103 rfl rfl ?_
                    refine aw_getI fd_Mo_fault lk_Mo_86 (by omega) rfl d_Mo_condition_104 ?_
                    refine aw_tv (v' := 2) rfl ?_
                    refine aw_if_le (tgt := 112) d_Mo_condition_107 rfl (fun h107 => absurd h107 (by omega)) (fun h107 => ?_)
                    refine aw_iconst d_Mo_condition_110 (in_c rfl) ?_
                    exact aw_iret d_Mo_condition_111 rfl ⟨rfl, Or.inr (Or.inl ⟨by omega, by omega, rfl, rfl⟩)⟩
                  · refine aw_iconst d_Mo_condition_77 (in_c rfl) ?_
                    refine aw_goto (tgt := 100) d_Mo_condition_78 rfl ?_
                    refine aw_putI fd_Mo_fault lk_Mo_86 (by omega) rfl d_Mo_condition_100 (Or.inl rfl) ?_
                    refine aw_aload_n d_Mo_condition_103 rfl rfl ?_
                    refine aw_getI fd_Mo_fault lk_Mo_86 (by omega) rfl d_Mo_condition_104 ?_
                    refine aw_tv (v' := 1) rfl ?_
                    refine aw_if_le (tgt := 112) d_Mo_condition_107 rfl (fun h107 => absurd h107 (by omega)) (fun h107 => ?_)
                    refine aw_iconst d_Mo_condition_110 (in_c rfl) ?_
                    exact aw_iret d_Mo_condition_111 rfl ⟨rfl, Or.inl ⟨by omega, rfl, rfl⟩⟩
      · refine aw_iload_n d_Mo_condition_17 rfl rfl ?_
        refine aw_aload_n d_Mo_condition_18 rfl rfl ?_
        refine aw_getI fd_Mo_inputs lk_Mo_90 (by omega) rfl d_Mo_condition_19 ?_
        refine aw_icmp_ge (tgt := 29) d_Mo_condition_22 rfl (fun h22 => ?_) (fun h22 => ?_)
        · refine aw_iconst d_Mo_condition_29 (in_c rfl) ?_
          refine aw_istore (lst' := [_, _, _, _, _, _, _]) d_Mo_condition_30 (Nat.le_of_ble_eq_true rfl) rfl ?_
          refine aw_iload_n d_Mo_condition_32 rfl rfl ?_
          refine aw_if_lt (tgt := 64) d_Mo_condition_33 rfl (fun h33 => ?_) (fun h33 => ?_)
          · refine aw_iconst d_Mo_condition_64 (in_c rfl) ?_
            refine aw_istore (lst' := [_, _, _, _, _, _, _]) d_Mo_condition_65 (Nat.le_of_ble_eq_true rfl) rfl ?_
            refine aw_aload_n d_Mo_condition_67 rfl rfl ?_
            refine aw_aload_n d_Mo_condition_68 rfl rfl ?_
            refine aw_getI fd_Mo_made lk_Mo_93 (by omega) rfl d_Mo_condition_69 ?_
            refine aw_tv (v' := (c : Int)) hc ?_
            refine aw_bipush (z := 8) d_Mo_condition_72 (in_c rfl) rfl ?_
            refine aw_icmp_ne (tgt := 81) d_Mo_condition_74 rfl (fun h74 => ?_) (fun h74 => ?_)
            · refine aw_iload d_Mo_condition_81 rfl ?_
              refine aw_if_ne (tgt := 90) d_Mo_condition_83 rfl (fun h83 => absurd h83 (by omega)) (fun h83 => ?_)
              refine aw_iconst d_Mo_condition_86 (in_c rfl) ?_
              refine aw_goto (tgt := 100) d_Mo_condition_87 rfl ?_
              refine aw_putI fd_Mo_fault lk_Mo_86 (by omega) rfl d_Mo_condition_100 (Or.inl rfl) ?_
              refine aw_aload_n d_Mo_condition_103 rfl rfl ?_
              refine aw_getI fd_Mo_fault lk_Mo_86 (by omega) rfl d_Mo_condition_104 ?_
              refine aw_tv (v' := 2) rfl ?_
              refine aw_if_le (tgt := 112) d_Mo_condition_107 rfl (fun h107 => absurd h107 (by omega)) (fun h107 => ?_)
              refine aw_iconst d_Mo_condition_110 (in_c rfl) ?_
              exact aw_iret d_Mo_condition_111 rfl ⟨rfl, Or.inr (Or.inl ⟨by omega, by omega, rfl, rfl⟩)⟩
            · refine aw_iconst d_Mo_condition_77 (in_c rfl) ?_
              refine aw_goto (tgt := 100) d_Mo_condition_78 rfl ?_
              refine aw_putI fd_Mo_fault lk_Mo_86 (by omega) rfl d_Mo_condition_100 (Or.inl rfl) ?_
              refine aw_aload_n d_Mo_condition_103 rfl rfl ?_
              refine aw_getI fd_Mo_fault lk_Mo_86 (by omega) rfl d_Mo_condition_104 ?_
              refine aw_tv (v' := 1) rfl ?_
              refine aw_if_le (tgt := 112) d_Mo_condition_107 rfl (fun h107 => absurd h107 (by omega)) (fun h107 => ?_)
              refine aw_iconst d_Mo_condition_110 (in_c rfl) ?_
              exact aw_iret d_Mo_condition_111 rfl ⟨rfl, Or.inl ⟨by omega, rfl, rfl⟩⟩
          · refine aw_iload_n d_Mo_condition_36 rfl rfl ?_
            refine aw_iconst d_Mo_condition_37 (in_c rfl) ?_
            refine aw_icmp_gt (tgt := 64) d_Mo_condition_38 rfl (fun h38 => ?_) (fun h38 => ?_)
            · refine aw_iconst d_Mo_condition_64 (in_c rfl) ?_
              refine aw_istore (lst' := [_, _, _, _, _, _, _]) d_Mo_condition_65 (Nat.le_of_ble_eq_true rfl) rfl ?_
              refine aw_aload_n d_Mo_condition_67 rfl rfl ?_
              refine aw_aload_n d_Mo_condition_68 rfl rfl ?_
              refine aw_getI fd_Mo_made lk_Mo_93 (by omega) rfl d_Mo_condition_69 ?_
              refine aw_tv (v' := (c : Int)) hc ?_
              refine aw_bipush (z := 8) d_Mo_condition_72 (in_c rfl) rfl ?_
              refine aw_icmp_ne (tgt := 81) d_Mo_condition_74 rfl (fun h74 => ?_) (fun h74 => ?_)
              · refine aw_iload d_Mo_condition_81 rfl ?_
                refine aw_if_ne (tgt := 90) d_Mo_condition_83 rfl (fun h83 => absurd h83 (by omega)) (fun h83 => ?_)
                refine aw_iconst d_Mo_condition_86 (in_c rfl) ?_
                refine aw_goto (tgt := 100) d_Mo_condition_87 rfl ?_
                refine aw_putI fd_Mo_fault lk_Mo_86 (by omega) rfl d_Mo_condition_100 (Or.inl rfl) ?_
                refine aw_aload_n d_Mo_condition_103 rfl rfl ?_
                refine aw_getI fd_Mo_fault lk_Mo_86 (by omega) rfl d_Mo_condition_104 ?_
                refine aw_tv (v' := 2) rfl ?_
                refine aw_if_le (tgt := 112) d_Mo_condition_107 rfl (fun h107 => absurd h107 (by omega)) (fun h107 => ?_)
                refine aw_iconst d_Mo_condition_110 (in_c rfl) ?_
                exact aw_iret d_Mo_condition_111 rfl ⟨rfl, Or.inr (Or.inl ⟨by omega, by omega, rfl, rfl⟩)⟩
              · refine aw_iconst d_Mo_condition_77 (in_c rfl) ?_
                refine aw_goto (tgt := 100) d_Mo_condition_78 rfl ?_
                refine aw_putI fd_Mo_fault lk_Mo_86 (by omega) rfl d_Mo_condition_100 (Or.inl rfl) ?_
                refine aw_aload_n d_Mo_condition_103 rfl rfl ?_
                refine aw_getI fd_Mo_fault lk_Mo_86 (by omega) rfl d_Mo_condition_104 ?_
                refine aw_tv (v' := 1) rfl ?_
                refine aw_if_le (tgt := 112) d_Mo_condition_107 rfl (fun h107 => absurd h107 (by omega)) (fun h107 => ?_)
                refine aw_iconst d_Mo_condition_110 (in_c rfl) ?_
                exact aw_iret d_Mo_condition_111 rfl ⟨rfl, Or.inl ⟨by omega, rfl, rfl⟩⟩
            · refine aw_iload d_Mo_condition_41 rfl ?_
              refine aw_bipush (z := (-50)) d_Mo_condition_43 (in_c rfl) rfl ?_
              refine aw_icmp_lt (tgt := 64) d_Mo_condition_45 rfl (fun h45 => ?_) (fun h45 => ?_)
              · refine aw_iconst d_Mo_condition_64 (in_c rfl) ?_
                refine aw_istore (lst' := [_, _, _, _, _, _, _]) d_Mo_condition_65 (Nat.le_of_ble_eq_true rfl) rfl ?_
                refine aw_aload_n d_Mo_condition_67 rfl rfl ?_
                refine aw_aload_n d_Mo_condition_68 rfl rfl ?_
                refine aw_getI fd_Mo_made lk_Mo_93 (by omega) rfl d_Mo_condition_69 ?_
                refine aw_tv (v' := (c : Int)) hc ?_
                refine aw_bipush (z := 8) d_Mo_condition_72 (in_c rfl) rfl ?_
                refine aw_icmp_ne (tgt := 81) d_Mo_condition_74 rfl (fun h74 => ?_) (fun h74 => ?_)
                · refine aw_iload d_Mo_condition_81 rfl ?_
                  refine aw_if_ne (tgt := 90) d_Mo_condition_83 rfl (fun h83 => absurd h83 (by omega)) (fun h83 => ?_)
                  refine aw_iconst d_Mo_condition_86 (in_c rfl) ?_
                  refine aw_goto (tgt := 100) d_Mo_condition_87 rfl ?_
                  refine aw_putI fd_Mo_fault lk_Mo_86 (by omega) rfl d_Mo_condition_100 (Or.inl rfl) ?_
                  refine aw_aload_n d_Mo_condition_103 rfl rfl ?_
                  refine aw_getI fd_Mo_fault lk_Mo_86 (by omega) rfl d_Mo_condition_104 ?_
                  refine aw_tv (v' := 2) rfl ?_
                  refine aw_if_le (tgt := 112) d_Mo_condition_107 rfl (fun h107 => absurd h107 (by omega)) (fun h107 => ?_)
                  refine aw_iconst d_Mo_condition_110 (in_c rfl) ?_
                  exact aw_iret d_Mo_condition_111 rfl ⟨rfl, Or.inr (Or.inl ⟨by omega, by omega, rfl, rfl⟩)⟩
                · refine aw_iconst d_Mo_condition_77 (in_c rfl) ?_
                  refine aw_goto (tgt := 100) d_Mo_condition_78 rfl ?_
                  refine aw_putI fd_Mo_fault lk_Mo_86 (by omega) rfl d_Mo_condition_100 (Or.inl rfl) ?_
                  refine aw_aload_n d_Mo_condition_103 rfl rfl ?_
                  refine aw_getI fd_Mo_fault lk_Mo_86 (by omega) rfl d_Mo_condition_104 ?_
                  refine aw_tv (v' := 1) rfl ?_
                  refine aw_if_le (tgt := 112) d_Mo_condition_107 rfl (fun h107 => absurd h107 (by omega)) (fun h107 => ?_)
                  refine aw_iconst d_Mo_condition_110 (in_c rfl) ?_
                  exact aw_iret d_Mo_condition_111 rfl ⟨rfl, Or.inl ⟨by omega, rfl, rfl⟩⟩
              · refine aw_iload d_Mo_condition_48 rfl ?_
                refine aw_bipush (z := 50) d_Mo_condition_50 (in_c rfl) rfl ?_
                refine aw_icmp_gt (tgt := 64) d_Mo_condition_52 rfl (fun h52 => ?_) (fun h52 => ?_)
                · refine aw_iconst d_Mo_condition_64 (in_c rfl) ?_
                  refine aw_istore (lst' := [_, _, _, _, _, _, _]) d_Mo_condition_65 (Nat.le_of_ble_eq_true rfl) rfl ?_
                  refine aw_aload_n d_Mo_condition_67 rfl rfl ?_
                  refine aw_aload_n d_Mo_condition_68 rfl rfl ?_
                  refine aw_getI fd_Mo_made lk_Mo_93 (by omega) rfl d_Mo_condition_69 ?_
                  refine aw_tv (v' := (c : Int)) hc ?_
                  refine aw_bipush (z := 8) d_Mo_condition_72 (in_c rfl) rfl ?_
                  refine aw_icmp_ne (tgt := 81) d_Mo_condition_74 rfl (fun h74 => ?_) (fun h74 => ?_)
                  · refine aw_iload d_Mo_condition_81 rfl ?_
                    refine aw_if_ne (tgt := 90) d_Mo_condition_83 rfl (fun h83 => absurd h83 (by omega)) (fun h83 => ?_)
                    refine aw_iconst d_Mo_condition_86 (in_c rfl) ?_
                    refine aw_goto (tgt := 100) d_Mo_condition_87 rfl ?_
                    refine aw_putI fd_Mo_fault lk_Mo_86 (by omega) rfl d_Mo_condition_100 (Or.inl rfl) ?_
                    refine aw_aload_n d_Mo_condition_103 rfl rfl ?_
                    refine aw_getI fd_Mo_fault lk_Mo_86 (by omega) rfl d_Mo_condition_104 ?_
                    refine aw_tv (v' := 2) rfl ?_
                    refine aw_if_le (tgt := 112) d_Mo_condition_107 rfl (fun h107 => absurd h107 (by omega)) (fun h107 => ?_)
                    refine aw_iconst d_Mo_condition_110 (in_c rfl) ?_
                    exact aw_iret d_Mo_condition_111 rfl ⟨rfl, Or.inr (Or.inl ⟨by omega, by omega, rfl, rfl⟩)⟩
                  · refine aw_iconst d_Mo_condition_77 (in_c rfl) ?_
                    refine aw_goto (tgt := 100) d_Mo_condition_78 rfl ?_
                    refine aw_putI fd_Mo_fault lk_Mo_86 (by omega) rfl d_Mo_condition_100 (Or.inl rfl) ?_
                    refine aw_aload_n d_Mo_condition_103 rfl rfl ?_
                    refine aw_getI fd_Mo_fault lk_Mo_86 (by omega) rfl d_Mo_condition_104 ?_
                    refine aw_tv (v' := 1) rfl ?_
                    refine aw_if_le (tgt := 112) d_Mo_condition_107 rfl (fun h107 => absurd h107 (by omega)) (fun h107 => ?_)
                    refine aw_iconst d_Mo_condition_110 (in_c rfl) ?_
                    exact aw_iret d_Mo_condition_111 rfl ⟨rfl, Or.inl ⟨by omega, rfl, rfl⟩⟩
                · refine aw_iload_n d_Mo_condition_55 rfl rfl ?_
                  refine aw_iload_n d_Mo_condition_56 rfl rfl ?_
                  refine aw_icmp_eq (tgt := 64) d_Mo_condition_57 rfl (fun h57 => ?_) (fun h57 => ?_)
                  · refine aw_iconst d_Mo_condition_64 (in_c rfl) ?_
                    refine aw_istore (lst' := [_, _, _, _, _, _, _]) d_Mo_condition_65 (Nat.le_of_ble_eq_true rfl) rfl ?_
                    refine aw_aload_n d_Mo_condition_67 rfl rfl ?_
                    refine aw_aload_n d_Mo_condition_68 rfl rfl ?_
                    refine aw_getI fd_Mo_made lk_Mo_93 (by omega) rfl d_Mo_condition_69 ?_
                    refine aw_tv (v' := (c : Int)) hc ?_
                    refine aw_bipush (z := 8) d_Mo_condition_72 (in_c rfl) rfl ?_
                    refine aw_icmp_ne (tgt := 81) d_Mo_condition_74 rfl (fun h74 => ?_) (fun h74 => ?_)
                    · refine aw_iload d_Mo_condition_81 rfl ?_
                      refine aw_if_ne (tgt := 90) d_Mo_condition_83 rfl (fun h83 => absurd h83 (by omega)) (fun h83 => ?_)
                      refine aw_iconst d_Mo_condition_86 (in_c rfl) ?_
                      refine aw_goto (tgt := 100) d_Mo_condition_87 rfl ?_
                      refine aw_putI fd_Mo_fault lk_Mo_86 (by omega) rfl d_Mo_condition_100 (Or.inl rfl) ?_
                      refine aw_aload_n d_Mo_condition_103 rfl rfl ?_
                      refine aw_getI fd_Mo_fault lk_Mo_86 (by omega) rfl d_Mo_condition_104 ?_
                      refine aw_tv (v' := 2) rfl ?_
                      refine aw_if_le (tgt := 112) d_Mo_condition_107 rfl (fun h107 => absurd h107 (by omega)) (fun h107 => ?_)
                      refine aw_iconst d_Mo_condition_110 (in_c rfl) ?_
                      exact aw_iret d_Mo_condition_111 rfl ⟨rfl, Or.inr (Or.inl ⟨by omega, by omega, rfl, rfl⟩)⟩
                    · refine aw_iconst d_Mo_condition_77 (in_c rfl) ?_
                      refine aw_goto (tgt := 100) d_Mo_condition_78 rfl ?_
                      refine aw_putI fd_Mo_fault lk_Mo_86 (by omega) rfl d_Mo_condition_100 (Or.inl rfl) ?_
                      refine aw_aload_n d_Mo_condition_103 rfl rfl ?_
                      refine aw_getI fd_Mo_fault lk_Mo_86 (by omega) rfl d_Mo_condition_104 ?_
                      refine aw_tv (v' := 1) rfl ?_
                      refine aw_if_le (tgt := 112) d_Mo_condition_107 rfl (fun h107 => absurd h107 (by omega)) (fun h107 => ?_)
                      refine aw_iconst d_Mo_condition_110 (in_c rfl) ?_
                      exact aw_iret d_Mo_condition_111 rfl ⟨rfl, Or.inl ⟨by omega, rfl, rfl⟩⟩
                  · refine aw_iconst d_Mo_condition_60 (in_c rfl) ?_
                    refine aw_goto (tgt := 65) d_Mo_condition_61 rfl ?_
                    refine aw_istore (lst' := [_, _, _, _, _, _, _]) d_Mo_condition_65 (Nat.le_of_ble_eq_true rfl) rfl ?_
                    refine aw_aload_n d_Mo_condition_67 rfl rfl ?_
                    refine aw_aload_n d_Mo_condition_68 rfl rfl ?_
                    refine aw_getI fd_Mo_made lk_Mo_93 (by omega) rfl d_Mo_condition_69 ?_
                    refine aw_tv (v' := (c : Int)) hc ?_
                    refine aw_bipush (z := 8) d_Mo_condition_72 (in_c rfl) rfl ?_
                    refine aw_icmp_ne (tgt := 81) d_Mo_condition_74 rfl (fun h74 => ?_) (fun h74 => ?_)
                    · refine aw_iload d_Mo_condition_81 rfl ?_
                      refine aw_if_ne (tgt := 90) d_Mo_condition_83 rfl (fun h83 => absurd h83 (by omega)) (fun h83 => ?_)
                      refine aw_iconst d_Mo_condition_86 (in_c rfl) ?_
                      refine aw_goto (tgt := 100) d_Mo_condition_87 rfl ?_
                      refine aw_putI fd_Mo_fault lk_Mo_86 (by omega) rfl d_Mo_condition_100 (Or.inl rfl) ?_
                      refine aw_aload_n d_Mo_condition_103 rfl rfl ?_
                      refine aw_getI fd_Mo_fault lk_Mo_86 (by omega) rfl d_Mo_condition_104 ?_
                      refine aw_tv (v' := 2) rfl ?_
                      refine aw_if_le (tgt := 112) d_Mo_condition_107 rfl (fun h107 => absurd h107 (by omega)) (fun h107 => ?_)
                      refine aw_iconst d_Mo_condition_110 (in_c rfl) ?_
                      exact aw_iret d_Mo_condition_111 rfl ⟨rfl, Or.inr (Or.inl ⟨by omega, by omega, rfl, rfl⟩)⟩
                    · refine aw_iconst d_Mo_condition_77 (in_c rfl) ?_
                      refine aw_goto (tgt := 100) d_Mo_condition_78 rfl ?_
                      refine aw_putI fd_Mo_fault lk_Mo_86 (by omega) rfl d_Mo_condition_100 (Or.inl rfl) ?_
                      refine aw_aload_n d_Mo_condition_103 rfl rfl ?_
                      refine aw_getI fd_Mo_fault lk_Mo_86 (by omega) rfl d_Mo_condition_104 ?_
                      refine aw_tv (v' := 1) rfl ?_
                      refine aw_if_le (tgt := 112) d_Mo_condition_107 rfl (fun h107 => absurd h107 (by omega)) (fun h107 => ?_)
                      refine aw_iconst d_Mo_condition_110 (in_c rfl) ?_
                      exact aw_iret d_Mo_condition_111 rfl ⟨rfl, Or.inl ⟨by omega, rfl, rfl⟩⟩
        · refine aw_iconst d_Mo_condition_25 (in_c rfl) ?_
          refine aw_goto (tgt := 30) d_Mo_condition_26 rfl ?_
          refine aw_istore (lst' := [_, _, _, _, _, _, _]) d_Mo_condition_30 (Nat.le_of_ble_eq_true rfl) rfl ?_
          refine aw_iload_n d_Mo_condition_32 rfl rfl ?_
          refine aw_if_lt (tgt := 64) d_Mo_condition_33 rfl (fun h33 => ?_) (fun h33 => ?_)
          · refine aw_iconst d_Mo_condition_64 (in_c rfl) ?_
            refine aw_istore (lst' := [_, _, _, _, _, _, _]) d_Mo_condition_65 (Nat.le_of_ble_eq_true rfl) rfl ?_
            refine aw_aload_n d_Mo_condition_67 rfl rfl ?_
            refine aw_aload_n d_Mo_condition_68 rfl rfl ?_
            refine aw_getI fd_Mo_made lk_Mo_93 (by omega) rfl d_Mo_condition_69 ?_
            refine aw_tv (v' := (c : Int)) hc ?_
            refine aw_bipush (z := 8) d_Mo_condition_72 (in_c rfl) rfl ?_
            refine aw_icmp_ne (tgt := 81) d_Mo_condition_74 rfl (fun h74 => ?_) (fun h74 => ?_)
            · refine aw_iload d_Mo_condition_81 rfl ?_
              refine aw_if_ne (tgt := 90) d_Mo_condition_83 rfl (fun h83 => ?_) (fun h83 => absurd h83 (by omega))
              refine aw_iload d_Mo_condition_90 rfl ?_
              refine aw_if_ne (tgt := 99) d_Mo_condition_92 rfl (fun h92 => absurd h92 (by omega)) (fun h92 => ?_)
              refine aw_iconst d_Mo_condition_95 (in_c rfl) ?_
              refine aw_goto (tgt := 100) d_Mo_condition_96 rfl ?_
              refine aw_putI fd_Mo_fault lk_Mo_86 (by omega) rfl d_Mo_condition_100 (Or.inl rfl) ?_
              refine aw_aload_n d_Mo_condition_103 rfl rfl ?_
              refine aw_getI fd_Mo_fault lk_Mo_86 (by omega) rfl d_Mo_condition_104 ?_
              refine aw_tv (v' := 3) rfl ?_
              refine aw_if_le (tgt := 112) d_Mo_condition_107 rfl (fun h107 => absurd h107 (by omega)) (fun h107 => ?_)
              refine aw_iconst d_Mo_condition_110 (in_c rfl) ?_
              refine aw_pc (pc' := 111) rfl ?_
              exact aw_iret d_Mo_condition_111 rfl ⟨rfl, Or.inr (Or.inr (Or.inl ⟨by omega, by omega, by omega, rfl, rfl⟩))⟩
            · refine aw_iconst d_Mo_condition_77 (in_c rfl) ?_
              refine aw_goto (tgt := 100) d_Mo_condition_78 rfl ?_
              refine aw_putI fd_Mo_fault lk_Mo_86 (by omega) rfl d_Mo_condition_100 (Or.inl rfl) ?_
              refine aw_aload_n d_Mo_condition_103 rfl rfl ?_
              refine aw_getI fd_Mo_fault lk_Mo_86 (by omega) rfl d_Mo_condition_104 ?_
              refine aw_tv (v' := 1) rfl ?_
              refine aw_if_le (tgt := 112) d_Mo_condition_107 rfl (fun h107 => absurd h107 (by omega)) (fun h107 => ?_)
              refine aw_iconst d_Mo_condition_110 (in_c rfl) ?_
              exact aw_iret d_Mo_condition_111 rfl ⟨rfl, Or.inl ⟨by omega, rfl, rfl⟩⟩
          · refine aw_iload_n d_Mo_condition_36 rfl rfl ?_
            refine aw_iconst d_Mo_condition_37 (in_c rfl) ?_
            refine aw_icmp_gt (tgt := 64) d_Mo_condition_38 rfl (fun h38 => ?_) (fun h38 => ?_)
            · refine aw_iconst d_Mo_condition_64 (in_c rfl) ?_
              refine aw_istore (lst' := [_, _, _, _, _, _, _]) d_Mo_condition_65 (Nat.le_of_ble_eq_true rfl) rfl ?_
              refine aw_aload_n d_Mo_condition_67 rfl rfl ?_
              refine aw_aload_n d_Mo_condition_68 rfl rfl ?_
              refine aw_getI fd_Mo_made lk_Mo_93 (by omega) rfl d_Mo_condition_69 ?_
              refine aw_tv (v' := (c : Int)) hc ?_
              refine aw_bipush (z := 8) d_Mo_condition_72 (in_c rfl) rfl ?_
              refine aw_icmp_ne (tgt := 81) d_Mo_condition_74 rfl (fun h74 => ?_) (fun h74 => ?_)
              · refine aw_iload d_Mo_condition_81 rfl ?_
                refine aw_if_ne (tgt := 90) d_Mo_condition_83 rfl (fun h83 => ?_) (fun h83 => absurd h83 (by omega))
                refine aw_iload d_Mo_condition_90 rfl ?_
                refine aw_if_ne (tgt := 99) d_Mo_condition_92 rfl (fun h92 => absurd h92 (by omega)) (fun h92 => ?_)
                refine aw_iconst d_Mo_condition_95 (in_c rfl) ?_
                refine aw_goto (tgt := 100) d_Mo_condition_96 rfl ?_
                refine aw_putI fd_Mo_fault lk_Mo_86 (by omega) rfl d_Mo_condition_100 (Or.inl rfl) ?_
                refine aw_aload_n d_Mo_condition_103 rfl rfl ?_
                refine aw_getI fd_Mo_fault lk_Mo_86 (by omega) rfl d_Mo_condition_104 ?_
                refine aw_tv (v' := 3) rfl ?_
                refine aw_if_le (tgt := 112) d_Mo_condition_107 rfl (fun h107 => absurd h107 (by omega)) (fun h107 => ?_)
                refine aw_iconst d_Mo_condition_110 (in_c rfl) ?_
                refine aw_pc (pc' := 111) rfl ?_
                exact aw_iret d_Mo_condition_111 rfl ⟨rfl, Or.inr (Or.inr (Or.inl ⟨by omega, by omega, by omega, rfl, rfl⟩))⟩
              · refine aw_iconst d_Mo_condition_77 (in_c rfl) ?_
                refine aw_goto (tgt := 100) d_Mo_condition_78 rfl ?_
                refine aw_putI fd_Mo_fault lk_Mo_86 (by omega) rfl d_Mo_condition_100 (Or.inl rfl) ?_
                refine aw_aload_n d_Mo_condition_103 rfl rfl ?_
                refine aw_getI fd_Mo_fault lk_Mo_86 (by omega) rfl d_Mo_condition_104 ?_
                refine aw_tv (v' := 1) rfl ?_
                refine aw_if_le (tgt := 112) d_Mo_condition_107 rfl (fun h107 => absurd h107 (by omega)) (fun h107 => ?_)
                refine aw_iconst d_Mo_condition_110 (in_c rfl) ?_
                exact aw_iret d_Mo_condition_111 rfl ⟨rfl, Or.inl ⟨by omega, rfl, rfl⟩⟩
            · refine aw_iload d_Mo_condition_41 rfl ?_
              refine aw_bipush (z := (-50)) d_Mo_condition_43 (in_c rfl) rfl ?_
              refine aw_icmp_lt (tgt := 64) d_Mo_condition_45 rfl (fun h45 => ?_) (fun h45 => ?_)
              · refine aw_iconst d_Mo_condition_64 (in_c rfl) ?_
                refine aw_istore (lst' := [_, _, _, _, _, _, _]) d_Mo_condition_65 (Nat.le_of_ble_eq_true rfl) rfl ?_
                refine aw_aload_n d_Mo_condition_67 rfl rfl ?_
                refine aw_aload_n d_Mo_condition_68 rfl rfl ?_
                refine aw_getI fd_Mo_made lk_Mo_93 (by omega) rfl d_Mo_condition_69 ?_
                refine aw_tv (v' := (c : Int)) hc ?_
                refine aw_bipush (z := 8) d_Mo_condition_72 (in_c rfl) rfl ?_
                refine aw_icmp_ne (tgt := 81) d_Mo_condition_74 rfl (fun h74 => ?_) (fun h74 => ?_)
                · refine aw_iload d_Mo_condition_81 rfl ?_
                  refine aw_if_ne (tgt := 90) d_Mo_condition_83 rfl (fun h83 => ?_) (fun h83 => absurd h83 (by omega))
                  refine aw_iload d_Mo_condition_90 rfl ?_
                  refine aw_if_ne (tgt := 99) d_Mo_condition_92 rfl (fun h92 => absurd h92 (by omega)) (fun h92 => ?_)
                  refine aw_iconst d_Mo_condition_95 (in_c rfl) ?_
                  refine aw_goto (tgt := 100) d_Mo_condition_96 rfl ?_
                  refine aw_putI fd_Mo_fault lk_Mo_86 (by omega) rfl d_Mo_condition_100 (Or.inl rfl) ?_
                  refine aw_aload_n d_Mo_condition_103 rfl rfl ?_
                  refine aw_getI fd_Mo_fault lk_Mo_86 (by omega) rfl d_Mo_condition_104 ?_
                  refine aw_tv (v' := 3) rfl ?_
                  refine aw_if_le (tgt := 112) d_Mo_condition_107 rfl (fun h107 => absurd h107 (by omega)) (fun h107 => ?_)
                  refine aw_iconst d_Mo_condition_110 (in_c rfl) ?_
                  refine aw_pc (pc' := 111) rfl ?_
                  exact aw_iret d_Mo_condition_111 rfl ⟨rfl, Or.inr (Or.inr (Or.inl ⟨by omega, by omega, by omega, rfl, rfl⟩))⟩
                · refine aw_iconst d_Mo_condition_77 (in_c rfl) ?_
                  refine aw_goto (tgt := 100) d_Mo_condition_78 rfl ?_
                  refine aw_putI fd_Mo_fault lk_Mo_86 (by omega) rfl d_Mo_condition_100 (Or.inl rfl) ?_
                  refine aw_aload_n d_Mo_condition_103 rfl rfl ?_
                  refine aw_getI fd_Mo_fault lk_Mo_86 (by omega) rfl d_Mo_condition_104 ?_
                  refine aw_tv (v' := 1) rfl ?_
                  refine aw_if_le (tgt := 112) d_Mo_condition_107 rfl (fun h107 => absurd h107 (by omega)) (fun h107 => ?_)
                  refine aw_iconst d_Mo_condition_110 (in_c rfl) ?_
                  exact aw_iret d_Mo_condition_111 rfl ⟨rfl, Or.inl ⟨by omega, rfl, rfl⟩⟩
              · refine aw_iload d_Mo_condition_48 rfl ?_
                refine aw_bipush (z := 50) d_Mo_condition_50 (in_c rfl) rfl ?_
                refine aw_icmp_gt (tgt := 64) d_Mo_condition_52 rfl (fun h52 => ?_) (fun h52 => ?_)
                · refine aw_iconst d_Mo_condition_64 (in_c rfl) ?_
                  refine aw_istore (lst' := [_, _, _, _, _, _, _]) d_Mo_condition_65 (Nat.le_of_ble_eq_true rfl) rfl ?_
                  refine aw_aload_n d_Mo_condition_67 rfl rfl ?_
                  refine aw_aload_n d_Mo_condition_68 rfl rfl ?_
                  refine aw_getI fd_Mo_made lk_Mo_93 (by omega) rfl d_Mo_condition_69 ?_
                  refine aw_tv (v' := (c : Int)) hc ?_
                  refine aw_bipush (z := 8) d_Mo_condition_72 (in_c rfl) rfl ?_
                  refine aw_icmp_ne (tgt := 81) d_Mo_condition_74 rfl (fun h74 => ?_) (fun h74 => ?_)
                  · refine aw_iload d_Mo_condition_81 rfl ?_
                    refine aw_if_ne (tgt := 90) d_Mo_condition_83 rfl (fun h83 => ?_) (fun h83 => absurd h83 (by omega))
                    refine aw_iload d_Mo_condition_90 rfl ?_
                    refine aw_if_ne (tgt := 99) d_Mo_condition_92 rfl (fun h92 => absurd h92 (by omega)) (fun h92 => ?_)
                    refine aw_iconst d_Mo_condition_95 (in_c rfl) ?_
                    refine aw_goto (tgt := 100) d_Mo_condition_96 rfl ?_
                    refine aw_putI fd_Mo_fault lk_Mo_86 (by omega) rfl d_Mo_condition_100 (Or.inl rfl) ?_
                    refine aw_aload_n d_Mo_condition_103 rfl rfl ?_
                    refine aw_getI fd_Mo_fault lk_Mo_86 (by omega) rfl d_Mo_condition_104 ?_
                    refine aw_tv (v' := 3) rfl ?_
                    refine aw_if_le (tgt := 112) d_Mo_condition_107 rfl (fun h107 => absurd h107 (by omega)) (fun h107 => ?_)
                    refine aw_iconst d_Mo_condition_110 (in_c rfl) ?_
                    refine aw_pc (pc' := 111) rfl ?_
                    exact aw_iret d_Mo_condition_111 rfl ⟨rfl, Or.inr (Or.inr (Or.inl ⟨by omega, by omega, by omega, rfl, rfl⟩))⟩
                  · refine aw_iconst d_Mo_condition_77 (in_c rfl) ?_
                    refine aw_goto (tgt := 100) d_Mo_condition_78 rfl ?_
                    refine aw_putI fd_Mo_fault lk_Mo_86 (by omega) rfl d_Mo_condition_100 (Or.inl rfl) ?_
                    refine aw_aload_n d_Mo_condition_103 rfl rfl ?_
                    refine aw_getI fd_Mo_fault lk_Mo_86 (by omega) rfl d_Mo_condition_104 ?_
                    refine aw_tv (v' := 1) rfl ?_
                    refine aw_if_le (tgt := 112) d_Mo_condition_107 rfl (fun h107 => absurd h107 (by omega)) (fun h107 => ?_)
                    refine aw_iconst d_Mo_condition_110 (in_c rfl) ?_
                    exact aw_iret d_Mo_condition_111 rfl ⟨rfl, Or.inl ⟨by omega, rfl, rfl⟩⟩
                · refine aw_iload_n d_Mo_condition_55 rfl rfl ?_
                  refine aw_iload_n d_Mo_condition_56 rfl rfl ?_
                  refine aw_icmp_eq (tgt := 64) d_Mo_condition_57 rfl (fun h57 => ?_) (fun h57 => ?_)
                  · refine aw_iconst d_Mo_condition_64 (in_c rfl) ?_
                    refine aw_istore (lst' := [_, _, _, _, _, _, _]) d_Mo_condition_65 (Nat.le_of_ble_eq_true rfl) rfl ?_
                    refine aw_aload_n d_Mo_condition_67 rfl rfl ?_
                    refine aw_aload_n d_Mo_condition_68 rfl rfl ?_
                    refine aw_getI fd_Mo_made lk_Mo_93 (by omega) rfl d_Mo_condition_69 ?_
                    refine aw_tv (v' := (c : Int)) hc ?_
                    refine aw_bipush (z := 8) d_Mo_condition_72 (in_c rfl) rfl ?_
                    refine aw_icmp_ne (tgt := 81) d_Mo_condition_74 rfl (fun h74 => ?_) (fun h74 => ?_)
                    · refine aw_iload d_Mo_condition_81 rfl ?_
                      refine aw_if_ne (tgt := 90) d_Mo_condition_83 rfl (fun h83 => ?_) (fun h83 => absurd h83 (by omega))
                      refine aw_iload d_Mo_condition_90 rfl ?_
                      refine aw_if_ne (tgt := 99) d_Mo_condition_92 rfl (fun h92 => absurd h92 (by omega)) (fun h92 => ?_)
                      refine aw_iconst d_Mo_condition_95 (in_c rfl) ?_
                      refine aw_goto (tgt := 100) d_Mo_condition_96 rfl ?_
                      refine aw_putI fd_Mo_fault lk_Mo_86 (by omega) rfl d_Mo_condition_100 (Or.inl rfl) ?_
                      refine aw_aload_n d_Mo_condition_103 rfl rfl ?_
                      refine aw_getI fd_Mo_fault lk_Mo_86 (by omega) rfl d_Mo_condition_104 ?_
                      refine aw_tv (v' := 3) rfl ?_
                      refine aw_if_le (tgt := 112) d_Mo_condition_107 rfl (fun h107 => absurd h107 (by omega)) (fun h107 => ?_)
                      refine aw_iconst d_Mo_condition_110 (in_c rfl) ?_
                      refine aw_pc (pc' := 111) rfl ?_
                      exact aw_iret d_Mo_condition_111 rfl ⟨rfl, Or.inr (Or.inr (Or.inl ⟨by omega, by omega, by omega, rfl, rfl⟩))⟩
                    · refine aw_iconst d_Mo_condition_77 (in_c rfl) ?_
                      refine aw_goto (tgt := 100) d_Mo_condition_78 rfl ?_
                      refine aw_putI fd_Mo_fault lk_Mo_86 (by omega) rfl d_Mo_condition_100 (Or.inl rfl) ?_
                      refine aw_aload_n d_Mo_condition_103 rfl rfl ?_
                      refine aw_getI fd_Mo_fault lk_Mo_86 (by omega) rfl d_Mo_condition_104 ?_
                      refine aw_tv (v' := 1) rfl ?_
                      refine aw_if_le (tgt := 112) d_Mo_condition_107 rfl (fun h107 => absurd h107 (by omega)) (fun h107 => ?_)
                      refine aw_iconst d_Mo_condition_110 (in_c rfl) ?_
                      exact aw_iret d_Mo_condition_111 rfl ⟨rfl, Or.inl ⟨by omega, rfl, rfl⟩⟩
                  · refine aw_iconst d_Mo_condition_60 (in_c rfl) ?_
                    refine aw_goto (tgt := 65) d_Mo_condition_61 rfl ?_
                    refine aw_istore (lst' := [_, _, _, _, _, _, _]) d_Mo_condition_65 (Nat.le_of_ble_eq_true rfl) rfl ?_
                    refine aw_aload_n d_Mo_condition_67 rfl rfl ?_
                    refine aw_aload_n d_Mo_condition_68 rfl rfl ?_
                    refine aw_getI fd_Mo_made lk_Mo_93 (by omega) rfl d_Mo_condition_69 ?_
                    refine aw_tv (v' := (c : Int)) hc ?_
                    refine aw_bipush (z := 8) d_Mo_condition_72 (in_c rfl) rfl ?_
                    refine aw_icmp_ne (tgt := 81) d_Mo_condition_74 rfl (fun h74 => ?_) (fun h74 => ?_)
                    · refine aw_iload d_Mo_condition_81 rfl ?_
                      refine aw_if_ne (tgt := 90) d_Mo_condition_83 rfl (fun h83 => ?_) (fun h83 => absurd h83 (by omega))
                      refine aw_iload d_Mo_condition_90 rfl ?_
                      refine aw_if_ne (tgt := 99) d_Mo_condition_92 rfl (fun h92 => ?_) (fun h92 => absurd h92 (by omega))
                      refine aw_iconst d_Mo_condition_99 (in_c rfl) ?_
                      refine aw_putI fd_Mo_fault lk_Mo_86 (by omega) rfl d_Mo_condition_100 (Or.inl rfl) ?_
                      refine aw_aload_n d_Mo_condition_103 rfl rfl ?_
                      refine aw_getI fd_Mo_fault lk_Mo_86 (by omega) rfl d_Mo_condition_104 ?_
                      refine aw_tv (v' := 0) rfl ?_
                      refine aw_if_le (tgt := 112) d_Mo_condition_107 rfl (fun h107 => ?_) (fun h107 => absurd (by omega) h107)
                      refine aw_aload_n d_Mo_condition_112 rfl rfl ?_
                      refine aw_getR fd_Mo_kind lk_Mo_16 (by omega) rfl d_Mo_condition_113 (hR _ _) ?_
                      refine aw_pc (pc' := 116) rfl ?_
                      refine aw_aload_n d_Mo_condition_116 rfl rfl ?_
                      refine aw_getI fd_Mo_made lk_Mo_93 (by omega) rfl d_Mo_condition_117 ?_
                      refine aw_tv (v' := (c : Int)) (by first | exact hc | (simp only [mI_wI]; rw [if_neg (by omega)]; exact hc) | (simp only [mI_wI]; rw [if_neg (by omega), if_neg (by omega)]; exact hc) | (simp only [mI_wI]; rw [if_neg (by omega), if_neg (by omega), if_neg (by omega)]; exact hc) | (simp only [mI_wI]; rw [if_neg (by omega), if_neg (by omega), if_neg (by omega), if_neg (by omega)]; exact hc) | (simp only [mI_wI]; rw [if_neg (by omega), if_neg (by omega), if_neg (by omega), if_neg (by omega), if_neg (by omega)]; exact hc)) ?_
                      refine aw_iload_n d_Mo_condition_120 rfl rfl ?_
                      refine aw_iast (n := _) (by omega) rfl rfl (by omega) d_Mo_condition_121 ?_
                      refine aw_aload_n d_Mo_condition_122 rfl rfl ?_
                      refine aw_getR fd_Mo_one lk_Mo_19 (by omega) rfl d_Mo_condition_123 (hR _ _) ?_
                      refine aw_aload_n d_Mo_condition_126 rfl rfl ?_
                      refine aw_getI fd_Mo_made lk_Mo_93 (by omega) rfl d_Mo_condition_127 ?_
                      refine aw_tv (v' := (c : Int)) (by first | exact hc | (simp only [mI_wI]; rw [if_neg (by omega)]; exact hc) | (simp only [mI_wI]; rw [if_neg (by omega), if_neg (by omega)]; exact hc) | (simp only [mI_wI]; rw [if_neg (by omega), if_neg (by omega), if_neg (by omega)]; exact hc) | (simp only [mI_wI]; rw [if_neg (by omega), if_neg (by omega), if_neg (by omega), if_neg (by omega)]; exact hc) | (simp only [mI_wI]; rw [if_neg (by omega), if_neg (by omega), if_neg (by omega), if_neg (by omega), if_neg (by omega)]; exact hc)) ?_
                      refine aw_iload_n d_Mo_condition_130 rfl rfl ?_
                      refine aw_iast (n := _) (by omega) rfl rfl (by omega) d_Mo_condition_131 ?_
                      refine aw_aload_n d_Mo_condition_132 rfl rfl ?_
                      refine aw_getR fd_Mo_two lk_Mo_22 (by omega) rfl d_Mo_condition_133 (hR _ _) ?_
                      refine aw_pc (pc' := 136) rfl ?_
                      refine aw_aload_n d_Mo_condition_136 rfl rfl ?_
                      refine aw_getI fd_Mo_made lk_Mo_93 (by omega) rfl d_Mo_condition_137 ?_
                      refine aw_tv (v' := (c : Int)) (by first | exact hc | (simp only [mI_wI]; rw [if_neg (by omega)]; exact hc) | (simp only [mI_wI]; rw [if_neg (by omega), if_neg (by omega)]; exact hc) | (simp only [mI_wI]; rw [if_neg (by omega), if_neg (by omega), if_neg (by omega)]; exact hc) | (simp only [mI_wI]; rw [if_neg (by omega), if_neg (by omega), if_neg (by omega), if_neg (by omega)]; exact hc) | (simp only [mI_wI]; rw [if_neg (by omega), if_neg (by omega), if_neg (by omega), if_neg (by omega), if_neg (by omega)]; exact hc)) ?_
                      refine aw_iload_n d_Mo_condition_140 rfl rfl ?_
                      refine aw_iast (n := _) (by omega) rfl rfl (by omega) d_Mo_condition_141 ?_
                      refine aw_aload_n d_Mo_condition_142 rfl rfl ?_
                      refine aw_getR fd_Mo_bound lk_Mo_25 (by omega) rfl d_Mo_condition_143 (hR _ _) ?_
                      refine aw_aload_n d_Mo_condition_146 rfl rfl ?_
                      refine aw_getI fd_Mo_made lk_Mo_93 (by omega) rfl d_Mo_condition_147 ?_
                      refine aw_tv (v' := (c : Int)) (by first | exact hc | (simp only [mI_wI]; rw [if_neg (by omega)]; exact hc) | (simp only [mI_wI]; rw [if_neg (by omega), if_neg (by omega)]; exact hc) | (simp only [mI_wI]; rw [if_neg (by omega), if_neg (by omega), if_neg (by omega)]; exact hc) | (simp only [mI_wI]; rw [if_neg (by omega), if_neg (by omega), if_neg (by omega), if_neg (by omega)]; exact hc) | (simp only [mI_wI]; rw [if_neg (by omega), if_neg (by omega), if_neg (by omega), if_neg (by omega), if_neg (by omega)]; exact hc)) ?_
                      refine aw_iload d_Mo_condition_150 rfl ?_
                      refine aw_iast (n := _) (by omega) rfl rfl (by omega) d_Mo_condition_152 ?_
                      refine aw_aload_n d_Mo_condition_153 rfl rfl ?_
                      refine aw_dup d_Mo_condition_154 rfl ?_
                      refine aw_pc (pc' := 155) rfl ?_
                      refine aw_getI fd_Mo_made lk_Mo_93 (by omega) rfl d_Mo_condition_155 ?_
                      refine aw_tv (v' := (c : Int)) (by first | exact hc | (simp only [mI_wI]; rw [if_neg (by omega)]; exact hc) | (simp only [mI_wI]; rw [if_neg (by omega), if_neg (by omega)]; exact hc) | (simp only [mI_wI]; rw [if_neg (by omega), if_neg (by omega), if_neg (by omega)]; exact hc) | (simp only [mI_wI]; rw [if_neg (by omega), if_neg (by omega), if_neg (by omega), if_neg (by omega)]; exact hc) | (simp only [mI_wI]; rw [if_neg (by omega), if_neg (by omega), if_neg (by omega), if_neg (by omega), if_neg (by omega)]; exact hc)) ?_
                      refine aw_iconst d_Mo_condition_158 (in_c rfl) ?_
                      refine aw_iadd d_Mo_condition_159 (by unfold inR; omega) ?_
                      refine aw_putI fd_Mo_made lk_Mo_93 (by omega) rfl d_Mo_condition_160 (Or.inl rfl) ?_
                      refine aw_aload_n d_Mo_condition_163 rfl rfl ?_
                      refine aw_getI fd_Mo_made lk_Mo_93 (by omega) rfl d_Mo_condition_164 ?_
                      refine aw_tv (v' := (c : Int) + 1) rfl ?_
                      refine aw_iconst d_Mo_condition_167 (in_c rfl) ?_
                      refine aw_isub d_Mo_condition_168 (by unfold inR; omega) ?_
                      exact aw_iret d_Mo_condition_169 rfl ⟨rfl, Or.inr (Or.inr (Or.inr (⟨by omega, by omega, by omega, by rw [Int.add_sub_cancel], rfl⟩)))⟩
                    · refine aw_iconst d_Mo_condition_77 (in_c rfl) ?_
                      refine aw_goto (tgt := 100) d_Mo_condition_78 rfl ?_
                      refine aw_putI fd_Mo_fault lk_Mo_86 (by omega) rfl d_Mo_condition_100 (Or.inl rfl) ?_
                      refine aw_aload_n d_Mo_condition_103 rfl rfl ?_
                      refine aw_getI fd_Mo_fault lk_Mo_86 (by omega) rfl d_Mo_condition_104 ?_
                      refine aw_tv (v' := 1) rfl ?_
                      refine aw_if_le (tgt := 112) d_Mo_condition_107 rfl (fun h107 => absurd h107 (by omega)) (fun h107 => ?_)
                      refine aw_iconst d_Mo_condition_110 (in_c rfl) ?_
                      exact aw_iret d_Mo_condition_111 rfl ⟨rfl, Or.inl ⟨by omega, rfl, rfl⟩⟩
end
