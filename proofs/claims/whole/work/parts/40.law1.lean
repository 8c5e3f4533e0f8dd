/-! the law's helpers -/
section
def QL (f : Nat → Int) (Q' : aQ → Nat → aM → Prop) : aQ → Nat → aM → Prop := fun r n m => n = 94 ∧ ((∃ z μ1, Q' (.inl (some (aI z))) 94 μ1 ∧ r = .inl (some (aI 0)) ∧ m = wL μ1 93 0 (BitVec.ofInt 64 z)) ∨ (∃ E, Q' (.inr E) 94 m ∧ r = .inl (some (aI (f E)))))
variable {G : aG} {μ : aM}
set_option maxRecDepth 100000 in
theorem h_La_input {d : Nat} (hd : 8 ≤ d) {p1 : Int} (hp1 : inR p1) {p2 : Int} (hp2 : inR p2) {Q' : aQ → Nat → aM → Prop} (hM : AM G false (d - 1) 3 18 y_MC_input [aP 0, aI p1, aI p2] 94 μ Q') (hs : ∀ r n m, Q' r n m → n = 94 ∧ ((∃ z, r = .inl (some (aI z))) ∨ r = .inr 0 ∨ r = .inr 1)) : AM G false d 3 18 y_La_input [aP 0, aI p1, aI p2, aP 93] 94 μ (QL (fun E => if E = 0 then 1 else if E = 1 then 2 else 0) Q') := by
  refine am_of (n := 1) pf_La_input (Nat.le_of_ble_eq_true rfl) (by intro v hv; simp only [List.mem_cons, List.not_mem_nil, or_false] at hv; rcases hv with rfl | rfl | rfl | rfl <;> first | trivial | assumption) rfl ?_
  refine aw_aload_n d_La_input_0 rfl rfl ?_
  refine aw_iconst d_La_input_1 (in_c rfl) ?_
  refine aw_aload_n d_La_input_2 rfl rfl ?_
  refine aw_iload_n d_La_input_3 rfl rfl ?_
  refine aw_iload_n d_La_input_4 rfl rfl ?_
  refine aw_vx (as := [_, _]) rfl cv_La_7 (by omega) rfl rfl d_La_input_5 (Nat.le_of_ble_eq_true rfl) (d' := d - 1) (by omega) (Nat.le_refl _) (Nat.le_refl _) hM ?_ ?_
  · intro v n1 μ1 hv
    obtain ⟨rfl, h9⟩ := hs _ _ _ hv
    obtain ⟨z, hz⟩ : ∃ z, v = some (aI z) := by
      rcases h9 with ⟨z, h9⟩ | h9 | h9
      · cases h9; exact ⟨z, rfl⟩
      · cases h9
      · cases h9
    subst hz
    clear h9
    refine aw_i2l d_La_input_8 ?_
    refine aw_last (n := 0) (by omega) rfl rfl (by omega) d_La_input_9 ?_
    refine aw_goto (tgt := 21) d_La_input_10 rfl ?_
    refine aw_iconst d_La_input_21 (in_c rfl) ?_
    exact aw_iret d_La_input_22 rfl ⟨rfl, Or.inl ⟨z, μ1, hv, rfl, rfl⟩⟩
  · intro E n1 μ1 hv
    obtain ⟨rfl, h9⟩ := hs _ _ _ hv
    have h9 : E = 0 ∨ E = 1 := by
      rcases h9 with ⟨z, h9⟩ | h9 | h9
      · cases h9
      · cases h9; first | rfl | exact Or.inl rfl | exact Or.inr rfl | exact Or.inr (Or.inl rfl) | exact Or.inr (Or.inr rfl)
      · cases h9; first | rfl | exact Or.inl rfl | exact Or.inr rfl | exact Or.inr (Or.inl rfl) | exact Or.inr (Or.inr rfl)
    rcases h9 with rfl | rfl
    · exact at_catch (E := 0) (i := 4) (pre := []) (z := ⟨0, 10, 13, 13⟩) (suf := [⟨0, 10, 17, 15⟩]) rfl (by intro w hw; cases hw) rfl (by decide) cl_La_13 (by decide) (Nat.le_of_ble_eq_true rfl) (Or.inr ⟨d_La_input_13, rfl⟩) d_La_input_15 rfl d_La_input_16 rfl (in_c rfl) ⟨rfl, Or.inr ⟨0, hv, rfl⟩⟩
    · exact at_catch (E := 1) (i := 4) (pre := [⟨0, 10, 13, 13⟩]) (z := ⟨0, 10, 17, 15⟩) (suf := []) rfl (by intro w hw; simp only [List.mem_cons, List.not_mem_nil, or_false] at hw; rcases hw with rfl; exact Or.inr ⟨by decide, 0, by decide, cl_La_13⟩) rfl (by decide) cl_La_15 (by decide) (Nat.le_of_ble_eq_true rfl) (Or.inr ⟨d_La_input_17, rfl⟩) d_La_input_19 rfl d_La_input_20 rfl (in_c rfl) ⟨rfl, Or.inr ⟨1, hv, rfl⟩⟩
set_option maxRecDepth 100000 in
theorem h_La_condition {d : Nat} (hd : 8 ≤ d) {p1 : Int} (hp1 : inR p1) {p2 : Int} (hp2 : inR p2) {p3 : Int} (hp3 : inR p3) {p4 : Int} (hp4 : inR p4) {Q' : aQ → Nat → aM → Prop} (hM : AM G false (d - 1) 3 18 y_MC_condition [aP 0, aI p1, aI p2, aI p3, aI p4] 94 μ Q') (hs : ∀ r n m, Q' r n m → n = 94 ∧ ((∃ z, r = .inl (some (aI z))) ∨ r = .inr 0 ∨ r = .inr 2 ∨ r = .inr 1)) : AM G false d 3 18 y_La_condition [aP 0, aI p1, aI p2, aI p3, aI p4, aP 93] 94 μ (QL (fun E => if E = 0 then 1 else if E = 2 then 2 else if E = 1 then 3 else 0) Q') := by
  refine am_of (n := 1) pf_La_condition (Nat.le_of_ble_eq_true rfl) (by intro v hv; simp only [List.mem_cons, List.not_mem_nil, or_false] at hv; rcases hv with rfl | rfl | rfl | rfl | rfl | rfl <;> first | trivial | assumption) rfl ?_
  refine aw_aload d_La_condition_0 rfl ?_
  refine aw_iconst d_La_condition_2 (in_c rfl) ?_
  refine aw_aload_n d_La_condition_3 rfl rfl ?_
  refine aw_iload_n d_La_condition_4 rfl rfl ?_
  refine aw_iload_n d_La_condition_5 rfl rfl ?_
  refine aw_iload_n d_La_condition_6 rfl rfl ?_
  refine aw_iload d_La_condition_7 rfl ?_
  refine aw_vx (as := [_, _, _, _]) rfl cv_La_17 (by omega) rfl rfl d_La_condition_9 (Nat.le_of_ble_eq_true rfl) (d' := d - 1) (by omega) (Nat.le_refl _) (Nat.le_refl _) hM ?_ ?_
  · intro v n1 μ1 hv
    obtain ⟨rfl, h9⟩ := hs _ _ _ hv
    obtain ⟨z, hz⟩ : ∃ z, v = some (aI z) := by
      rcases h9 with ⟨z, h9⟩ | h9 | h9 | h9
      · cases h9; exact ⟨z, rfl⟩
      · cases h9
      · cases h9
      · cases h9
    subst hz
    clear h9
    refine aw_i2l d_La_condition_12 ?_
    refine aw_last (n := 0) (by omega) rfl rfl (by omega) d_La_condition_13 ?_
    refine aw_goto (tgt := 29) d_La_condition_14 rfl ?_
    refine aw_iconst d_La_condition_29 (in_c rfl) ?_
    exact aw_iret d_La_condition_30 rfl ⟨rfl, Or.inl ⟨z, μ1, hv, rfl, rfl⟩⟩
  · intro E n1 μ1 hv
    obtain ⟨rfl, h9⟩ := hs _ _ _ hv
    have h9 : E = 0 ∨ E = 2 ∨ E = 1 := by
      rcases h9 with ⟨z, h9⟩ | h9 | h9 | h9
      · cases h9
      · cases h9; first | rfl | exact Or.inl rfl | exact Or.inr rfl | exact Or.inr (Or.inl rfl) | exact Or.inr (Or.inr rfl)
      · cases h9; first | rfl | exact Or.inl rfl | exact Or.inr rfl | exact Or.inr (Or.inl rfl) | exact Or.inr (Or.inr rfl)
      · cases h9; first | rfl | exact Or.inl rfl | exact Or.inr rfl | exact Or.inr (Or.inl rfl) | exact Or.inr (Or.inr rfl)
    rcases h9 with rfl | rfl | rfl
    · exact at_catch (E := 0) (i := 6) (pre := []) (z := ⟨0, 14, 17, 13⟩) (suf := [⟨0, 14, 21, 21⟩, ⟨0, 14, 25, 15⟩]) rfl (by intro w hw; cases hw) rfl (by decide) cl_La_13 (by decide) (Nat.le_of_ble_eq_true rfl) (Or.inr ⟨d_La_condition_17, rfl⟩) d_La_condition_19 rfl d_La_condition_20 rfl (in_c rfl) ⟨rfl, Or.inr ⟨0, hv, rfl⟩⟩
    · exact at_catch (E := 2) (i := 6) (pre := [⟨0, 14, 17, 13⟩]) (z := ⟨0, 14, 21, 21⟩) (suf := [⟨0, 14, 25, 15⟩]) rfl (by intro w hw; simp only [List.mem_cons, List.not_mem_nil, or_false] at hw; rcases hw with rfl; exact Or.inr ⟨by decide, 0, by decide, cl_La_13⟩) rfl (by decide) cl_La_21 (by decide) (Nat.le_of_ble_eq_true rfl) (Or.inr ⟨d_La_condition_21, rfl⟩) d_La_condition_23 rfl d_La_condition_24 rfl (in_c rfl) ⟨rfl, Or.inr ⟨2, hv, rfl⟩⟩
    · exact at_catch (E := 1) (i := 6) (pre := [⟨0, 14, 17, 13⟩, ⟨0, 14, 21, 21⟩]) (z := ⟨0, 14, 25, 15⟩) (suf := []) rfl (by intro w hw; simp only [List.mem_cons, List.not_mem_nil, or_false] at hw; rcases hw with rfl | rfl; exact Or.inr ⟨by decide, 0, by decide, cl_La_13⟩; exact Or.inr ⟨by decide, 2, by decide, cl_La_21⟩) rfl (by decide) cl_La_15 (by decide) (Nat.le_of_ble_eq_true rfl) (Or.inr ⟨d_La_condition_25, rfl⟩) d_La_condition_27 rfl d_La_condition_28 rfl (in_c rfl) ⟨rfl, Or.inr ⟨1, hv, rfl⟩⟩
set_option maxRecDepth 100000 in
theorem h_La_decision {d : Nat} (hd : 8 ≤ d) {p1 : Int} (hp1 : inR p1) {Q' : aQ → Nat → aM → Prop} (hM : AM G false (d - 1) 3 18 y_MC_decision [aP 0, aI p1] 94 μ Q') (hs : ∀ r n m, Q' r n m → n = 94 ∧ ((∃ z, r = .inl (some (aI z))) ∨ r = .inr 0)) : AM G false d 3 18 y_La_decision [aP 0, aI p1, aP 93] 94 μ (QL (fun E => if E = 0 then 1 else 0) Q') := by
  refine am_of (n := 1) pf_La_decision (Nat.le_of_ble_eq_true rfl) (by intro v hv; simp only [List.mem_cons, List.not_mem_nil, or_false] at hv; rcases hv with rfl | rfl | rfl <;> first | trivial | assumption) rfl ?_
  refine aw_aload_n d_La_decision_0 rfl rfl ?_
  refine aw_iconst d_La_decision_1 (in_c rfl) ?_
  refine aw_aload_n d_La_decision_2 rfl rfl ?_
  refine aw_iload_n d_La_decision_3 rfl rfl ?_
  refine aw_vx (as := [_]) rfl cv_La_23 (by omega) rfl rfl d_La_decision_4 (Nat.le_of_ble_eq_true rfl) (d' := d - 1) (by omega) (Nat.le_refl _) (Nat.le_refl _) hM ?_ ?_
  · intro v n1 μ1 hv
    obtain ⟨rfl, h9⟩ := hs _ _ _ hv
    obtain ⟨z, hz⟩ : ∃ z, v = some (aI z) := by
      rcases h9 with ⟨z, h9⟩ | h9
      · cases h9; exact ⟨z, rfl⟩
      · cases h9
    subst hz
    clear h9
    refine aw_i2l d_La_decision_7 ?_
    refine aw_last (n := 0) (by omega) rfl rfl (by omega) d_La_decision_8 ?_
    refine aw_goto (tgt := 15) d_La_decision_9 rfl ?_
    refine aw_iconst d_La_decision_15 (in_c rfl) ?_
    exact aw_iret d_La_decision_16 rfl ⟨rfl, Or.inl ⟨z, μ1, hv, rfl, rfl⟩⟩
  · intro E n1 μ1 hv
    obtain ⟨rfl, h9⟩ := hs _ _ _ hv
    have h9 : E = 0 := by
      rcases h9 with ⟨z, h9⟩ | h9
      · cases h9
      · cases h9; first | rfl | exact Or.inl rfl | exact Or.inr rfl | exact Or.inr (Or.inl rfl) | exact Or.inr (Or.inr rfl)
    rcases h9 with rfl
    · exact at_catch (E := 0) (i := 3) (pre := []) (z := ⟨0, 9, 12, 13⟩) (suf := []) rfl (by intro w hw; cases hw) rfl (by decide) cl_La_13 (by decide) (Nat.le_of_ble_eq_true rfl) (Or.inl ⟨3, rfl, d_La_decision_12, rfl⟩) d_La_decision_13 rfl d_La_decision_14 rfl (in_c rfl) ⟨rfl, Or.inr ⟨0, hv, rfl⟩⟩
set_option maxRecDepth 100000 in
theorem h_La_conditions {d : Nat} (hd : 8 ≤ d) {p1 : Int} (hp1 : inR p1) {Q' : aQ → Nat → aM → Prop} (hM : AM G false (d - 1) 3 18 y_MC_conditions [aP 0, aI p1] 94 μ Q') (hs : ∀ r n m, Q' r n m → n = 94 ∧ ((∃ z, r = .inl (some (aI z))) ∨ r = .inr 2)) : AM G false d 3 18 y_La_conditions [aP 0, aI p1, aP 93] 94 μ (QL (fun E => if E = 2 then 1 else 0) Q') := by
  refine am_of (n := 1) pf_La_conditions (Nat.le_of_ble_eq_true rfl) (by intro v hv; simp only [List.mem_cons, List.not_mem_nil, or_false] at hv; rcases hv with rfl | rfl | rfl <;> first | trivial | assumption) rfl ?_
  refine aw_aload_n d_La_conditions_0 rfl rfl ?_
  refine aw_iconst d_La_conditions_1 (in_c rfl) ?_
  refine aw_aload_n d_La_conditions_2 rfl rfl ?_
  refine aw_iload_n d_La_conditions_3 rfl rfl ?_
  refine aw_vx (as := [_]) rfl cv_La_27 (by omega) rfl rfl d_La_conditions_4 (Nat.le_of_ble_eq_true rfl) (d' := d - 1) (by omega) (Nat.le_refl _) (Nat.le_refl _) hM ?_ ?_
  · intro v n1 μ1 hv
    obtain ⟨rfl, h9⟩ := hs _ _ _ hv
    obtain ⟨z, hz⟩ : ∃ z, v = some (aI z) := by
      rcases h9 with ⟨z, h9⟩ | h9
      · cases h9; exact ⟨z, rfl⟩
      · cases h9
    subst hz
    clear h9
    refine aw_i2l d_La_conditions_7 ?_
    refine aw_last (n := 0) (by omega) rfl rfl (by omega) d_La_conditions_8 ?_
    refine aw_goto (tgt := 15) d_La_conditions_9 rfl ?_
    refine aw_iconst d_La_conditions_15 (in_c rfl) ?_
    exact aw_iret d_La_conditions_16 rfl ⟨rfl, Or.inl ⟨z, μ1, hv, rfl, rfl⟩⟩
  · intro E n1 μ1 hv
    obtain ⟨rfl, h9⟩ := hs _ _ _ hv
    have h9 : E = 2 := by
      rcases h9 with ⟨z, h9⟩ | h9
      · cases h9
      · cases h9; first | rfl | exact Or.inl rfl | exact Or.inr rfl | exact Or.inr (Or.inl rfl) | exact Or.inr (Or.inr rfl)
    rcases h9 with rfl
    · exact at_catch (E := 2) (i := 3) (pre := []) (z := ⟨0, 9, 12, 21⟩) (suf := []) rfl (by intro w hw; cases hw) rfl (by decide) cl_La_21 (by decide) (Nat.le_of_ble_eq_true rfl) (Or.inl ⟨3, rfl, d_La_conditions_12, rfl⟩) d_La_conditions_13 rfl d_La_conditions_14 rfl (in_c rfl) ⟨rfl, Or.inr ⟨2, hv, rfl⟩⟩
set_option maxRecDepth 100000 in
theorem h_La_show {d : Nat} (hd : 8 ≤ d) {p1 : Int} (hp1 : inR p1) {Q' : aQ → Nat → aM → Prop} (hM : AM G false (d - 1) 3 18 y_MC_show [aP 0, aI p1] 94 μ Q') (hs : ∀ r n m, Q' r n m → n = 94 ∧ ((∃ z, r = .inl (some (aI z))) ∨ r = .inr 2)) : AM G false d 3 18 y_La_show [aP 0, aI p1, aP 93] 94 μ (QL (fun E => if E = 2 then 1 else 0) Q') := by
  refine am_of (n := 1) pf_La_show (Nat.le_of_ble_eq_true rfl) (by intro v hv; simp only [List.mem_cons, List.not_mem_nil, or_false] at hv; rcases hv with rfl | rfl | rfl <;> first | trivial | assumption) rfl ?_
  refine aw_aload_n d_La_show_0 rfl rfl ?_
  refine aw_iconst d_La_show_1 (in_c rfl) ?_
  refine aw_aload_n d_La_show_2 rfl rfl ?_
  refine aw_iload_n d_La_show_3 rfl rfl ?_
  refine aw_vx (as := [_]) rfl cv_La_31 (by omega) rfl rfl d_La_show_4 (Nat.le_of_ble_eq_true rfl) (d' := d - 1) (by omega) (Nat.le_refl _) (Nat.le_refl _) hM ?_ ?_
  · intro v n1 μ1 hv
    obtain ⟨rfl, h9⟩ := hs _ _ _ hv
    obtain ⟨z, hz⟩ : ∃ z, v = some (aI z) := by
      rcases h9 with ⟨z, h9⟩ | h9
      · cases h9; exact ⟨z, rfl⟩
      · cases h9
    subst hz
    clear h9
    refine aw_i2l d_La_show_7 ?_
    refine aw_last (n := 0) (by omega) rfl rfl (by omega) d_La_show_8 ?_
    refine aw_goto (tgt := 15) d_La_show_9 rfl ?_
    refine aw_iconst d_La_show_15 (in_c rfl) ?_
    exact aw_iret d_La_show_16 rfl ⟨rfl, Or.inl ⟨z, μ1, hv, rfl, rfl⟩⟩
  · intro E n1 μ1 hv
    obtain ⟨rfl, h9⟩ := hs _ _ _ hv
    have h9 : E = 2 := by
      rcases h9 with ⟨z, h9⟩ | h9
      · cases h9
      · cases h9; first | rfl | exact Or.inl rfl | exact Or.inr rfl | exact Or.inr (Or.inl rfl) | exact Or.inr (Or.inr rfl)
    rcases h9 with rfl
    · exact at_catch (E := 2) (i := 3) (pre := []) (z := ⟨0, 9, 12, 21⟩) (suf := []) rfl (by intro w hw; cases hw) rfl (by decide) cl_La_21 (by decide) (Nat.le_of_ble_eq_true rfl) (Or.inl ⟨3, rfl, d_La_show_12, rfl⟩) d_La_show_13 rfl d_La_show_14 rfl (in_c rfl) ⟨rfl, Or.inr ⟨2, hv, rfl⟩⟩
set_option maxRecDepth 100000 in
theorem h_La_feasible {d : Nat} (hd : 8 ≤ d) {p1 : Int} (hp1 : inR p1) {Q' : aQ → Nat → aM → Prop} (hM : AM G false (d - 1) 3 18 y_MC_feasible [aP 0, aI p1] 94 μ Q') (hs : ∀ r n m, Q' r n m → n = 94 ∧ ((∃ z, r = .inl (some (aI z))) ∨ r = .inr 2)) : AM G false d 3 18 y_La_feasible [aP 0, aI p1, aP 93] 94 μ (QL (fun E => if E = 2 then 1 else 0) Q') := by
  refine am_of (n := 1) pf_La_feasible (Nat.le_of_ble_eq_true rfl) (by intro v hv; simp only [List.mem_cons, List.not_mem_nil, or_false] at hv; rcases hv with rfl | rfl | rfl <;> first | trivial | assumption) rfl ?_
  refine aw_aload_n d_La_feasible_0 rfl rfl ?_
  refine aw_iconst d_La_feasible_1 (in_c rfl) ?_
  refine aw_aload_n d_La_feasible_2 rfl rfl ?_
  refine aw_iload_n d_La_feasible_3 rfl rfl ?_
  refine aw_vx (as := [_]) rfl cv_La_34 (by omega) rfl rfl d_La_feasible_4 (Nat.le_of_ble_eq_true rfl) (d' := d - 1) (by omega) (Nat.le_refl _) (Nat.le_refl _) hM ?_ ?_
  · intro v n1 μ1 hv
    obtain ⟨rfl, h9⟩ := hs _ _ _ hv
    obtain ⟨z, hz⟩ : ∃ z, v = some (aI z) := by
      rcases h9 with ⟨z, h9⟩ | h9
      · cases h9; exact ⟨z, rfl⟩
      · cases h9
    subst hz
    clear h9
    refine aw_i2l d_La_feasible_7 ?_
    refine aw_last (n := 0) (by omega) rfl rfl (by omega) d_La_feasible_8 ?_
    refine aw_goto (tgt := 15) d_La_feasible_9 rfl ?_
    refine aw_iconst d_La_feasible_15 (in_c rfl) ?_
    exact aw_iret d_La_feasible_16 rfl ⟨rfl, Or.inl ⟨z, μ1, hv, rfl, rfl⟩⟩
  · intro E n1 μ1 hv
    obtain ⟨rfl, h9⟩ := hs _ _ _ hv
    have h9 : E = 2 := by
      rcases h9 with ⟨z, h9⟩ | h9
      · cases h9
      · cases h9; first | rfl | exact Or.inl rfl | exact Or.inr rfl | exact Or.inr (Or.inl rfl) | exact Or.inr (Or.inr rfl)
    rcases h9 with rfl
    · exact at_catch (E := 2) (i := 3) (pre := []) (z := ⟨0, 9, 12, 21⟩) (suf := []) rfl (by intro w hw; cases hw) rfl (by decide) cl_La_21 (by decide) (Nat.le_of_ble_eq_true rfl) (Or.inl ⟨3, rfl, d_La_feasible_12, rfl⟩) d_La_feasible_13 rfl d_La_feasible_14 rfl (in_c rfl) ⟨rfl, Or.inr ⟨2, hv, rfl⟩⟩
set_option maxRecDepth 100000 in
theorem h_La_vector {d : Nat} (hd : 8 ≤ d) {p1 : Int} (hp1 : inR p1) {p2 : Int} (hp2 : inR p2) {p3 : Int} (hp3 : inR p3) {Q' : aQ → Nat → aM → Prop} (hM : AM G false (d - 1) 3 18 y_MC_vector [aP 0, aI p1, aI p2, aI p3] 94 μ Q') (hs : ∀ r n m, Q' r n m → n = 94 ∧ ((∃ z, r = .inl (some (aI z))) ∨ r = .inr 2 ∨ r = .inr 0)) : AM G false d 3 18 y_La_vector [aP 0, aI p1, aI p2, aI p3, aP 93] 94 μ (QL (fun E => if E = 2 then 1 else if E = 0 then 2 else 0) Q') := by
  refine am_of (n := 1) pf_La_vector (Nat.le_of_ble_eq_true rfl) (by intro v hv; simp only [List.mem_cons, List.not_mem_nil, or_false] at hv; rcases hv with rfl | rfl | rfl | rfl | rfl <;> first | trivial | assumption) rfl ?_
  refine aw_aload d_La_vector_0 rfl ?_
  refine aw_iconst d_La_vector_2 (in_c rfl) ?_
  refine aw_aload_n d_La_vector_3 rfl rfl ?_
  refine aw_iload_n d_La_vector_4 rfl rfl ?_
  refine aw_iload_n d_La_vector_5 rfl rfl ?_
  refine aw_iload_n d_La_vector_6 rfl rfl ?_
  refine aw_vx (as := [_, _, _]) rfl cv_La_37 (by omega) rfl rfl d_La_vector_7 (Nat.le_of_ble_eq_true rfl) (d' := d - 1) (by omega) (Nat.le_refl _) (Nat.le_refl _) hM ?_ ?_
  · intro v n1 μ1 hv
    obtain ⟨rfl, h9⟩ := hs _ _ _ hv
    obtain ⟨z, hz⟩ : ∃ z, v = some (aI z) := by
      rcases h9 with ⟨z, h9⟩ | h9 | h9
      · cases h9; exact ⟨z, rfl⟩
      · cases h9
      · cases h9
    subst hz
    clear h9
    refine aw_i2l d_La_vector_10 ?_
    refine aw_last (n := 0) (by omega) rfl rfl (by omega) d_La_vector_11 ?_
    refine aw_goto (tgt := 23) d_La_vector_12 rfl ?_
    refine aw_iconst d_La_vector_23 (in_c rfl) ?_
    exact aw_iret d_La_vector_24 rfl ⟨rfl, Or.inl ⟨z, μ1, hv, rfl, rfl⟩⟩
  · intro E n1 μ1 hv
    obtain ⟨rfl, h9⟩ := hs _ _ _ hv
    have h9 : E = 2 ∨ E = 0 := by
      rcases h9 with ⟨z, h9⟩ | h9 | h9
      · cases h9
      · cases h9; first | rfl | exact Or.inl rfl | exact Or.inr rfl | exact Or.inr (Or.inl rfl) | exact Or.inr (Or.inr rfl)
      · cases h9; first | rfl | exact Or.inl rfl | exact Or.inr rfl | exact Or.inr (Or.inl rfl) | exact Or.inr (Or.inr rfl)
    rcases h9 with rfl | rfl
    · exact at_catch (E := 2) (i := 5) (pre := []) (z := ⟨0, 12, 15, 21⟩) (suf := [⟨0, 12, 19, 13⟩]) rfl (by intro w hw; cases hw) rfl (by decide) cl_La_21 (by decide) (Nat.le_of_ble_eq_true rfl) (Or.inr ⟨d_La_vector_15, rfl⟩) d_La_vector_17 rfl d_La_vector_18 rfl (in_c rfl) ⟨rfl, Or.inr ⟨2, hv, rfl⟩⟩
    · exact at_catch (E := 0) (i := 5) (pre := [⟨0, 12, 15, 21⟩]) (z := ⟨0, 12, 19, 13⟩) (suf := []) rfl (by intro w hw; simp only [List.mem_cons, List.not_mem_nil, or_false] at hw; rcases hw with rfl; exact Or.inr ⟨by decide, 2, by decide, cl_La_21⟩) rfl (by decide) cl_La_13 (by decide) (Nat.le_of_ble_eq_true rfl) (Or.inr ⟨d_La_vector_19, rfl⟩) d_La_vector_21 rfl d_La_vector_22 rfl (in_c rfl) ⟨rfl, Or.inr ⟨0, hv, rfl⟩⟩
set_option maxRecDepth 100000 in
theorem h_La_outcome {d : Nat} (hd : 8 ≤ d) {p1 : Int} (hp1 : inR p1) {p2 : Int} (hp2 : inR p2) {Q' : aQ → Nat → aM → Prop} (hM : AM G false (d - 1) 3 18 y_MC_outcome [aP 0, aI p1, aI p2] 94 μ Q') (hs : ∀ r n m, Q' r n m → n = 94 ∧ ((∃ z, r = .inl (some (aI z)) ∧ (z = 0 ∨ z = 1)) ∨ r = .inr 2)) : AM G false d 3 18 y_La_outcome [aP 0, aI p1, aI p2, aP 93] 94 μ (QL (fun E => if E = 2 then 1 else 0) Q') := by
  refine am_of (n := 1) pf_La_outcome (Nat.le_of_ble_eq_true rfl) (by intro v hv; simp only [List.mem_cons, List.not_mem_nil, or_false] at hv; rcases hv with rfl | rfl | rfl | rfl <;> first | trivial | assumption) rfl ?_
  refine aw_aload_n d_La_outcome_0 rfl rfl ?_
  refine aw_iconst d_La_outcome_1 (in_c rfl) ?_
  refine aw_aload_n d_La_outcome_2 rfl rfl ?_
  refine aw_iload_n d_La_outcome_3 rfl rfl ?_
  refine aw_iload_n d_La_outcome_4 rfl rfl ?_
  refine aw_vx (as := [_, _]) rfl cv_La_41 (by omega) rfl rfl d_La_outcome_5 (Nat.le_of_ble_eq_true rfl) (d' := d - 1) (by omega) (Nat.le_refl _) (Nat.le_refl _) hM ?_ ?_
  · intro v n1 μ1 hv
    obtain ⟨rfl, h9⟩ := hs _ _ _ hv
    obtain ⟨z, hz, h10⟩ : ∃ z, v = some (aI z) ∧ (z = 0 ∨ z = 1) := by
      rcases h9 with ⟨z, h9, h10⟩ | h9
      · cases h9; exact ⟨z, rfl, h10⟩
      · cases h9
    subst hz
    clear h9
    refine aw_if_eq (tgt := 15) d_La_outcome_8 rfl (fun h8 => ?_) (fun h8 => ?_)
    · refine aw_lconst (b := 0) d_La_outcome_15 rfl ?_
      refine aw_last (n := 0) (by omega) rfl rfl (by omega) d_La_outcome_16 ?_
      refine aw_goto (tgt := 24) d_La_outcome_17 rfl ?_
      refine aw_iconst d_La_outcome_24 (in_c rfl) ?_
      exact aw_iret d_La_outcome_25 rfl ⟨rfl, Or.inl ⟨z, μ1, hv, rfl, by rw [show z = 0 from by omega]; rfl⟩⟩
    · refine aw_lconst (b := 1) d_La_outcome_11 rfl ?_
      refine aw_goto (tgt := 16) d_La_outcome_12 rfl ?_
      refine aw_last (n := 0) (by omega) rfl rfl (by omega) d_La_outcome_16 ?_
      refine aw_goto (tgt := 24) d_La_outcome_17 rfl ?_
      refine aw_iconst d_La_outcome_24 (in_c rfl) ?_
      exact aw_iret d_La_outcome_25 rfl ⟨rfl, Or.inl ⟨z, μ1, hv, rfl, by rw [show z = 1 from by omega]; rfl⟩⟩
  · intro E n1 μ1 hv
    obtain ⟨rfl, h9⟩ := hs _ _ _ hv
    have h9 : E = 2 := by
      rcases h9 with ⟨z, h9, h10⟩ | h9
      · cases h9
      · cases h9; first | rfl | exact Or.inl rfl | exact Or.inr rfl | exact Or.inr (Or.inl rfl) | exact Or.inr (Or.inr rfl)
    rcases h9 with rfl
    · exact at_catch (E := 2) (i := 4) (pre := []) (z := ⟨0, 17, 20, 21⟩) (suf := []) rfl (by intro w hw; cases hw) rfl (by decide) cl_La_21 (by decide) (Nat.le_of_ble_eq_true rfl) (Or.inr ⟨d_La_outcome_20, rfl⟩) d_La_outcome_22 rfl d_La_outcome_23 rfl (in_c rfl) ⟨rfl, Or.inr ⟨2, hv, rfl⟩⟩
set_option maxRecDepth 100000 in
theorem h_La_evaluated {d : Nat} (hd : 8 ≤ d) {p1 : Int} (hp1 : inR p1) {p2 : Int} (hp2 : inR p2) {p3 : Int} (hp3 : inR p3) {Q' : aQ → Nat → aM → Prop} (hM : AM G false (d - 1) 3 18 y_MC_evaluated [aP 0, aI p1, aI p2, aI p3] 94 μ Q') (hs : ∀ r n m, Q' r n m → n = 94 ∧ ((∃ z, r = .inl (some (aI z)) ∧ (z = 0 ∨ z = 1)) ∨ r = .inr 2)) : AM G false d 3 18 y_La_evaluated [aP 0, aI p1, aI p2, aI p3, aP 93] 94 μ (QL (fun E => if E = 2 then 1 else 0) Q') := by
  refine am_of (n := 1) pf_La_evaluated (Nat.le_of_ble_eq_true rfl) (by intro v hv; simp only [List.mem_cons, List.not_mem_nil, or_false] at hv; rcases hv with rfl | rfl | rfl | rfl | rfl <;> first | trivial | assumption) rfl ?_
  refine aw_aload d_La_evaluated_0 rfl ?_
  refine aw_iconst d_La_evaluated_2 (in_c rfl) ?_
  refine aw_aload_n d_La_evaluated_3 rfl rfl ?_
  refine aw_iload_n d_La_evaluated_4 rfl rfl ?_
  refine aw_iload_n d_La_evaluated_5 rfl rfl ?_
  refine aw_iload_n d_La_evaluated_6 rfl rfl ?_
  refine aw_vx (as := [_, _, _]) rfl cv_La_45 (by omega) rfl rfl d_La_evaluated_7 (Nat.le_of_ble_eq_true rfl) (d' := d - 1) (by omega) (Nat.le_refl _) (Nat.le_refl _) hM ?_ ?_
  · intro v n1 μ1 hv
    obtain ⟨rfl, h9⟩ := hs _ _ _ hv
    obtain ⟨z, hz, h10⟩ : ∃ z, v = some (aI z) ∧ (z = 0 ∨ z = 1) := by
      rcases h9 with ⟨z, h9, h10⟩ | h9
      · cases h9; exact ⟨z, rfl, h10⟩
      · cases h9
    subst hz
    clear h9
    refine aw_if_eq (tgt := 17) d_La_evaluated_10 rfl (fun h10 => ?_) (fun h10 => ?_)
    · refine aw_lconst (b := 0) d_La_evaluated_17 rfl ?_
      refine aw_last (n := 0) (by omega) rfl rfl (by omega) d_La_evaluated_18 ?_
      refine aw_goto (tgt := 26) d_La_evaluated_19 rfl ?_
      refine aw_iconst d_La_evaluated_26 (in_c rfl) ?_
      exact aw_iret d_La_evaluated_27 rfl ⟨rfl, Or.inl ⟨z, μ1, hv, rfl, by rw [show z = 0 from by omega]; rfl⟩⟩
    · refine aw_lconst (b := 1) d_La_evaluated_13 rfl ?_
      refine aw_goto (tgt := 18) d_La_evaluated_14 rfl ?_
      refine aw_last (n := 0) (by omega) rfl rfl (by omega) d_La_evaluated_18 ?_
      refine aw_goto (tgt := 26) d_La_evaluated_19 rfl ?_
      refine aw_iconst d_La_evaluated_26 (in_c rfl) ?_
      exact aw_iret d_La_evaluated_27 rfl ⟨rfl, Or.inl ⟨z, μ1, hv, rfl, by rw [show z = 1 from by omega]; rfl⟩⟩
  · intro E n1 μ1 hv
    obtain ⟨rfl, h9⟩ := hs _ _ _ hv
    have h9 : E = 2 := by
      rcases h9 with ⟨z, h9, h10⟩ | h9
      · cases h9
      · cases h9; first | rfl | exact Or.inl rfl | exact Or.inr rfl | exact Or.inr (Or.inl rfl) | exact Or.inr (Or.inr rfl)
    rcases h9 with rfl
    · exact at_catch (E := 2) (i := 5) (pre := []) (z := ⟨0, 19, 22, 21⟩) (suf := []) rfl (by intro w hw; cases hw) rfl (by decide) cl_La_21 (by decide) (Nat.le_of_ble_eq_true rfl) (Or.inr ⟨d_La_evaluated_22, rfl⟩) d_La_evaluated_24 rfl d_La_evaluated_25 rfl (in_c rfl) ⟨rfl, Or.inr ⟨2, hv, rfl⟩⟩
set_option maxRecDepth 100000 in
theorem h_La_solve {d : Nat} (hd : 8 ≤ d) {p1 : Int} (hp1 : inR p1) {p2 : Int} (hp2 : inR p2) {p3 : Int} (hp3 : inR p3) {Q' : aQ → Nat → aM → Prop} (hM : AM G false (d - 1) 3 18 y_MC_solve [aP 0, aI p1, aI p2, aI p3] 94 μ Q') (hs : ∀ r n m, Q' r n m → n = 94 ∧ ((∃ z, r = .inl (some (aI z))) ∨ r = .inr 2 ∨ r = .inr 1)) : AM G false d 3 18 y_La_solve [aP 0, aI p1, aI p2, aI p3, aP 93] 94 μ (QL (fun E => if E = 2 then 1 else if E = 1 then 2 else 0) Q') := by
  refine am_of (n := 1) pf_La_solve (Nat.le_of_ble_eq_true rfl) (by intro v hv; simp only [List.mem_cons, List.not_mem_nil, or_false] at hv; rcases hv with rfl | rfl | rfl | rfl | rfl <;> first | trivial | assumption) rfl ?_
  refine aw_aload d_La_solve_0 rfl ?_
  refine aw_iconst d_La_solve_2 (in_c rfl) ?_
  refine aw_aload_n d_La_solve_3 rfl rfl ?_
  refine aw_iload_n d_La_solve_4 rfl rfl ?_
  refine aw_iload_n d_La_solve_5 rfl rfl ?_
  refine aw_iload_n d_La_solve_6 rfl rfl ?_
  refine aw_vx (as := [_, _, _]) rfl cv_La_49 (by omega) rfl rfl d_La_solve_7 (Nat.le_of_ble_eq_true rfl) (d' := d - 1) (by omega) (Nat.le_refl _) (Nat.le_refl _) hM ?_ ?_
  · intro v n1 μ1 hv
    obtain ⟨rfl, h9⟩ := hs _ _ _ hv
    obtain ⟨z, hz⟩ : ∃ z, v = some (aI z) := by
      rcases h9 with ⟨z, h9⟩ | h9 | h9
      · cases h9; exact ⟨z, rfl⟩
      · cases h9
      · cases h9
    subst hz
    clear h9
    refine aw_i2l d_La_solve_10 ?_
    refine aw_last (n := 0) (by omega) rfl rfl (by omega) d_La_solve_11 ?_
    refine aw_goto (tgt := 23) d_La_solve_12 rfl ?_
    refine aw_iconst d_La_solve_23 (in_c rfl) ?_
    exact aw_iret d_La_solve_24 rfl ⟨rfl, Or.inl ⟨z, μ1, hv, rfl, rfl⟩⟩
  · intro E n1 μ1 hv
    obtain ⟨rfl, h9⟩ := hs _ _ _ hv
    have h9 : E = 2 ∨ E = 1 := by
      rcases h9 with ⟨z, h9⟩ | h9 | h9
      · cases h9
      · cases h9; first | rfl | exact Or.inl rfl | exact Or.inr rfl | exact Or.inr (Or.inl rfl) | exact Or.inr (Or.inr rfl)
      · cases h9; first | rfl | exact Or.inl rfl | exact Or.inr rfl | exact Or.inr (Or.inl rfl) | exact Or.inr (Or.inr rfl)
    rcases h9 with rfl | rfl
    · exact at_catch (E := 2) (i := 5) (pre := []) (z := ⟨0, 12, 15, 21⟩) (suf := [⟨0, 12, 19, 15⟩]) rfl (by intro w hw; cases hw) rfl (by decide) cl_La_21 (by decide) (Nat.le_of_ble_eq_true rfl) (Or.inr ⟨d_La_solve_15, rfl⟩) d_La_solve_17 rfl d_La_solve_18 rfl (in_c rfl) ⟨rfl, Or.inr ⟨2, hv, rfl⟩⟩
    · exact at_catch (E := 1) (i := 5) (pre := [⟨0, 12, 15, 21⟩]) (z := ⟨0, 12, 19, 15⟩) (suf := []) rfl (by intro w hw; simp only [List.mem_cons, List.not_mem_nil, or_false] at hw; rcases hw with rfl; exact Or.inr ⟨by decide, 2, by decide, cl_La_21⟩) rfl (by decide) cl_La_15 (by decide) (Nat.le_of_ble_eq_true rfl) (Or.inr ⟨d_La_solve_19, rfl⟩) d_La_solve_21 rfl d_La_solve_22 rfl (in_c rfl) ⟨rfl, Or.inr ⟨1, hv, rfl⟩⟩
set_option maxRecDepth 100000 in
theorem h_La_suite {d : Nat} (hd : 8 ≤ d) {p1 : Int} (hp1 : inR p1) {p2 : Int} (hp2 : inR p2) {Q' : aQ → Nat → aM → Prop} (hM : AM G false (d - 1) 3 18 y_MC_suite [aP 0, aI p1, aI p2] 94 μ Q') (hs : ∀ r n m, Q' r n m → n = 94 ∧ ((∃ z, r = .inl (some (aI z))) ∨ r = .inr 2 ∨ r = .inr 1)) : AM G false d 3 18 y_La_suite [aP 0, aI p1, aI p2, aP 93] 94 μ (QL (fun E => if E = 2 then 1 else if E = 1 then 2 else 0) Q') := by
  refine am_of (n := 1) pf_La_suite (Nat.le_of_ble_eq_true rfl) (by intro v hv; simp only [List.mem_cons, List.not_mem_nil, or_false] at hv; rcases hv with rfl | rfl | rfl | rfl <;> first | trivial | assumption) rfl ?_
  refine aw_aload_n d_La_suite_0 rfl rfl ?_
  refine aw_iconst d_La_suite_1 (in_c rfl) ?_
  refine aw_aload_n d_La_suite_2 rfl rfl ?_
  refine aw_iload_n d_La_suite_3 rfl rfl ?_
  refine aw_iload_n d_La_suite_4 rfl rfl ?_
  refine aw_vx (as := [_, _]) rfl cv_La_52 (by omega) rfl rfl d_La_suite_5 (Nat.le_of_ble_eq_true rfl) (d' := d - 1) (by omega) (Nat.le_refl _) (Nat.le_refl _) hM ?_ ?_
  · intro v n1 μ1 hv
    obtain ⟨rfl, h9⟩ := hs _ _ _ hv
    obtain ⟨z, hz⟩ : ∃ z, v = some (aI z) := by
      rcases h9 with ⟨z, h9⟩ | h9 | h9
      · cases h9; exact ⟨z, rfl⟩
      · cases h9
      · cases h9
    subst hz
    clear h9
    refine aw_i2l d_La_suite_8 ?_
    refine aw_last (n := 0) (by omega) rfl rfl (by omega) d_La_suite_9 ?_
    refine aw_goto (tgt := 21) d_La_suite_10 rfl ?_
    refine aw_iconst d_La_suite_21 (in_c rfl) ?_
    exact aw_iret d_La_suite_22 rfl ⟨rfl, Or.inl ⟨z, μ1, hv, rfl, rfl⟩⟩
  · intro E n1 μ1 hv
    obtain ⟨rfl, h9⟩ := hs _ _ _ hv
    have h9 : E = 2 ∨ E = 1 := by
      rcases h9 with ⟨z, h9⟩ | h9 | h9
      · cases h9
      · cases h9; first | rfl | exact Or.inl rfl | exact Or.inr rfl | exact Or.inr (Or.inl rfl) | exact Or.inr (Or.inr rfl)
      · cases h9; first | rfl | exact Or.inl rfl | exact Or.inr rfl | exact Or.inr (Or.inl rfl) | exact Or.inr (Or.inr rfl)
    rcases h9 with rfl | rfl
    · exact at_catch (E := 2) (i := 4) (pre := []) (z := ⟨0, 10, 13, 21⟩) (suf := [⟨0, 10, 17, 15⟩]) rfl (by intro w hw; cases hw) rfl (by decide) cl_La_21 (by decide) (Nat.le_of_ble_eq_true rfl) (Or.inr ⟨d_La_suite_13, rfl⟩) d_La_suite_15 rfl d_La_suite_16 rfl (in_c rfl) ⟨rfl, Or.inr ⟨2, hv, rfl⟩⟩
    · exact at_catch (E := 1) (i := 4) (pre := [⟨0, 10, 13, 21⟩]) (z := ⟨0, 10, 17, 15⟩) (suf := []) rfl (by intro w hw; simp only [List.mem_cons, List.not_mem_nil, or_false] at hw; rcases hw with rfl; exact Or.inr ⟨by decide, 2, by decide, cl_La_21⟩) rfl (by decide) cl_La_15 (by decide) (Nat.le_of_ble_eq_true rfl) (Or.inr ⟨d_La_suite_17, rfl⟩) d_La_suite_19 rfl d_La_suite_20 rfl (in_c rfl) ⟨rfl, Or.inr ⟨1, hv, rfl⟩⟩
set_option maxRecDepth 100000 in
theorem h_La_least {d : Nat} (hd : 8 ≤ d) {p1 : Int} (hp1 : inR p1) {p2 : Int} (hp2 : inR p2) {Q' : aQ → Nat → aM → Prop} (hM : AM G false (d - 1) 3 18 y_MC_least [aP 0, aI p1, aI p2] 94 μ Q') (hs : ∀ r n m, Q' r n m → n = 94 ∧ ((∃ z, r = .inl (some (aI z))) ∨ r = .inr 2 ∨ r = .inr 1)) : AM G false d 3 18 y_La_least [aP 0, aI p1, aI p2, aP 93] 94 μ (QL (fun E => if E = 2 then 1 else if E = 1 then 2 else 0) Q') := by
  refine am_of (n := 1) pf_La_least (Nat.le_of_ble_eq_true rfl) (by intro v hv; simp only [List.mem_cons, List.not_mem_nil, or_false] at hv; rcases hv with rfl | rfl | rfl | rfl <;> first | trivial | assumption) rfl ?_
  refine aw_aload_n d_La_least_0 rfl rfl ?_
  refine aw_iconst d_La_least_1 (in_c rfl) ?_
  refine aw_aload_n d_La_least_2 rfl rfl ?_
  refine aw_iload_n d_La_least_3 rfl rfl ?_
  refine aw_iload_n d_La_least_4 rfl rfl ?_
  refine aw_vx (as := [_, _]) rfl cv_La_55 (by omega) rfl rfl d_La_least_5 (Nat.le_of_ble_eq_true rfl) (d' := d - 1) (by omega) (Nat.le_refl _) (Nat.le_refl _) hM ?_ ?_
  · intro v n1 μ1 hv
    obtain ⟨rfl, h9⟩ := hs _ _ _ hv
    obtain ⟨z, hz⟩ : ∃ z, v = some (aI z) := by
      rcases h9 with ⟨z, h9⟩ | h9 | h9
      · cases h9; exact ⟨z, rfl⟩
      · cases h9
      · cases h9
    subst hz
    clear h9
    refine aw_i2l d_La_least_8 ?_
    refine aw_last (n := 0) (by omega) rfl rfl (by omega) d_La_least_9 ?_
    refine aw_goto (tgt := 21) d_La_least_10 rfl ?_
    refine aw_iconst d_La_least_21 (in_c rfl) ?_
    exact aw_iret d_La_least_22 rfl ⟨rfl, Or.inl ⟨z, μ1, hv, rfl, rfl⟩⟩
  · intro E n1 μ1 hv
    obtain ⟨rfl, h9⟩ := hs _ _ _ hv
    have h9 : E = 2 ∨ E = 1 := by
      rcases h9 with ⟨z, h9⟩ | h9 | h9
      · cases h9
      · cases h9; first | rfl | exact Or.inl rfl | exact Or.inr rfl | exact Or.inr (Or.inl rfl) | exact Or.inr (Or.inr rfl)
      · cases h9; first | rfl | exact Or.inl rfl | exact Or.inr rfl | exact Or.inr (Or.inl rfl) | exact Or.inr (Or.inr rfl)
    rcases h9 with rfl | rfl
    · exact at_catch (E := 2) (i := 4) (pre := []) (z := ⟨0, 10, 13, 21⟩) (suf := [⟨0, 10, 17, 15⟩]) rfl (by intro w hw; cases hw) rfl (by decide) cl_La_21 (by decide) (Nat.le_of_ble_eq_true rfl) (Or.inr ⟨d_La_least_13, rfl⟩) d_La_least_15 rfl d_La_least_16 rfl (in_c rfl) ⟨rfl, Or.inr ⟨2, hv, rfl⟩⟩
    · exact at_catch (E := 1) (i := 4) (pre := [⟨0, 10, 13, 21⟩]) (z := ⟨0, 10, 17, 15⟩) (suf := []) rfl (by intro w hw; simp only [List.mem_cons, List.not_mem_nil, or_false] at hw; rcases hw with rfl; exact Or.inr ⟨by decide, 2, by decide, cl_La_21⟩) rfl (by decide) cl_La_15 (by decide) (Nat.le_of_ble_eq_true rfl) (Or.inr ⟨d_La_least_17, rfl⟩) d_La_least_19 rfl d_La_least_20 rfl (in_c rfl) ⟨rfl, Or.inr ⟨1, hv, rfl⟩⟩
set_option maxRecDepth 100000 in
theorem h_La_keep {d : Nat} (hd : 8 ≤ d) {p1 : Int} (hp1 : inR p1) {p2 : Int} (hp2 : inR p2) {p3 : Int} (hp3 : inR p3) {Q' : aQ → Nat → aM → Prop} (hM : AM G false (d - 1) 3 18 y_MC_keep [aP 0, aI p1, aI p2, aI p3] 94 μ Q') (hs : ∀ r n m, Q' r n m → n = 94 ∧ ((∃ z, r = .inl (some (aI z))) ∨ r = .inr 0 ∨ r = .inr 1)) : AM G false d 3 18 y_La_keep [aP 0, aI p1, aI p2, aI p3, aP 93] 94 μ (QL (fun E => if E = 0 then 1 else if E = 1 then 2 else 0) Q') := by
  refine am_of (n := 1) pf_La_keep (Nat.le_of_ble_eq_true rfl) (by intro v hv; simp only [List.mem_cons, List.not_mem_nil, or_false] at hv; rcases hv with rfl | rfl | rfl | rfl | rfl <;> first | trivial | assumption) rfl ?_
  refine aw_aload d_La_keep_0 rfl ?_
  refine aw_iconst d_La_keep_2 (in_c rfl) ?_
  refine aw_aload_n d_La_keep_3 rfl rfl ?_
  refine aw_iload_n d_La_keep_4 rfl rfl ?_
  refine aw_iload_n d_La_keep_5 rfl rfl ?_
  refine aw_iload_n d_La_keep_6 rfl rfl ?_
  refine aw_vx (as := [_, _, _]) rfl cv_La_58 (by omega) rfl rfl d_La_keep_7 (Nat.le_of_ble_eq_true rfl) (d' := d - 1) (by omega) (Nat.le_refl _) (Nat.le_refl _) hM ?_ ?_
  · intro v n1 μ1 hv
    obtain ⟨rfl, h9⟩ := hs _ _ _ hv
    obtain ⟨z, hz⟩ : ∃ z, v = some (aI z) := by
      rcases h9 with ⟨z, h9⟩ | h9 | h9
      · cases h9; exact ⟨z, rfl⟩
      · cases h9
      · cases h9
    subst hz
    clear h9
    refine aw_i2l d_La_keep_10 ?_
    refine aw_last (n := 0) (by omega) rfl rfl (by omega) d_La_keep_11 ?_
    refine aw_goto (tgt := 23) d_La_keep_12 rfl ?_
    refine aw_iconst d_La_keep_23 (in_c rfl) ?_
    exact aw_iret d_La_keep_24 rfl ⟨rfl, Or.inl ⟨z, μ1, hv, rfl, rfl⟩⟩
  · intro E n1 μ1 hv
    obtain ⟨rfl, h9⟩ := hs _ _ _ hv
    have h9 : E = 0 ∨ E = 1 := by
      rcases h9 with ⟨z, h9⟩ | h9 | h9
      · cases h9
      · cases h9; first | rfl | exact Or.inl rfl | exact Or.inr rfl | exact Or.inr (Or.inl rfl) | exact Or.inr (Or.inr rfl)
      · cases h9; first | rfl | exact Or.inl rfl | exact Or.inr rfl | exact Or.inr (Or.inl rfl) | exact Or.inr (Or.inr rfl)
    rcases h9 with rfl | rfl
    · exact at_catch (E := 0) (i := 5) (pre := []) (z := ⟨0, 12, 15, 13⟩) (suf := [⟨0, 12, 19, 15⟩]) rfl (by intro w hw; cases hw) rfl (by decide) cl_La_13 (by decide) (Nat.le_of_ble_eq_true rfl) (Or.inr ⟨d_La_keep_15, rfl⟩) d_La_keep_17 rfl d_La_keep_18 rfl (in_c rfl) ⟨rfl, Or.inr ⟨0, hv, rfl⟩⟩
    · exact at_catch (E := 1) (i := 5) (pre := [⟨0, 12, 15, 13⟩]) (z := ⟨0, 12, 19, 15⟩) (suf := []) rfl (by intro w hw; simp only [List.mem_cons, List.not_mem_nil, or_false] at hw; rcases hw with rfl; exact Or.inr ⟨by decide, 0, by decide, cl_La_13⟩) rfl (by decide) cl_La_15 (by decide) (Nat.le_of_ble_eq_true rfl) (Or.inr ⟨d_La_keep_19, rfl⟩) d_La_keep_21 rfl d_La_keep_22 rfl (in_c rfl) ⟨rfl, Or.inr ⟨1, hv, rfl⟩⟩
set_option maxRecDepth 100000 in
theorem h_La_covered {d : Nat} (hd : 8 ≤ d) {p1 : Int} (hp1 : inR p1) {p2 : Int} (hp2 : inR p2) {p3 : Int} (hp3 : inR p3) {Q' : aQ → Nat → aM → Prop} (hM : AM G false (d - 1) 3 18 y_MC_covered [aP 0, aI p1, aI p2, aI p3] 94 μ Q') (hs : ∀ r n m, Q' r n m → n = 94 ∧ ((∃ z, r = .inl (some (aI z)) ∧ (z = 0 ∨ z = 1)) ∨ r = .inr 2 ∨ r = .inr 1)) : AM G false d 3 18 y_La_covered [aP 0, aI p1, aI p2, aI p3, aP 93] 94 μ (QL (fun E => if E = 2 then 1 else if E = 1 then 2 else 0) Q') := by
  refine am_of (n := 1) pf_La_covered (Nat.le_of_ble_eq_true rfl) (by intro v hv; simp only [List.mem_cons, List.not_mem_nil, or_false] at hv; rcases hv with rfl | rfl | rfl | rfl | rfl <;> first | trivial | assumption) rfl ?_
  refine aw_aload d_La_covered_0 rfl ?_
  refine aw_iconst d_La_covered_2 (in_c rfl) ?_
  refine aw_aload_n d_La_covered_3 rfl rfl ?_
  refine aw_iload_n d_La_covered_4 rfl rfl ?_
  refine aw_iload_n d_La_covered_5 rfl rfl ?_
  refine aw_iload_n d_La_covered_6 rfl rfl ?_
  refine aw_vx (as := [_, _, _]) rfl cv_La_61 (by omega) rfl rfl d_La_covered_7 (Nat.le_of_ble_eq_true rfl) (d' := d - 1) (by omega) (Nat.le_refl _) (Nat.le_refl _) hM ?_ ?_
  · intro v n1 μ1 hv
    obtain ⟨rfl, h9⟩ := hs _ _ _ hv
    obtain ⟨z, hz, h10⟩ : ∃ z, v = some (aI z) ∧ (z = 0 ∨ z = 1) := by
      rcases h9 with ⟨z, h9, h10⟩ | h9 | h9
      · cases h9; exact ⟨z, rfl, h10⟩
      · cases h9
      · cases h9
    subst hz
    clear h9
    refine aw_if_eq (tgt := 17) d_La_covered_10 rfl (fun h10 => ?_) (fun h10 => ?_)
    · refine aw_lconst (b := 0) d_La_covered_17 rfl ?_
      refine aw_last (n := 0) (by omega) rfl rfl (by omega) d_La_covered_18 ?_
      refine aw_goto (tgt := 30) d_La_covered_19 rfl ?_
      refine aw_iconst d_La_covered_30 (in_c rfl) ?_
      exact aw_iret d_La_covered_31 rfl ⟨rfl, Or.inl ⟨z, μ1, hv, rfl, by rw [show z = 0 from by omega]; rfl⟩⟩
    · refine aw_lconst (b := 1) d_La_covered_13 rfl ?_
      refine aw_goto (tgt := 18) d_La_covered_14 rfl ?_
      refine aw_last (n := 0) (by omega) rfl rfl (by omega) d_La_covered_18 ?_
      refine aw_goto (tgt := 30) d_La_covered_19 rfl ?_
      refine aw_iconst d_La_covered_30 (in_c rfl) ?_
      exact aw_iret d_La_covered_31 rfl ⟨rfl, Or.inl ⟨z, μ1, hv, rfl, by rw [show z = 1 from by omega]; rfl⟩⟩
  · intro E n1 μ1 hv
    obtain ⟨rfl, h9⟩ := hs _ _ _ hv
    have h9 : E = 2 ∨ E = 1 := by
      rcases h9 with ⟨z, h9, h10⟩ | h9 | h9
      · cases h9
      · cases h9; first | rfl | exact Or.inl rfl | exact Or.inr rfl | exact Or.inr (Or.inl rfl) | exact Or.inr (Or.inr rfl)
      · cases h9; first | rfl | exact Or.inl rfl | exact Or.inr rfl | exact Or.inr (Or.inl rfl) | exact Or.inr (Or.inr rfl)
    rcases h9 with rfl | rfl
    · exact at_catch (E := 2) (i := 5) (pre := []) (z := ⟨0, 19, 22, 21⟩) (suf := [⟨0, 19, 26, 15⟩]) rfl (by intro w hw; cases hw) rfl (by decide) cl_La_21 (by decide) (Nat.le_of_ble_eq_true rfl) (Or.inr ⟨d_La_covered_22, rfl⟩) d_La_covered_24 rfl d_La_covered_25 rfl (in_c rfl) ⟨rfl, Or.inr ⟨2, hv, rfl⟩⟩
    · exact at_catch (E := 1) (i := 5) (pre := [⟨0, 19, 22, 21⟩]) (z := ⟨0, 19, 26, 15⟩) (suf := []) rfl (by intro w hw; simp only [List.mem_cons, List.not_mem_nil, or_false] at hw; rcases hw with rfl; exact Or.inr ⟨by decide, 2, by decide, cl_La_21⟩) rfl (by decide) cl_La_15 (by decide) (Nat.le_of_ble_eq_true rfl) (Or.inr ⟨d_La_covered_26, rfl⟩) d_La_covered_28 rfl d_La_covered_29 rfl (in_c rfl) ⟨rfl, Or.inr ⟨1, hv, rfl⟩⟩
set_option maxRecDepth 100000 in
theorem h_La_missing {d : Nat} (hd : 8 ≤ d) {p1 : Int} (hp1 : inR p1) {p2 : Int} (hp2 : inR p2) {Q' : aQ → Nat → aM → Prop} (hM : AM G false (d - 1) 3 18 y_MC_missing [aP 0, aI p1, aI p2] 94 μ Q') (hs : ∀ r n m, Q' r n m → n = 94 ∧ ((∃ z, r = .inl (some (aI z))) ∨ r = .inr 2 ∨ r = .inr 1)) : AM G false d 3 18 y_La_missing [aP 0, aI p1, aI p2, aP 93] 94 μ (QL (fun E => if E = 2 then 1 else if E = 1 then 2 else 0) Q') := by
  refine am_of (n := 1) pf_La_missing (Nat.le_of_ble_eq_true rfl) (by intro v hv; simp only [List.mem_cons, List.not_mem_nil, or_false] at hv; rcases hv with rfl | rfl | rfl | rfl <;> first | trivial | assumption) rfl ?_
  refine aw_aload_n d_La_missing_0 rfl rfl ?_
  refine aw_iconst d_La_missing_1 (in_c rfl) ?_
  refine aw_aload_n d_La_missing_2 rfl rfl ?_
  refine aw_iload_n d_La_missing_3 rfl rfl ?_
  refine aw_iload_n d_La_missing_4 rfl rfl ?_
  refine aw_vx (as := [_, _]) rfl cv_La_64 (by omega) rfl rfl d_La_missing_5 (Nat.le_of_ble_eq_true rfl) (d' := d - 1) (by omega) (Nat.le_refl _) (Nat.le_refl _) hM ?_ ?_
  · intro v n1 μ1 hv
    obtain ⟨rfl, h9⟩ := hs _ _ _ hv
    obtain ⟨z, hz⟩ : ∃ z, v = some (aI z) := by
      rcases h9 with ⟨z, h9⟩ | h9 | h9
      · cases h9; exact ⟨z, rfl⟩
      · cases h9
      · cases h9
    subst hz
    clear h9
    refine aw_i2l d_La_missing_8 ?_
    refine aw_last (n := 0) (by omega) rfl rfl (by omega) d_La_missing_9 ?_
    refine aw_goto (tgt := 21) d_La_missing_10 rfl ?_
    refine aw_iconst d_La_missing_21 (in_c rfl) ?_
    exact aw_iret d_La_missing_22 rfl ⟨rfl, Or.inl ⟨z, μ1, hv, rfl, rfl⟩⟩
  · intro E n1 μ1 hv
    obtain ⟨rfl, h9⟩ := hs _ _ _ hv
    have h9 : E = 2 ∨ E = 1 := by
      rcases h9 with ⟨z, h9⟩ | h9 | h9
      · cases h9
      · cases h9; first | rfl | exact Or.inl rfl | exact Or.inr rfl | exact Or.inr (Or.inl rfl) | exact Or.inr (Or.inr rfl)
      · cases h9; first | rfl | exact Or.inl rfl | exact Or.inr rfl | exact Or.inr (Or.inl rfl) | exact Or.inr (Or.inr rfl)
    rcases h9 with rfl | rfl
    · exact at_catch (E := 2) (i := 4) (pre := []) (z := ⟨0, 10, 13, 21⟩) (suf := [⟨0, 10, 17, 15⟩]) rfl (by intro w hw; cases hw) rfl (by decide) cl_La_21 (by decide) (Nat.le_of_ble_eq_true rfl) (Or.inr ⟨d_La_missing_13, rfl⟩) d_La_missing_15 rfl d_La_missing_16 rfl (in_c rfl) ⟨rfl, Or.inr ⟨2, hv, rfl⟩⟩
    · exact at_catch (E := 1) (i := 4) (pre := [⟨0, 10, 13, 21⟩]) (z := ⟨0, 10, 17, 15⟩) (suf := []) rfl (by intro w hw; simp only [List.mem_cons, List.not_mem_nil, or_false] at hw; rcases hw with rfl; exact Or.inr ⟨by decide, 2, by decide, cl_La_21⟩) rfl (by decide) cl_La_15 (by decide) (Nat.le_of_ble_eq_true rfl) (Or.inr ⟨d_La_missing_17, rfl⟩) d_La_missing_19 rfl d_La_missing_20 rfl (in_c rfl) ⟨rfl, Or.inr ⟨1, hv, rfl⟩⟩
end
