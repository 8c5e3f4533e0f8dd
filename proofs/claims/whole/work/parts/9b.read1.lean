/-! the class reads a letter -/
section
def RdP (t : Nat → Int) (n md v d p c : Nat) (μ : aM) : Option aV → Nat → aM → Prop := fun r n9 m => n9 = 94 ∧ ∃ z, r = some (aI z) ∧ FrT 0 μ m ∧ ((FrT c μ m ∧ RdOk t n md v d p c z m) ∨ RdF t n md d z m)
theorem FrT.z {c : Nat} {μ m : aM} (h : FrT c μ m) : FrT 0 μ m := ⟨h.1, fun b hb => absurd hb (by omega), h.2.2⟩
def atC (t : Nat → Int) (n p : Nat) : Int := if p < n then t p else 32
theorem at_eq {t : Nat → Int} {n md : Nat} {m : aM} (h : Rd t n md m) (p : Nat) : (if 0 ≤ (p : Int) ∧ (p : Int) < mI m 9 1 then mI m 10 (p : Int).toNat else 32) = atC t n p := by
  unfold atC
  rw [h.1]
  by_cases g : p < n
  · rw [if_pos ⟨by omega, by omega⟩, if_pos g, Int.toNat_natCast, h.2.2.1 p g]
  · rw [if_neg (by omega), if_neg g]
theorem atC_in {t : Nat → Int} {n md : Nat} {m : aM} (h : Rd t n md m) (p : Nat) : 0 ≤ atC t n p ∧ atC t n p < 65536 := by
  unfold atC
  by_cases g : p < n
  · rw [if_pos g, ← h.2.2.1 p g]; exact h.2.2.2 p
  · rw [if_neg g]; omega
theorem atC_lt {t : Nat → Int} {n p : Nat} (h : p < n) : atC t n p = t p := if_pos h
theorem atC_ge {t : Nat → Int} {n p : Nat} (h : ¬ p < n) : atC t n p = 32 := if_neg h
theorem or_256 {s l : Nat} (hs : s < 256) (hl : l < 8) : s ||| 2 ^ l < 256 := Nat.or_lt_two_pow (n := 8) hs (Nat.pow_lt_pow_right (by omega) hl)
variable {G : aG} {pg : Nat} {μ : aM}
set_option maxRecDepth 100000 in
theorem m_Tr_clear {d : Nat} (hd : 0 ≤ d)  : AM G false d 0 0 y_Tr_clear [aP 11] 94 μ (Qe none 94 (wI (wI μ 11 5 0) 11 6 0)) := by
  refine am_of (n := 0) pf_Tr_clear (Nat.le_of_ble_eq_true rfl) (by intro v hv; simp only [List.mem_cons, List.not_mem_nil, or_false] at hv; rcases hv with rfl <;> first | trivial | assumption | exact in_c rfl | exact bI_in _ | (show inR _; unfold inR; omega)) rfl ?_
  refine aw_aload_n d_Tr_clear_0 rfl rfl ?_
  refine aw_iconst d_Tr_clear_1 (in_c rfl) ?_
  refine aw_putI fd_Tr_count lk_Tr_28 (by omega) rfl d_Tr_clear_2 (Or.inl rfl) ?_
  refine aw_aload_n d_Tr_clear_5 rfl rfl ?_
  refine aw_iconst d_Tr_clear_6 (in_c rfl) ?_
  refine aw_putI fd_Tr_letters lk_Tr_32 (by omega) rfl d_Tr_clear_7 (Or.inl rfl) ?_
  exact aw_vret d_Tr_clear_10 rfl ⟨rfl, rfl, rfl⟩
set_option maxRecDepth 100000 in
theorem m_Tr_letters {d : Nat} (hd : 0 ≤ d)  : AM G false d 0 0 y_Tr_letters [aP 11] 94 μ (Qe (some (aI (mI μ 11 6))) 94 μ) := by
  refine am_of (n := 0) pf_Tr_letters (Nat.le_of_ble_eq_true rfl) (by intro v hv; simp only [List.mem_cons, List.not_mem_nil, or_false] at hv; rcases hv with rfl <;> first | trivial | assumption | exact in_c rfl | exact bI_in _ | (show inR _; unfold inR; omega)) rfl ?_
  refine aw_aload_n d_Tr_letters_0 rfl rfl ?_
  refine aw_getI fd_Tr_letters lk_Tr_32 (by omega) rfl d_Tr_letters_1 ?_
  exact aw_iret d_Tr_letters_4 rfl ⟨rfl, rfl, rfl⟩
set_option maxRecDepth 100000 in
theorem m_Tr_add {d : Nat} (hd : 0 ≤ d) (hR : ∀ k j, mR μ k j = R0 pg k j) {c : Nat} (hc : mI μ 11 5 = (c : Int)) (hc40 : c < 40) {j l r : Int} (hj : inR j) (hl : inR l) (hr : inR r) : AM G false d 0 0 y_Tr_add [aP 11, aI j, aI l, aI r] 94 μ (Qe (some (aI (c : Int))) 94 (adM μ c j l r)) := by
  refine am_of (n := 0) pf_Tr_add (Nat.le_of_ble_eq_true rfl) (by intro v hv; simp only [List.mem_cons, List.not_mem_nil, or_false] at hv; rcases hv with rfl | rfl | rfl | rfl <;> first | trivial | assumption | exact in_c rfl | exact bI_in _ | (show inR _; unfold inR; omega)) rfl ?_
  refine aw_aload_n d_Tr_add_0 rfl rfl ?_
  refine aw_getI fd_Tr_count lk_Tr_28 (by omega) rfl d_Tr_add_1 ?_
  refine aw_tv (v' := (c : Int)) (by exact hc) ?_
  refine aw_bipush (z := 40) d_Tr_add_4 (in_c rfl) rfl ?_
  refine aw_icmp_ne (tgt := 11) d_Tr_add_6 rfl (fun h6 => ?_) (fun h6 => absurd h6 (by omega))
  refine aw_aload_n d_Tr_add_11 rfl rfl ?_
  refine aw_getR fd_Tr_joints lk_Tr_9 (by omega) rfl d_Tr_add_12 (hR _ _) ?_
  refine aw_aload_n d_Tr_add_15 rfl rfl ?_
  refine aw_getI fd_Tr_count lk_Tr_28 (by omega) rfl d_Tr_add_16 ?_
  refine aw_tv (v' := (c : Int)) (by exact hc) ?_
  refine aw_iload_n d_Tr_add_19 rfl rfl ?_
  refine aw_iast (n := c) (by omega) rfl rfl (by omega) d_Tr_add_20 ?_
  refine aw_aload_n d_Tr_add_21 rfl rfl ?_
  refine aw_pc (pc' := 22) rfl ?_
  refine aw_getR fd_Tr_lefts lk_Tr_15 (by omega) rfl d_Tr_add_22 (hR _ _) ?_
  refine aw_aload_n d_Tr_add_25 rfl rfl ?_
  refine aw_getI fd_Tr_count lk_Tr_28 (by omega) rfl d_Tr_add_26 ?_
  refine aw_tv (v' := (c : Int)) (by exact hc) ?_
  refine aw_iload_n d_Tr_add_29 rfl rfl ?_
  refine aw_iast (n := c) (by omega) rfl rfl (by omega) d_Tr_add_30 ?_
  refine aw_aload_n d_Tr_add_31 rfl rfl ?_
  refine aw_getR fd_Tr_rights lk_Tr_18 (by omega) rfl d_Tr_add_32 (hR _ _) ?_
  refine aw_aload_n d_Tr_add_35 rfl rfl ?_
  refine aw_getI fd_Tr_count lk_Tr_28 (by omega) rfl d_Tr_add_36 ?_
  refine aw_tv (v' := (c : Int)) (by exact hc) ?_
  refine aw_iload_n d_Tr_add_39 rfl rfl ?_
  refine aw_iast (n := c) (by omega) rfl rfl (by omega) d_Tr_add_40 ?_
  refine aw_aload_n d_Tr_add_41 rfl rfl ?_
  refine aw_pc (pc' := 42) rfl ?_
  refine aw_dup d_Tr_add_42 rfl ?_
  refine aw_getI fd_Tr_count lk_Tr_28 (by omega) rfl d_Tr_add_43 ?_
  refine aw_tv (v' := (c : Int)) (by exact hc) ?_
  refine aw_iconst d_Tr_add_46 (in_c rfl) ?_
  refine aw_iadd d_Tr_add_47 (by unfold inR; omega) ?_
  refine aw_putI fd_Tr_count lk_Tr_28 (by omega) rfl d_Tr_add_48 (Or.inl rfl) ?_
  refine aw_aload_n d_Tr_add_51 rfl rfl ?_
  refine aw_getI fd_Tr_count lk_Tr_28 (by omega) rfl d_Tr_add_52 ?_
  refine aw_tv (v' := (c : Int) + 1) rfl ?_
  refine aw_iconst d_Tr_add_55 (in_c rfl) ?_
  refine aw_isub d_Tr_add_56 (by unfold inR; omega) ?_
  refine aw_tv (v' := (c : Int)) (by omega) ?_
  exact aw_iret d_Tr_add_57 rfl ⟨rfl, rfl, rfl⟩
set_option maxRecDepth 100000 in
theorem f_Tr_add {d : Nat} (hd : 0 ≤ d) (hR : ∀ k j, mR μ k j = R0 pg k j) {c : Nat} (hc : mI μ 11 5 = (c : Int)) (hc40 : c ≤ 40) {j l r : Int} (hj : inR j) (hl : inR l) (hr : inR r) : AM G false d 0 0 y_Tr_add [aP 11, aI j, aI l, aI r] 94 μ (Qn (fun o n9 m => n9 = 94 ∧ ∃ z, o = some (aI z) ∧ FrT c μ m ∧ (0 ≤ mI m 11 5 ∧ mI m 11 5 ≤ 40) ∧ (-1 ≤ z ∧ z < 40) ∧ mI m 17 3 = mI μ 17 3 ∧ mI m 17 4 = mI μ 17 4)) := by
  refine am_of (n := 0) pf_Tr_add (Nat.le_of_ble_eq_true rfl) (by intro v hv; simp only [List.mem_cons, List.not_mem_nil, or_false] at hv; rcases hv with rfl | rfl | rfl | rfl <;> first | trivial | assumption | exact in_c rfl | exact bI_in _ | (show inR _; unfold inR; omega)) rfl ?_
  refine aw_aload_n d_Tr_add_0 rfl rfl ?_
  refine aw_getI fd_Tr_count lk_Tr_28 (by omega) rfl d_Tr_add_1 ?_
  refine aw_tv (v' := (c : Int)) (by exact hc) ?_
  refine aw_bipush (z := 40) d_Tr_add_4 (in_c rfl) rfl ?_
  refine aw_icmp_ne (tgt := 11) d_Tr_add_6 rfl (fun h6 => ?_) (fun h6 => ?_)
  · refine aw_aload_n d_Tr_add_11 rfl rfl ?_
    refine aw_getR fd_Tr_joints lk_Tr_9 (by omega) rfl d_Tr_add_12 (hR _ _) ?_
    refine aw_aload_n d_Tr_add_15 rfl rfl ?_
    refine aw_getI fd_Tr_count lk_Tr_28 (by omega) rfl d_Tr_add_16 ?_
    refine aw_tv (v' := (c : Int)) (by exact hc) ?_
    refine aw_iload_n d_Tr_add_19 rfl rfl ?_
    refine aw_iast (n := c) (by omega) rfl rfl (by omega) d_Tr_add_20 ?_
    refine aw_aload_n d_Tr_add_21 rfl rfl ?_
    refine aw_getR fd_Tr_lefts lk_Tr_15 (by omega) rfl d_Tr_add_22 (hR _ _) ?_
    refine aw_aload_n d_Tr_add_25 rfl rfl ?_
    refine aw_getI fd_Tr_count lk_Tr_28 (by omega) rfl d_Tr_add_26 ?_
    refine aw_tv (v' := (c : Int)) (by exact hc) ?_
    refine aw_iload_n d_Tr_add_29 rfl rfl ?_
    refine aw_pc (pc' := 30) rfl ?_
    refine aw_iast (n := c) (by omega) rfl rfl (by omega) d_Tr_add_30 ?_
    refine aw_aload_n d_Tr_add_31 rfl rfl ?_
    refine aw_getR fd_Tr_rights lk_Tr_18 (by omega) rfl d_Tr_add_32 (hR _ _) ?_
    refine aw_aload_n d_Tr_add_35 rfl rfl ?_
    refine aw_getI fd_Tr_count lk_Tr_28 (by omega) rfl d_Tr_add_36 ?_
    refine aw_tv (v' := (c : Int)) (by exact hc) ?_
    refine aw_iload_n d_Tr_add_39 rfl rfl ?_
    refine aw_iast (n := c) (by omega) rfl rfl (by omega) d_Tr_add_40 ?_
    refine aw_aload_n d_Tr_add_41 rfl rfl ?_
    refine aw_dup d_Tr_add_42 rfl ?_
    refine aw_getI fd_Tr_count lk_Tr_28 (by omega) rfl d_Tr_add_43 ?_
    refine aw_tv (v' := (c : Int)) (by exact hc) ?_
    refine aw_iconst d_Tr_add_46 (in_c rfl) ?_
    refine aw_iadd d_Tr_add_47 (by unfold inR; omega) ?_
    refine aw_pc (pc' := 48) rfl ?_
    refine aw_putI fd_Tr_count lk_Tr_28 (by omega) rfl d_Tr_add_48 (Or.inl rfl) ?_
    refine aw_aload_n d_Tr_add_51 rfl rfl ?_
    refine aw_getI fd_Tr_count lk_Tr_28 (by omega) rfl d_Tr_add_52 ?_
    refine aw_tv (v' := (c : Int) + 1) rfl ?_
    refine aw_iconst d_Tr_add_55 (in_c rfl) ?_
    refine aw_isub d_Tr_add_56 (by unfold inR; omega) ?_
    refine aw_tv (v' := (c : Int)) (by omega) ?_
    exact aw_iret d_Tr_add_57 rfl ⟨rfl, c, rfl, FrT_ad (Nat.le_refl _) μ j l r, by rw [show mI (wI (wI (wI (wI μ 12 c j) 13 c l) 14 c r) 11 5 ((c : Int) + 1)) 11 5 = (c : Int) + 1 from (ad_new μ c j l r).2.2.2]; omega, by omega, (ad_fix μ c j l r).1, (ad_fix μ c j l r).2.1⟩
  · refine aw_iconst d_Tr_add_9 (in_c rfl) ?_
    exact aw_iret d_Tr_add_10 rfl ⟨rfl, -1, rfl, FrT.refl _ _, by rw [hc]; omega, by omega, rfl, rfl⟩
set_option maxRecDepth 100000 in
theorem m_Tr_addLeaf {d : Nat} (hd : 1 ≤ d) (hR : ∀ k j, mR μ k j = R0 pg k j) {c : Nat} (hc : mI μ 11 5 = (c : Int)) (hc40 : c < 40) {l s : Nat} (hl : l < 8) (hs : mI μ 11 6 = (s : Int)) (hs8 : s < 256)  : AM G false d 0 0 y_Tr_addLeaf [aP 11, aI (l : Int)] 94 μ (Qe (some (aI (c : Int))) 94 (adM (wI μ 11 6 ((s ||| 2 ^ l : Nat) : Int)) c 4 (l : Int) (-1))) := by
  refine am_of (n := 0) pf_Tr_addLeaf (Nat.le_of_ble_eq_true rfl) (by intro v hv; simp only [List.mem_cons, List.not_mem_nil, or_false] at hv; rcases hv with rfl | rfl <;> first | trivial | assumption | exact in_c rfl | exact bI_in _ | (show inR _; unfold inR; omega)) rfl ?_
  refine aw_aload_n d_Tr_addLeaf_0 rfl rfl ?_
  refine aw_dup d_Tr_addLeaf_1 rfl ?_
  refine aw_getI fd_Tr_letters lk_Tr_32 (by omega) rfl d_Tr_addLeaf_2 ?_
  refine aw_tv (v' := (s : Int)) hs ?_
  refine aw_iconst d_Tr_addLeaf_5 (in_c rfl) ?_
  refine aw_iload_n d_Tr_addLeaf_6 rfl rfl ?_
  refine aw_ishl (a := 1) (k0 := l) rfl rfl (by omega) (by have := Nat.pow_le_pow_right (n := 2) (by omega) (show l ≤ 7 by omega); omega) d_Tr_addLeaf_7 ?_
  refine aw_ior (a := s) (b := 1 * 2 ^ l) rfl rfl d_Tr_addLeaf_8 ?_
  refine aw_tv (v' := ((s ||| 2 ^ l : Nat) : Int)) (by rw [Nat.one_mul]) ?_
  refine aw_putI fd_Tr_letters lk_Tr_32 (by omega) rfl d_Tr_addLeaf_9 (Or.inl rfl) ?_
  refine aw_aload_n d_Tr_addLeaf_12 rfl rfl ?_
  refine aw_iconst d_Tr_addLeaf_13 (in_c rfl) ?_
  refine aw_iload_n d_Tr_addLeaf_14 rfl rfl ?_
  refine aw_pc (pc' := 15) rfl ?_
  refine aw_iconst d_Tr_addLeaf_15 (in_c rfl) ?_
  refine aw_ve (as := [_, _, _]) rfl cv_Tr_35 (by omega) rfl rfl d_Tr_addLeaf_16 (Nat.le_of_ble_eq_true rfl) (d' := d - 1) (by omega) (m_Tr_add (μ := wI μ 11 6 ((s ||| 2 ^ l : Nat) : Int)) (c := c) (by omega) (fun a b => hR a b) (by exact hc) hc40 (in_c rfl) (by unfold inR; omega) (in_c rfl)) ?_
  exact aw_iret d_Tr_addLeaf_19 rfl ⟨rfl, rfl, rfl⟩
set_option maxRecDepth 100000 in
theorem m_Re_isOneTooMany {d : Nat} (hd : 1 ≤ d) (hR : ∀ k j, mR μ k j = R0 pg k j) {l s : Nat} (hl : l < 8) (hs : mI μ 11 6 = (s : Int)) (hs8 : s < 256)  : AM G false d 0 0 y_Re_isOneTooMany [aP 17, aI (l : Int)] 94 μ (Qe (some (aI (bI (decide (6 < cnt 8 (s ||| 2 ^ l)))))) 94 μ) := by
  refine am_of (n := 0) pf_Re_isOneTooMany (Nat.le_of_ble_eq_true rfl) (by intro v hv; simp only [List.mem_cons, List.not_mem_nil, or_false] at hv; rcases hv with rfl | rfl <;> first | trivial | assumption | exact in_c rfl | exact bI_in _ | (show inR _; unfold inR; omega)) rfl ?_
  refine aw_aload_n d_Re_isOneTooMany_0 rfl rfl ?_
  refine aw_getR fd_Re_tree lk_Re_25 (by omega) rfl d_Re_isOneTooMany_1 (hR _ _) ?_
  refine aw_ve (as := []) rfl cv_Re_76 (by omega) rfl rfl d_Re_isOneTooMany_4 (Nat.le_of_ble_eq_true rfl) (d' := d - 1) (by omega) (m_Tr_letters (by omega)) ?_
  refine aw_tv (v' := (s : Int)) hs ?_
  refine aw_iconst d_Re_isOneTooMany_7 (in_c rfl) ?_
  refine aw_iload_n d_Re_isOneTooMany_8 rfl rfl ?_
  refine aw_ishl (a := 1) (k0 := l) rfl rfl (by omega) (by have := Nat.pow_le_pow_right (n := 2) (by omega) (show l ≤ 7 by omega); omega) d_Re_isOneTooMany_9 ?_
  refine aw_ior (a := s) (b := 1 * 2 ^ l) rfl rfl d_Re_isOneTooMany_10 ?_
  refine aw_tv (v' := ((s ||| 2 ^ l : Nat) : Int)) (by rw [Nat.one_mul]) ?_
  refine aw_se (as := [_]) rfl cs_Re_79 d_Re_isOneTooMany_11 (Nat.le_of_ble_eq_true rfl) (d' := d - 1) (by omega) (m_JI_bitCount (by omega) (or_256 hs8 hl)) ?_
  refine aw_bipush (z := 6) d_Re_isOneTooMany_14 (in_c rfl) rfl ?_
  refine aw_icmp_le (tgt := 23) d_Re_isOneTooMany_16 rfl (fun h16 => ?_) (fun h16 => ?_)
  · refine aw_iconst d_Re_isOneTooMany_23 (in_c rfl) ?_
    refine aw_tv (v' := bI (decide (6 < cnt 8 (s ||| 2 ^ l)))) (by rw [decide_eq_false (show ¬ 6 < cnt 8 (s ||| 2 ^ l) by omega)]; rfl) ?_
    exact aw_zret d_Re_isOneTooMany_24 rfl (bI_nr _) ⟨rfl, rfl, rfl⟩
  · refine aw_iconst d_Re_isOneTooMany_19 (in_c rfl) ?_
    refine aw_tv (v' := bI (decide (6 < cnt 8 (s ||| 2 ^ l)))) (by rw [decide_eq_true (show 6 < cnt 8 (s ||| 2 ^ l) by omega)]; rfl) ?_
    refine aw_goto (tgt := 24) d_Re_isOneTooMany_20 rfl ?_
    exact aw_zret d_Re_isOneTooMany_24 rfl (bI_nr _) ⟨rfl, rfl, rfl⟩
set_option maxRecDepth 100000 in
theorem m_Re_readLetter {d : Nat} (hd : 4 ≤ d) (hR : ∀ k j, mR μ k j = R0 pg k j) {t : Nat → Int} {n md : Nat} (hn40 : n ≤ 40) (hmd : md ≤ 8) (hRd : Rd t n md μ) {p e0 s c : Nat} (hS : RdS t md μ p e0 s c) (hp : p ≤ n) (h33 : p = n ∨ (¬ t p = 33 ∧ ¬ t p = 40)) : AM G false d 0 0 y_Re_readLetter [aP 17] 94 μ (Qn (RdP t n md 3 e0 p c μ)) := by
  refine am_of (n := 1) pf_Re_readLetter (Nat.le_of_ble_eq_true rfl) (by intro v hv; simp only [List.mem_cons, List.not_mem_nil, or_false] at hv; rcases hv with rfl <;> first | trivial | assumption | exact in_c rfl | exact bI_in _ | (show inR _; unfold inR; omega)) rfl ?_
  obtain ⟨hS1, hS2, hS3, hS4, hS5, hS6⟩ := hS
  have hin := au_in hmd hS6
  have hin1 : 1 ≤ e0 := hin.1
  have hin2 : e0 ≤ 6 := hin.2.1
  have hin3 : s < 256 := hin.2.2.1
  have hch := atC_in hRd p
  refine aw_aload_n d_Re_readLetter_0 rfl rfl ?_
  refine aw_getR fd_Re_text lk_Re_21 (by omega) rfl d_Re_readLetter_1 (hR _ _) ?_
  refine aw_aload_n d_Re_readLetter_4 rfl rfl ?_
  refine aw_getI fd_Re_place lk_Re_15 (by omega) rfl d_Re_readLetter_5 ?_
  refine aw_tv (v' := (p : Int)) hS1 ?_
  refine aw_ve (as := [_]) rfl cv_Re_48 (by omega) rfl rfl d_Re_readLetter_8 (Nat.le_of_ble_eq_true rfl) (d' := d - 1) (by omega) (m_Li_at (k := 9) (by omega) (by omega) rfl rfl (hR _ _) (by unfold inR; omega) (by rw [hRd.1]; omega) hRd.2.2.2) ?_
  refine aw_tv (v' := atC t n p) (at_eq hRd p) ?_
  refine aw_bipush (z := 65) d_Re_readLetter_11 (in_c rfl) rfl ?_
  refine aw_isub d_Re_readLetter_13 (by unfold inR; omega) ?_
  refine aw_istore_n (lst' := [_, _]) d_Re_readLetter_14 rfl (Nat.le_of_ble_eq_true rfl) rfl ?_
  refine aw_iload_n d_Re_readLetter_15 rfl rfl ?_
  refine aw_if_lt (tgt := 35) d_Re_readLetter_16 rfl (fun h16 => ?_) (fun h16 => ?_)
  · refine aw_aload_n d_Re_readLetter_35 rfl rfl ?_
    refine aw_aload_n d_Re_readLetter_36 rfl rfl ?_
    refine aw_getI fd_Re_place lk_Re_15 (by omega) rfl d_Re_readLetter_37 ?_
    refine aw_tv (v' := (p : Int)) hS1 ?_
    refine aw_putI fd_Re_fault lk_Re_18 (by omega) rfl d_Re_readLetter_40 (Or.inl rfl) ?_
    refine aw_iconst d_Re_readLetter_43 (in_c rfl) ?_
    exact aw_iret d_Re_readLetter_44 rfl ⟨rfl, -1, rfl, FrT_w μ _ (Or.inl ⟨rfl, Or.inr rfl⟩), Or.inr ⟨p, flt_let hS6 hp h33 ((Nat.lt_or_ge p n).elim (fun g => Or.inr (by have := atC_lt (t := t) g; exact fun z => by have := z.1.1; omega)) (fun g => Or.inl (by omega))), by rw [mI_wI, if_pos ⟨rfl, rfl⟩], by rw [mI_wI, if_neg (by omega), hS1]; omega, by rw [mI_wI, if_neg (by omega), hS3]; omega, by omega⟩⟩
  · refine aw_iload_n d_Re_readLetter_19 rfl rfl ?_
    refine aw_aload_n d_Re_readLetter_20 rfl rfl ?_
    refine aw_getI fd_Re_known lk_Re_9 (by omega) rfl d_Re_readLetter_21 ?_
    refine aw_tv (v' := (md : Int)) hRd.2.1 ?_
    refine aw_icmp_ge (tgt := 35) d_Re_readLetter_24 rfl (fun h24 => ?_) (fun h24 => ?_)
    · refine aw_aload_n d_Re_readLetter_35 rfl rfl ?_
      refine aw_aload_n d_Re_readLetter_36 rfl rfl ?_
      refine aw_getI fd_Re_place lk_Re_15 (by omega) rfl d_Re_readLetter_37 ?_
      refine aw_tv (v' := (p : Int)) hS1 ?_
      refine aw_putI fd_Re_fault lk_Re_18 (by omega) rfl d_Re_readLetter_40 (Or.inl rfl) ?_
      refine aw_iconst d_Re_readLetter_43 (in_c rfl) ?_
      exact aw_iret d_Re_readLetter_44 rfl ⟨rfl, -1, rfl, FrT_w μ _ (Or.inl ⟨rfl, Or.inr rfl⟩), Or.inr ⟨p, flt_let hS6 hp h33 ((Nat.lt_or_ge p n).elim (fun g => Or.inr (by have := atC_lt (t := t) g; exact fun z => by have := z.1.2; omega)) (fun g => Or.inl (by omega))), by rw [mI_wI, if_pos ⟨rfl, rfl⟩], by rw [mI_wI, if_neg (by omega), hS1]; omega, by rw [mI_wI, if_neg (by omega), hS3]; omega, by omega⟩⟩
    · refine aw_aload_n d_Re_readLetter_27 rfl rfl ?_
      refine aw_iload_n d_Re_readLetter_28 rfl rfl ?_
      obtain ⟨l, hl0⟩ : ∃ l : Nat, atC t n p - 65 = (l : Int) := ⟨(atC t n p - 65).toNat, by omega⟩
      refine aw_tv (v' := (l : Int)) hl0 ?_
      refine aw_ve (as := [_]) rfl cv_Re_69 (by omega) rfl rfl d_Re_readLetter_29 (Nat.le_of_ble_eq_true rfl) (d' := d - 1) (by omega) (m_Re_isOneTooMany (by omega) hR (by omega) hS4 hin3) ?_
      refine aw_if_eq (tgt := 45) d_Re_readLetter_32 rfl (fun h32 => ?_) (fun h32 => ?_)
      · replace h32 := bz h32
        refine aw_aload_n d_Re_readLetter_45 rfl rfl ?_
        have hpn : p < n := Decidable.byContradiction (fun g => by have := atC_ge (t := t) g; omega)
        have hat := atC_lt (t := t) hpn
        have hlt : isLt md (t p) := ⟨by omega, by omega⟩
        have hmo : more md (t p) s = s ||| 2 ^ l := by unfold more; rw [if_pos hlt, show (t p - 65).toNat = l by omega]
        have hcn : cnt 31 (s ||| 2 ^ l) ≤ 6 := by rw [cnt_31_8 (or_256 hin3 (by omega))]; have := of_decide_eq_false h32; omega
        have hau : au t md (p + 1) = some (false, e0, s ||| 2 ^ l) := by rw [au_step hS6, aus_let (fun z => by have := z.1; omega) hlt (by rw [hmo]; exact hcn), hmo]
        refine aw_dup d_Re_readLetter_46 rfl ?_
        refine aw_getI fd_Re_place lk_Re_15 (by omega) rfl d_Re_readLetter_47 ?_
        refine aw_tv (v' := (p : Int)) hS1 ?_
        refine aw_iconst d_Re_readLetter_50 (in_c rfl) ?_
        refine aw_iadd d_Re_readLetter_51 (by unfold inR; omega) ?_
        refine aw_putI fd_Re_place lk_Re_15 (by omega) rfl d_Re_readLetter_52 (Or.inl rfl) ?_
        refine aw_aload_n d_Re_readLetter_55 rfl rfl ?_
        refine aw_getR fd_Re_tree lk_Re_25 (by omega) rfl d_Re_readLetter_56 (hR _ _) ?_
        refine aw_iload_n d_Re_readLetter_59 rfl rfl ?_
        refine aw_tv (v' := (l : Int)) hl0 ?_
        refine aw_ve (as := [_]) rfl cv_Re_73 (by omega) rfl rfl d_Re_readLetter_60 (Nat.le_of_ble_eq_true rfl) (d' := d - 1) (by omega) (m_Tr_addLeaf (μ := (wI μ 17 3 ((p : Int) + 1))) (c := c) (l := l) (s := s) (by omega) (fun a b => hR a b) (by exact hS3) (by omega) (by omega) (by exact hS4) hin3) ?_
        have hFc : FrT c μ (adM (wI (wI μ 17 3 ((p : Int) + 1)) 11 6 ((s ||| 2 ^ l : Nat) : Int)) c 4 (l : Int) (-1)) := ((FrT_w μ _ (Or.inl ⟨rfl, Or.inl rfl⟩)).trans (FrT_w _ _ (Or.inr ⟨rfl, Or.inr rfl⟩)) (Nat.le_refl _)).trans (FrT_ad (Nat.le_refl c) _ _ _ _) (Nat.le_refl _)
        exact aw_iret d_Re_readLetter_63 rfl ⟨rfl, c, rfl, hFc.z, Or.inl ⟨hFc, p + 1, c, s ||| 2 ^ l, 1, by omega, by omega, rfl, (ad_fix _ _ _ _ _).1.trans (by rw [mI_wI, if_neg (by omega), mI_wI, if_pos ⟨rfl, rfl⟩]; omega), (ad_fix _ _ _ _ _).2.1.trans hS2, (ad_new _ _ _ _ _).2.2.2.trans (by omega), (ad_fix _ _ _ _ _).2.2.trans (by rw [mI_wI, if_pos ⟨rfl, rfl⟩]), hau, Or.inr (Or.inr (Or.inr (Or.inr ⟨rfl, rfl, rfl, (ad_new _ _ _ _ _).1, by omega, by omega, (ad_new _ _ _ _ _).2.1.trans (by omega)⟩))), fun u hu1 hu2 => by omega⟩⟩
      · replace h32 := bn h32
        refine aw_aload_n d_Re_readLetter_35 rfl rfl ?_
        refine aw_aload_n d_Re_readLetter_36 rfl rfl ?_
        refine aw_getI fd_Re_place lk_Re_15 (by omega) rfl d_Re_readLetter_37 ?_
        refine aw_tv (v' := (p : Int)) hS1 ?_
        refine aw_putI fd_Re_fault lk_Re_18 (by omega) rfl d_Re_readLetter_40 (Or.inl rfl) ?_
        refine aw_iconst d_Re_readLetter_43 (in_c rfl) ?_
        exact aw_iret d_Re_readLetter_44 rfl ⟨rfl, -1, rfl, FrT_w μ _ (Or.inl ⟨rfl, Or.inr rfl⟩), Or.inr ⟨p, flt_let hS6 hp h33 ((Nat.lt_or_ge p n).elim (fun g => Or.inr (by have := atC_lt (t := t) g; exact fun z => by have h9 := z.2; rw [show more md (t p) s = s ||| 2 ^ l from by unfold more; rw [if_pos z.1, show (t p - 65).toNat = l by omega], cnt_31_8 (or_256 hin3 (by omega))] at h9; have := of_decide_eq_true h32; omega)) (fun g => Or.inl (by omega))), by rw [mI_wI, if_pos ⟨rfl, rfl⟩], by rw [mI_wI, if_neg (by omega), hS1]; omega, by rw [mI_wI, if_neg (by omega), hS3]; omega, by omega⟩⟩
end
