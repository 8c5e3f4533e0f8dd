/-! suite: a word more -/
section
/-- the class's suite with a word more, if it isn't in it -/
def suA (μ : aM) (c w : Nat) : aM := if (mL μ 59 2).getLsbD w = true ∨ 12 ≤ c then μ else wL (wI (wI μ 60 c (w : Int)) 59 1 ((c : Int) + 1)) 59 2 (mL μ 59 2 ||| ((1 : BitVec 64) <<< w))
def moA (μ : aM) (s w : Nat) : aM := if anyB (fun j => decide (mI μ 89 j = (w : Int))) s = true then μ else wI (wI μ 89 s (w : Int)) 67 28 ((s : Int) + 1)
/-- a word of the reference's suite -/
def oX (μ : aM) (j : Nat) : Nat := (mI μ 89 j).toNat
def oSh (μ : aM) (i k c : Nat) (q : Int) (n : Nat) : Bool := anyB (fun r => anyB (fun j => oW μ i k c q (oX μ r) (oX μ j)) r) n
variable {G : aG} {pg : Nat} {μ : aM}
set_option maxRecDepth 100000 in
theorem m_Su_add {d : Nat} (hd : 1 ≤ d) (hR : ∀ k j, mR μ k j = R0 pg k j) {w c : Nat} (hw : w < 64) (hc : mI μ 59 1 = (c : Int)) (hc12 : c ≤ 12) : AM G false d 0 0 y_Su_add [aP 59, aI (w : Int)] 94 μ (Qe none 94 (suA μ c w)) := by
  refine am_of (n := 0) pf_Su_add (Nat.le_of_ble_eq_true rfl) (by intro v hv; simp only [List.mem_cons, List.not_mem_nil, or_false] at hv; rcases hv with rfl | rfl <;> first | trivial | assumption | exact in_c rfl | exact bI_in _ | (show inR _; unfold inR; omega)) rfl ?_
  refine aw_aload_n d_Su_add_0 rfl rfl ?_
  refine aw_getL fd_Su_set lk_Su_19 (by omega) rfl d_Su_add_1 ?_
  refine aw_iload_n d_Su_add_4 rfl rfl ?_
  refine aw_se (as := [_, _]) rfl cs_Su_41 d_Su_add_5 (Nat.le_of_ble_eq_true rfl) (d' := d - 1) (by omega) (m_MC_contains (by omega) hw) ?_
  refine aw_if_ne (tgt := 55) d_Su_add_8 rfl (fun h8 => ?_) (fun h8 => ?_)
  · replace h8 := ite_n h8
    exact aw_vret d_Su_add_55 rfl ⟨rfl, rfl, by unfold suA; rw [if_pos (by exact Or.inl h8)]⟩
  · replace h8 := ite_z h8
    refine aw_aload_n d_Su_add_11 rfl rfl ?_
    refine aw_getI fd_Su_count lk_Su_15 (by omega) rfl d_Su_add_12 ?_
    refine aw_tv (v' := (c : Int)) hc ?_
    refine aw_aload_n d_Su_add_15 rfl rfl ?_
    refine aw_getR fd_Su_words lk_Su_9 (by omega) rfl d_Su_add_16 (hR _ _) ?_
    refine aw_alen (by omega) rfl (by decide) rfl d_Su_add_19 (in_c rfl) ?_
    refine aw_icmp_ge (tgt := 55) d_Su_add_20 rfl (fun h20 => ?_) (fun h20 => ?_)
    · exact aw_vret d_Su_add_55 rfl ⟨rfl, rfl, by unfold suA; rw [if_pos (by right; omega)]⟩
    · refine aw_aload_n d_Su_add_23 rfl rfl ?_
      refine aw_getR fd_Su_words lk_Su_9 (by omega) rfl d_Su_add_24 (hR _ _) ?_
      refine aw_aload_n d_Su_add_27 rfl rfl ?_
      refine aw_getI fd_Su_count lk_Su_15 (by omega) rfl d_Su_add_28 ?_
      refine aw_tv (v' := (c : Int)) hc ?_
      refine aw_iload_n d_Su_add_31 rfl rfl ?_
      refine aw_iast (n := c) (by omega) rfl rfl (by omega) d_Su_add_32 ?_
      refine aw_aload_n d_Su_add_33 rfl rfl ?_
      refine aw_dup d_Su_add_34 rfl ?_
      refine aw_getI fd_Su_count lk_Su_15 (by omega) rfl d_Su_add_35 ?_
      refine aw_tv (v' := (c : Int)) (by rw [mI_wI, if_neg (by omega)]; exact hc) ?_
      refine aw_iconst d_Su_add_38 (in_c rfl) ?_
      refine aw_iadd d_Su_add_39 (by unfold inR; omega) ?_
      refine aw_pc (pc' := 40) rfl ?_
      refine aw_putI fd_Su_count lk_Su_15 (by omega) rfl d_Su_add_40 (Or.inl rfl) ?_
      refine aw_aload_n d_Su_add_43 rfl rfl ?_
      refine aw_dup d_Su_add_44 rfl ?_
      refine aw_getL fd_Su_set lk_Su_19 (by omega) rfl d_Su_add_45 ?_
      refine aw_lconst (b := 1) d_Su_add_48 rfl ?_
      refine aw_iload_n d_Su_add_49 rfl rfl ?_
      refine aw_lshl (k0 := w) rfl hw d_Su_add_50 ?_
      refine aw_lor d_Su_add_51 ?_
      refine aw_putL fd_Su_set lk_Su_19 (by omega) rfl d_Su_add_52 (Or.inl rfl) ?_
      exact aw_vret d_Su_add_55 rfl ⟨rfl, rfl, by unfold suA; rw [if_neg (by intro z; rcases z with z | z; exact h8 z; omega)]; rfl⟩
set_option maxRecDepth 100000 in
theorem m_Mo_include {d : Nat} (hd : 0 ≤ d) (hR : ∀ k j, mR μ k j = R0 pg k j) {w s : Nat} (hw : w < 64) (hs : mI μ 67 28 = (s : Int)) (hs12 : s < 12) : AM G false d 0 0 y_Mo_include [aP 67, aI (w : Int)] 94 μ (Qe none 94 (moA μ s w)) := by
  refine am_of (n := 2) pf_Mo_include (Nat.le_of_ble_eq_true rfl) (by intro v hv; simp only [List.mem_cons, List.not_mem_nil, or_false] at hv; rcases hv with rfl | rfl <;> first | trivial | assumption | exact in_c rfl | exact bI_in _ | (show inR _; unfold inR; omega)) rfl ?_
  have key : ∀ (m : Nat) (j : Nat), s - j = m → j ≤ s → AW G false y_Mo_include d 0 0 (Qe none 94 (moA μ s w)) 4 [some (aP 67), some (aI (w : Int)), some (aI (bI (anyB (fun j => decide (mI μ 89 j = (w : Int))) j))), some (aI (j : Int))] [] 94 μ := by
    intro m
    induction m using Nat.strongRecOn with | _ m ih =>
    intro j hm hj
    refine aw_iload_n d_Mo_include_4 rfl rfl ?_
    refine aw_aload_n d_Mo_include_5 rfl rfl ?_
    refine aw_getI fd_Mo_suiteSize lk_Mo_198 (by omega) rfl d_Mo_include_6 ?_
    refine aw_tv (v' := (s : Int)) hs ?_
    refine aw_icmp_ge (tgt := 38) d_Mo_include_9 rfl (fun h9 => ?_) (fun h9 => ?_)
    · refine aw_iload_n d_Mo_include_38 rfl rfl ?_
      refine aw_if_ne (tgt := 62) d_Mo_include_39 rfl (fun h39 => ?_) (fun h39 => ?_)
      · replace h39 := bn h39
        exact aw_vret d_Mo_include_62 rfl ⟨rfl, rfl, by unfold moA; rw [if_pos (by rw [show s = j by omega]; exact h39)]⟩
      · replace h39 := bz h39
        refine aw_aload_n d_Mo_include_42 rfl rfl ?_
        refine aw_getR fd_Mo_suite lk_Mo_74 (by omega) rfl d_Mo_include_43 (hR _ _) ?_
        refine aw_aload_n d_Mo_include_46 rfl rfl ?_
        refine aw_getI fd_Mo_suiteSize lk_Mo_198 (by omega) rfl d_Mo_include_47 ?_
        refine aw_tv (v' := (s : Int)) hs ?_
        refine aw_iload_n d_Mo_include_50 rfl rfl ?_
        refine aw_iast (n := s) (by omega) rfl rfl (by omega) d_Mo_include_51 ?_
        refine aw_aload_n d_Mo_include_52 rfl rfl ?_
        refine aw_dup d_Mo_include_53 rfl ?_
        refine aw_getI fd_Mo_suiteSize lk_Mo_198 (by omega) rfl d_Mo_include_54 ?_
        refine aw_tv (v' := (s : Int)) (by rw [mI_wI, if_neg (by omega)]; exact hs) ?_
        refine aw_iconst d_Mo_include_57 (in_c rfl) ?_
        refine aw_iadd d_Mo_include_58 (by unfold inR; omega) ?_
        refine aw_pc (pc' := 59) rfl ?_
        refine aw_putI fd_Mo_suiteSize lk_Mo_198 (by omega) rfl d_Mo_include_59 (Or.inl rfl) ?_
        exact aw_vret d_Mo_include_62 rfl ⟨rfl, rfl, by unfold moA; rw [if_neg (by rw [show s = j by omega, h39]; decide)]⟩
    · refine aw_iload_n d_Mo_include_12 rfl rfl ?_
      refine aw_if_ne (tgt := 26) d_Mo_include_13 rfl (fun h13 => ?_) (fun h13 => ?_)
      · replace h13 := bn h13
        refine aw_iconst d_Mo_include_26 (in_c rfl) ?_
        refine aw_tv (v' := bI (anyB (fun j => decide (mI μ 89 j = (w : Int))) (j + 1))) (by simp [anyB, bI, h13]) ?_
        refine aw_goto (tgt := 31) d_Mo_include_27 rfl ?_
        refine aw_istore_n (lst' := [_, _, _, _]) d_Mo_include_31 rfl (Nat.le_of_ble_eq_true rfl) rfl ?_
        refine aw_iinc (lst' := [_, _, _, some (aI ((j + 1 : Nat) : Int))]) d_Mo_include_32 (Nat.le_of_ble_eq_true rfl) rfl (by unfold inR; omega) rfl ?_
        refine aw_goto (tgt := 4) d_Mo_include_35 rfl ?_
        exact ih (s - (j + 1)) (by omega) (j + 1) rfl (by omega)
      · replace h13 := bz h13
        refine aw_aload_n d_Mo_include_16 rfl rfl ?_
        refine aw_getR fd_Mo_suite lk_Mo_74 (by omega) rfl d_Mo_include_17 (hR _ _) ?_
        refine aw_iload_n d_Mo_include_20 rfl rfl ?_
        refine aw_iald (n := j) (by omega) rfl rfl (by omega) d_Mo_include_21 ?_
        refine aw_iload_n d_Mo_include_22 rfl rfl ?_
        refine aw_icmp_ne (tgt := 30) d_Mo_include_23 rfl (fun h23 => ?_) (fun h23 => ?_)
        · refine aw_iconst d_Mo_include_30 (in_c rfl) ?_
          refine aw_tv (v' := bI (anyB (fun j => decide (mI μ 89 j = (w : Int))) (j + 1))) (by simp [anyB, bI, h13, h23]) ?_
          refine aw_istore_n (lst' := [_, _, _, _]) d_Mo_include_31 rfl (Nat.le_of_ble_eq_true rfl) rfl ?_
          refine aw_iinc (lst' := [_, _, _, some (aI ((j + 1 : Nat) : Int))]) d_Mo_include_32 (Nat.le_of_ble_eq_true rfl) rfl (by unfold inR; omega) rfl ?_
          refine aw_goto (tgt := 4) d_Mo_include_35 rfl ?_
          exact ih (s - (j + 1)) (by omega) (j + 1) rfl (by omega)
        · refine aw_iconst d_Mo_include_26 (in_c rfl) ?_
          refine aw_tv (v' := bI (anyB (fun j => decide (mI μ 89 j = (w : Int))) (j + 1))) (by simp [anyB, bI, h13, h23]) ?_
          refine aw_goto (tgt := 31) d_Mo_include_27 rfl ?_
          refine aw_istore_n (lst' := [_, _, _, _]) d_Mo_include_31 rfl (Nat.le_of_ble_eq_true rfl) rfl ?_
          refine aw_iinc (lst' := [_, _, _, some (aI ((j + 1 : Nat) : Int))]) d_Mo_include_32 (Nat.le_of_ble_eq_true rfl) rfl (by unfold inR; omega) rfl ?_
          refine aw_goto (tgt := 4) d_Mo_include_35 rfl ?_
          exact ih (s - (j + 1)) (by omega) (j + 1) rfl (by omega)
  refine aw_iconst d_Mo_include_0 (in_c rfl) ?_
  refine aw_istore_n (lst' := [_, _, _, _]) d_Mo_include_1 rfl (Nat.le_of_ble_eq_true rfl) rfl ?_
  refine aw_iconst d_Mo_include_2 (in_c rfl) ?_
  refine aw_istore_n (lst' := [_, _, _, _]) d_Mo_include_3 rfl (Nat.le_of_ble_eq_true rfl) rfl ?_
  exact key (s - 0) 0 rfl (Nat.zero_le _)
set_option maxRecDepth 100000 in
theorem m_Mo_isShown {d : Nat} (hd : 2 ≤ d) {i : Nat} (h4 : i < 4) {k : Nat} (hk : mI μ 78 i = (k : Int)) (h6 : k ≤ 6) {c : Nat} {q : Int} (hc : c < k) (hq0 : 0 ≤ q) (hq2 : q ≤ 2) (hse : ∀ j, j < 256 → 0 ≤ mI μ 83 j ∧ mI μ 83 j < 64) (hu : ∀ j, j < 6 → 0 ≤ mI μ 79 (6 * i + j) ∧ mI μ 79 (6 * i + j) < 8) {n : Nat} (hn : mI μ 67 28 = (n : Int)) (hn12 : n ≤ 12) (hws : ∀ j, j < n → 0 ≤ mI μ 89 j ∧ mI μ 89 j < 64) (hR : ∀ k j, mR μ k j = R0 pg k j)  : AM G false d 0 0 y_Mo_isShown [aP 67, aI (i : Int), aI (c : Int), aI q] 94 μ (Qe (some (aI (bI (oSh μ i k c q n)))) 94 μ) := by
  refine am_of (n := 3) pf_Mo_isShown (Nat.le_of_ble_eq_true rfl) (by intro v hv; simp only [List.mem_cons, List.not_mem_nil, or_false] at hv; rcases hv with rfl | rfl | rfl | rfl <;> first | trivial | assumption | exact in_c rfl | exact bI_in _ | (show inR _; unfold inR; omega)) rfl ?_
  have key : ∀ (m : Nat) (r : Nat) (o6 : Option aV), n - r = m → r ≤ n → AW G false y_Mo_isShown d 0 0 (Qe (some (aI (bI (oSh μ i k c q n)))) 94 μ) 6 [some (aP 67), some (aI (i : Int)), some (aI (c : Int)), some (aI q), some (aI (bI (oSh μ i k c q r))), some (aI (r : Int)), o6] [] 94 μ := by
    intro m
    induction m using Nat.strongRecOn with | _ m ih =>
    intro r o6 hm hr
    have inn : ∀ (m2 : Nat) (j : Nat), r - j = m2 → (r < n ∧ j ≤ r) → AW G false y_Mo_isShown d 0 0 (Qe (some (aI (bI (oSh μ i k c q n)))) 94 μ) 18 [some (aP 67), some (aI (i : Int)), some (aI (c : Int)), some (aI q), some (aI (bI (oSh μ i k c q r || anyB (fun j => oW μ i k c q (oX μ r) (oX μ j)) j))), some (aI (r : Int)), some (aI (j : Int))] [] 94 μ := by
      intro m2
      induction m2 using Nat.strongRecOn with | _ m2 ih2 =>
      intro j hm2 hj
      refine aw_iload d_Mo_isShown_18 rfl ?_
      refine aw_iload d_Mo_isShown_20 rfl ?_
      refine aw_icmp_ge (tgt := 67) d_Mo_isShown_22 rfl (fun h22 => ?_) (fun h22 => ?_)
      · refine aw_lc (lst' := [_, _, _, _, some (aI (bI (oSh μ i k c q (r + 1)))), _, _]) (by rw [show j = r by omega]; rfl) ?_
        refine aw_iinc (lst' := [_, _, _, _, _, some (aI ((r + 1 : Nat) : Int)), _]) d_Mo_isShown_67 (Nat.le_of_ble_eq_true rfl) rfl (by unfold inR; omega) rfl ?_
        refine aw_goto (tgt := 6) d_Mo_isShown_70 rfl ?_
        exact ih (n - (r + 1)) (by omega) (r + 1) _ rfl (by omega)
      · refine aw_iload d_Mo_isShown_25 rfl ?_
        refine aw_if_ne (tgt := 54) d_Mo_isShown_27 rfl (fun h27 => ?_) (fun h27 => ?_)
        · replace h27 := bn h27
          refine aw_iconst d_Mo_isShown_54 (in_c rfl) ?_
          refine aw_tv (v' := bI (oSh μ i k c q r || anyB (fun j => oW μ i k c q (oX μ r) (oX μ j)) (j + 1))) (by rw [anyB, ← Bool.or_assoc, h27]; rfl) ?_
          refine aw_goto (tgt := 59) d_Mo_isShown_55 rfl ?_
          refine aw_istore (lst' := [_, _, _, _, _, _, _]) d_Mo_isShown_59 (Nat.le_of_ble_eq_true rfl) rfl ?_
          refine aw_iinc (lst' := [_, _, _, _, _, _, some (aI ((j + 1 : Nat) : Int))]) d_Mo_isShown_61 (Nat.le_of_ble_eq_true rfl) rfl (by unfold inR; omega) rfl ?_
          refine aw_goto (tgt := 18) d_Mo_isShown_64 rfl ?_
          exact ih2 (r - (j + 1)) (by omega) (j + 1) rfl ⟨hj.1, by omega⟩
        · replace h27 := bz h27
          refine aw_aload_n d_Mo_isShown_30 rfl rfl ?_
          refine aw_iload_n d_Mo_isShown_31 rfl rfl ?_
          refine aw_iload_n d_Mo_isShown_32 rfl rfl ?_
          refine aw_iload_n d_Mo_isShown_33 rfl rfl ?_
          refine aw_aload_n d_Mo_isShown_34 rfl rfl ?_
          refine aw_getR fd_Mo_suite lk_Mo_74 (by omega) rfl d_Mo_isShown_35 (hR _ _) ?_
          refine aw_iload d_Mo_isShown_38 rfl ?_
          refine aw_iald (n := r) (by omega) rfl rfl (by omega) d_Mo_isShown_40 ?_
          have hwr := hws r (by omega)
          have hwj := hws j (by omega)
          refine aw_tv (v' := ((oX μ r : Nat) : Int)) (by unfold oX; omega) ?_
          refine aw_aload_n d_Mo_isShown_41 rfl rfl ?_
          refine aw_getR fd_Mo_suite lk_Mo_74 (by omega) rfl d_Mo_isShown_42 (hR _ _) ?_
          refine aw_iload d_Mo_isShown_45 rfl ?_
          refine aw_pc (pc' := 47) rfl ?_
          refine aw_iald (n := j) (by omega) rfl rfl (by omega) d_Mo_isShown_47 ?_
          refine aw_tv (v' := ((oX μ j : Nat) : Int)) (by unfold oX; omega) ?_
          refine aw_ve (as := [_, _, _, _, _]) rfl cv_Mo_187 (by omega) rfl rfl d_Mo_isShown_48 (Nat.le_of_ble_eq_true rfl) (d' := d - 1) (by omega) (m_Mo_shows (by omega) h4 hk h6 hc hq0 hq2 (by unfold oX; omega) (by unfold oX; omega) hse hu hR) ?_
          refine aw_if_eq (tgt := 58) d_Mo_isShown_51 rfl (fun h51 => ?_) (fun h51 => ?_)
          · replace h51 := bz h51
            refine aw_iconst d_Mo_isShown_58 (in_c rfl) ?_
            refine aw_tv (v' := bI (oSh μ i k c q r || anyB (fun j => oW μ i k c q (oX μ r) (oX μ j)) (j + 1))) (by rw [anyB, ← Bool.or_assoc, h27]; simp only [h51]; rfl) ?_
            refine aw_istore (lst' := [_, _, _, _, _, _, _]) d_Mo_isShown_59 (Nat.le_of_ble_eq_true rfl) rfl ?_
            refine aw_iinc (lst' := [_, _, _, _, _, _, some (aI ((j + 1 : Nat) : Int))]) d_Mo_isShown_61 (Nat.le_of_ble_eq_true rfl) rfl (by unfold inR; omega) rfl ?_
            refine aw_goto (tgt := 18) d_Mo_isShown_64 rfl ?_
            exact ih2 (r - (j + 1)) (by omega) (j + 1) rfl ⟨hj.1, by omega⟩
          · replace h51 := bn h51
            refine aw_iconst d_Mo_isShown_54 (in_c rfl) ?_
            refine aw_tv (v' := bI (oSh μ i k c q r || anyB (fun j => oW μ i k c q (oX μ r) (oX μ j)) (j + 1))) (by rw [anyB, ← Bool.or_assoc, h27]; simp only [h51]; rfl) ?_
            refine aw_goto (tgt := 59) d_Mo_isShown_55 rfl ?_
            refine aw_istore (lst' := [_, _, _, _, _, _, _]) d_Mo_isShown_59 (Nat.le_of_ble_eq_true rfl) rfl ?_
            refine aw_iinc (lst' := [_, _, _, _, _, _, some (aI ((j + 1 : Nat) : Int))]) d_Mo_isShown_61 (Nat.le_of_ble_eq_true rfl) rfl (by unfold inR; omega) rfl ?_
            refine aw_goto (tgt := 18) d_Mo_isShown_64 rfl ?_
            exact ih2 (r - (j + 1)) (by omega) (j + 1) rfl ⟨hj.1, by omega⟩
    refine aw_iload d_Mo_isShown_6 rfl ?_
    refine aw_aload_n d_Mo_isShown_8 rfl rfl ?_
    refine aw_getI fd_Mo_suiteSize lk_Mo_198 (by omega) rfl d_Mo_isShown_9 ?_
    refine aw_tv (v' := (n : Int)) hn ?_
    refine aw_icmp_ge (tgt := 73) d_Mo_isShown_12 rfl (fun h12 => ?_) (fun h12 => ?_)
    · refine aw_iload d_Mo_isShown_73 rfl ?_
      exact aw_zret d_Mo_isShown_75 rfl (bI_nr _) ⟨by rw [show r = n by omega], rfl, rfl⟩
    · refine aw_iconst d_Mo_isShown_15 (in_c rfl) ?_
      refine aw_istore (lst' := [_, _, _, _, _, _, _]) d_Mo_isShown_16 (Nat.le_of_ble_eq_true rfl) rfl ?_
      refine aw_lc (lst' := [some (aP 67), some (aI (i : Int)), some (aI (c : Int)), some (aI q), some (aI (bI (oSh μ i k c q r || anyB (fun j => oW μ i k c q (oX μ r) (oX μ j)) 0))), some (aI (r : Int)), some (aI ((0 : Nat) : Int))]) (by rw [anyB, Bool.or_false]; rfl) ?_
      exact inn (r - 0) 0 rfl ⟨by omega, Nat.zero_le _⟩
  refine aw_iconst d_Mo_isShown_0 (in_c rfl) ?_
  refine aw_istore (lst' := [_, _, _, _, _, _, _]) d_Mo_isShown_1 (Nat.le_of_ble_eq_true rfl) rfl ?_
  refine aw_iconst d_Mo_isShown_3 (in_c rfl) ?_
  refine aw_istore (lst' := [_, _, _, _, _, _, _]) d_Mo_isShown_4 (Nat.le_of_ble_eq_true rfl) rfl ?_
  exact key (n - 0) 0 none rfl (Nat.zero_le _)
end
