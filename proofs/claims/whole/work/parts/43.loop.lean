/-! the loop of the law, its start -/
section
variable {G : aG} {μ : aM}
set_option maxRecDepth 100000 in
theorem law_sw {d bc bs : Nat} {iN : Nat} (hi : iN + 5 ≤ gn G) {o5 o6 : Option aV} {Q : aQ → Nat → aM → Prop} (k0 : gx G iN % 32 = 0 → AW G false y_La_law d bc bs Q 136 [some (aP 1000), some (aP 0), some (aP 67), some (aP 93), some (aI (iN : Int)), o5, o6] [] 94 μ) (k1 : gx G iN % 32 = 1 → AW G false y_La_law d bc bs Q 204 [some (aP 1000), some (aP 0), some (aP 67), some (aP 93), some (aI (iN : Int)), o5, o6] [] 94 μ) (k2 : gx G iN % 32 = 2 → AW G false y_La_law d bc bs Q 296 [some (aP 1000), some (aP 0), some (aP 67), some (aP 93), some (aI (iN : Int)), o5, o6] [] 94 μ) (k3 : gx G iN % 32 = 3 → AW G false y_La_law d bc bs Q 323 [some (aP 1000), some (aP 0), some (aP 67), some (aP 93), some (aI (iN : Int)), o5, o6] [] 94 μ) (k4 : gx G iN % 32 = 4 → AW G false y_La_law d bc bs Q 336 [some (aP 1000), some (aP 0), some (aP 67), some (aP 93), some (aI (iN : Int)), o5, o6] [] 94 μ) (k5 : gx G iN % 32 = 5 → AW G false y_La_law d bc bs Q 408 [some (aP 1000), some (aP 0), some (aP 67), some (aP 93), some (aI (iN : Int)), o5, o6] [] 94 μ) (k6 : gx G iN % 32 = 6 → AW G false y_La_law d bc bs Q 464 [some (aP 1000), some (aP 0), some (aP 67), some (aP 93), some (aI (iN : Int)), o5, o6] [] 94 μ) (k7 : gx G iN % 32 = 7 → AW G false y_La_law d bc bs Q 520 [some (aP 1000), some (aP 0), some (aP 67), some (aP 93), some (aI (iN : Int)), o5, o6] [] 94 μ) (k8 : gx G iN % 32 = 8 → AW G false y_La_law d bc bs Q 576 [some (aP 1000), some (aP 0), some (aP 67), some (aP 93), some (aI (iN : Int)), o5, o6] [] 94 μ) (k9 : gx G iN % 32 = 9 → AW G false y_La_law d bc bs Q 656 [some (aP 1000), some (aP 0), some (aP 67), some (aP 93), some (aI (iN : Int)), o5, o6] [] 94 μ) (k10 : gx G iN % 32 = 10 → AW G false y_La_law d bc bs Q 731 [some (aP 1000), some (aP 0), some (aP 67), some (aP 93), some (aI (iN : Int)), o5, o6] [] 94 μ) (k11 : gx G iN % 32 = 11 → AW G false y_La_law d bc bs Q 818 [some (aP 1000), some (aP 0), some (aP 67), some (aP 93), some (aI (iN : Int)), o5, o6] [] 94 μ) (k12 : gx G iN % 32 = 12 → AW G false y_La_law d bc bs Q 898 [some (aP 1000), some (aP 0), some (aP 67), some (aP 93), some (aI (iN : Int)), o5, o6] [] 94 μ) (k13 : gx G iN % 32 = 13 → AW G false y_La_law d bc bs Q 966 [some (aP 1000), some (aP 0), some (aP 67), some (aP 93), some (aI (iN : Int)), o5, o6] [] 94 μ) (k14 : gx G iN % 32 = 14 → AW G false y_La_law d bc bs Q 991 [some (aP 1000), some (aP 0), some (aP 67), some (aP 93), some (aI (iN : Int)), o5, o6] [] 94 μ) (k15 : gx G iN % 32 = 15 → AW G false y_La_law d bc bs Q 1059 [some (aP 1000), some (aP 0), some (aP 67), some (aP 93), some (aI (iN : Int)), o5, o6] [] 94 μ) (k16 : gx G iN % 32 = 16 → AW G false y_La_law d bc bs Q 1139 [some (aP 1000), some (aP 0), some (aP 67), some (aP 93), some (aI (iN : Int)), o5, o6] [] 94 μ) (k17 : gx G iN % 32 = 17 → AW G false y_La_law d bc bs Q 1152 [some (aP 1000), some (aP 0), some (aP 67), some (aP 93), some (aI (iN : Int)), o5, o6] [] 94 μ) (k18 : gx G iN % 32 = 18 → AW G false y_La_law d bc bs Q 1239 [some (aP 1000), some (aP 0), some (aP 67), some (aP 93), some (aI (iN : Int)), o5, o6] [] 94 μ) (k19 : gx G iN % 32 = 19 → AW G false y_La_law d bc bs Q 1307 [some (aP 1000), some (aP 0), some (aP 67), some (aP 93), some (aI (iN : Int)), o5, o6] [] 94 μ) (k20 : gx G iN % 32 = 20 → AW G false y_La_law d bc bs Q 1320 [some (aP 1000), some (aP 0), some (aP 67), some (aP 93), some (aI (iN : Int)), o5, o6] [] 94 μ) (ko : 20 < gx G iN % 32 → AW G false y_La_law d bc bs Q 1345 [some (aP 1000), some (aP 0), some (aP 67), some (aP 93), some (aI (iN : Int)), o5, o6] [] 94 μ) : AW G false y_La_law d bc bs Q 32 [some (aP 1000), some (aP 0), some (aP 67), some (aP 93), some (aI (iN : Int)), o5, o6] [] 94 μ := by
  refine aw_aload_n d_La_law_32 rfl rfl ?_
  refine aw_iload d_La_law_33 rfl ?_
  refine aw_sld (n := iN) rfl (by omega) d_La_law_35 ?_
  refine aw_bipush (z := 31) d_La_law_36 (in_c rfl) rfl ?_
  refine aw_imask (k0 := 5) rfl (by omega) d_La_law_38 ?_
  refine aw_tv (v' := gx G iN % 32) rfl ?_
  have h0 : 0 ≤ gx G iN % 32 := Int.emod_nonneg _ (by decide)
  by_cases h20 : 20 < gx G iN % 32
  · exact aw_tabO (tgt := 1345) d_La_law_39 (Or.inr h20) rfl (ko h20)
  · have hcs : gx G iN % 32 = 0 ∨ gx G iN % 32 = 1 ∨ gx G iN % 32 = 2 ∨ gx G iN % 32 = 3 ∨ gx G iN % 32 = 4 ∨ gx G iN % 32 = 5 ∨ gx G iN % 32 = 6 ∨ gx G iN % 32 = 7 ∨ gx G iN % 32 = 8 ∨ gx G iN % 32 = 9 ∨ gx G iN % 32 = 10 ∨ gx G iN % 32 = 11 ∨ gx G iN % 32 = 12 ∨ gx G iN % 32 = 13 ∨ gx G iN % 32 = 14 ∨ gx G iN % 32 = 15 ∨ gx G iN % 32 = 16 ∨ gx G iN % 32 = 17 ∨ gx G iN % 32 = 18 ∨ gx G iN % 32 = 19 ∨ gx G iN % 32 = 20 := by omega
    rcases hcs with h | h | h | h | h | h | h | h | h | h | h | h | h | h | h | h | h | h | h | h | h
    · exact aw_tv (v' := 0) h (aw_tabI (tgt := 136) d_La_law_39 (by decide) (by decide) rfl rfl (k0 h))
    · exact aw_tv (v' := 1) h (aw_tabI (tgt := 204) d_La_law_39 (by decide) (by decide) rfl rfl (k1 h))
    · exact aw_tv (v' := 2) h (aw_tabI (tgt := 296) d_La_law_39 (by decide) (by decide) rfl rfl (k2 h))
    · exact aw_tv (v' := 3) h (aw_tabI (tgt := 323) d_La_law_39 (by decide) (by decide) rfl rfl (k3 h))
    · exact aw_tv (v' := 4) h (aw_tabI (tgt := 336) d_La_law_39 (by decide) (by decide) rfl rfl (k4 h))
    · exact aw_tv (v' := 5) h (aw_tabI (tgt := 408) d_La_law_39 (by decide) (by decide) rfl rfl (k5 h))
    · exact aw_tv (v' := 6) h (aw_tabI (tgt := 464) d_La_law_39 (by decide) (by decide) rfl rfl (k6 h))
    · exact aw_tv (v' := 7) h (aw_tabI (tgt := 520) d_La_law_39 (by decide) (by decide) rfl rfl (k7 h))
    · exact aw_tv (v' := 8) h (aw_tabI (tgt := 576) d_La_law_39 (by decide) (by decide) rfl rfl (k8 h))
    · exact aw_tv (v' := 9) h (aw_tabI (tgt := 656) d_La_law_39 (by decide) (by decide) rfl rfl (k9 h))
    · exact aw_tv (v' := 10) h (aw_tabI (tgt := 731) d_La_law_39 (by decide) (by decide) rfl rfl (k10 h))
    · exact aw_tv (v' := 11) h (aw_tabI (tgt := 818) d_La_law_39 (by decide) (by decide) rfl rfl (k11 h))
    · exact aw_tv (v' := 12) h (aw_tabI (tgt := 898) d_La_law_39 (by decide) (by decide) rfl rfl (k12 h))
    · exact aw_tv (v' := 13) h (aw_tabI (tgt := 966) d_La_law_39 (by decide) (by decide) rfl rfl (k13 h))
    · exact aw_tv (v' := 14) h (aw_tabI (tgt := 991) d_La_law_39 (by decide) (by decide) rfl rfl (k14 h))
    · exact aw_tv (v' := 15) h (aw_tabI (tgt := 1059) d_La_law_39 (by decide) (by decide) rfl rfl (k15 h))
    · exact aw_tv (v' := 16) h (aw_tabI (tgt := 1139) d_La_law_39 (by decide) (by decide) rfl rfl (k16 h))
    · exact aw_tv (v' := 17) h (aw_tabI (tgt := 1152) d_La_law_39 (by decide) (by decide) rfl rfl (k17 h))
    · exact aw_tv (v' := 18) h (aw_tabI (tgt := 1239) d_La_law_39 (by decide) (by decide) rfl rfl (k18 h))
    · exact aw_tv (v' := 19) h (aw_tabI (tgt := 1307) d_La_law_39 (by decide) (by decide) rfl rfl (k19 h))
    · exact aw_tv (v' := 20) h (aw_tabI (tgt := 1320) d_La_law_39 (by decide) (by decide) rfl rfl (k20 h))
theorem law_loop {d : Nat} {Q : aQ → Nat → aM → Prop} {K : Nat → aM → Prop} (h2 : gn G ≤ 2560) (hQ : ∀ μ, Q (.inl (some (aI 1))) 94 μ)
    (hbody : ∀ (iN : Nat) (μ : aM) (bc bs : Nat) (o5 o6 : Option aV), iN + 5 ≤ gn G → K iN μ → 3 ≤ bc → 18 ≤ bs → (∀ o5 o6 m', K (iN + 5) m' → AW G false y_La_law d (bc - 3) (bs - 18) Q 1345 [some (aP 1000), some (aP 0), some (aP 67), some (aP 93), some (aI (iN : Int)), o5, o6] [] 94 m') → AW G false y_La_law d bc bs Q 32 [some (aP 1000), some (aP 0), some (aP 67), some (aP 93), some (aI (iN : Int)), o5, o6] [] 94 μ) :
    ∀ (n iN : Nat) (μ : aM) (bc bs : Nat) (o5 o6 : Option aV), gn G < iN + 5 * n + 5 → iN ≤ 2560 → 3 * n ≤ bc → 18 * n ≤ bs → K iN μ → AW G false y_La_law d bc bs Q 23 [some (aP 1000), some (aP 0), some (aP 67), some (aP 93), some (aI (iN : Int)), o5, o6] [] 94 μ := by
  intro n
  induction n with
  | zero =>
    intro iN μ bc bs o5 o6 hn hi hbc hbs hK
    refine aw_iload d_La_law_23 rfl ?_
    refine aw_aload_n d_La_law_25 rfl rfl ?_
    refine aw_slen d_La_law_26 ?_
    refine aw_iconst d_La_law_27 (in_c rfl) ?_
    refine aw_isub d_La_law_28 (by unfold inR; omega) ?_
    refine aw_icmp_gt (tgt := 1351) d_La_law_29 rfl (fun h => ?_) (fun h => absurd (by omega) h)
    refine aw_iconst d_La_law_1351 (in_c rfl) ?_
    exact aw_zret d_La_law_1352 rfl rfl (hQ _)
  | succ n ih =>
    intro iN μ bc bs o5 o6 hn hi hbc hbs hK
    refine aw_iload d_La_law_23 rfl ?_
    refine aw_aload_n d_La_law_25 rfl rfl ?_
    refine aw_slen d_La_law_26 ?_
    refine aw_iconst d_La_law_27 (in_c rfl) ?_
    refine aw_isub d_La_law_28 (by unfold inR; omega) ?_
    refine aw_icmp_gt (tgt := 1351) d_La_law_29 rfl (fun h => ?_) (fun h => ?_)
    · refine aw_iconst d_La_law_1351 (in_c rfl) ?_
      exact aw_zret d_La_law_1352 rfl rfl (hQ _)
    · refine aw_pc (pc' := 32) rfl ?_
      refine hbody iN μ bc bs o5 o6 (by omega) hK (by omega) (by omega) ?_
      intro o5 o6 m' hK'
      refine aw_iinc (lst' := [_, _, _, _, _, _, _]) d_La_law_1345 (Nat.le_of_ble_eq_true rfl) rfl (by unfold inR; omega) rfl ?_
      refine aw_goto (tgt := 23) d_La_law_1348 rfl ?_
      have h9 := ih (iN + 5) m' (bc - 3) (bs - 18) o5 o6 (by omega) (by omega) (by omega) (by omega) hK'
      have e : ((iN + 5 : Nat) : Int) = (iN : Int) + 5 := by omega
      rw [e] at h9
      exact h9
def mz : aM := (fun _ _ => 0, fun _ _ => 0, fun _ _ => none)
def mF : aM := ini_Mo_init_67 (ini_MC_init_0 mz)
theorem zs_z (n : Nat) : Zs n mz := fun k _ j => ⟨rfl, rfl, rfl⟩
theorem zs_C : Zs 67 (ini_MC_init_0 mz) := (by simp only [ini_In_init_1, ini_Co_init_4, ini_Li_init_9, ini_Tr_init_11, ini_Re_init_17, ini_Wa_init_18, ini_Li_init_28, ini_De_init_27, ini_Li_init_36, ini_De_init_35, ini_Li_init_44, ini_De_init_43, ini_Li_init_52, ini_De_init_51, ini_Su_init_59, ini_Fe_init_61, ini_Rc_init_63, ini_Li_init_65, ini_MC_init_0, ini_Mo_init_67]; (repeat (first | refine Zs.wR ?_ (by omega) | refine Zs.wI ?_ (by omega) | refine Zs.wL ?_ (by omega) | refine Zs.mn ?_ (by omega))); exact zs_z _)
theorem zs_F : Zs 93 mF := by
  unfold mF
  exact (by simp only [ini_In_init_1, ini_Co_init_4, ini_Li_init_9, ini_Tr_init_11, ini_Re_init_17, ini_Wa_init_18, ini_Li_init_28, ini_De_init_27, ini_Li_init_36, ini_De_init_35, ini_Li_init_44, ini_De_init_43, ini_Li_init_52, ini_De_init_51, ini_Su_init_59, ini_Fe_init_61, ini_Rc_init_63, ini_Li_init_65, ini_MC_init_0, ini_Mo_init_67]; (repeat (first | refine Zs.wR ?_ (by omega) | refine Zs.wI ?_ (by omega) | refine Zs.wL ?_ (by omega) | refine Zs.mn ?_ (by omega))); exact zs_z _)
def Bd (μ : aM) : Prop := ∀ a j, (94 ≤ a ∨ 40 ≤ j) → mR μ a j = none
theorem Bd.wR {μ : aM} {k0 j0 : Nat} {v : Option Nat} (h : Bd μ) (hk : k0 < 94) (hj : j0 < 40) : Bd (wR μ k0 j0 v) := fun a j hh => by
  show (if a = k0 ∧ j = j0 then v else μ.2.2 a j) = none
  rw [if_neg (fun q => by omega)]
  exact h a j hh
theorem Bd.wI {μ : aM} {k0 j0 : Nat} {v : Int} (h : Bd μ) : Bd (wI μ k0 j0 v) := h
theorem Bd.wL {μ : aM} {k0 j0 : Nat} {v : BitVec 64} (h : Bd μ) : Bd (wL μ k0 j0 v) := h
theorem Bd.mn {μ : aM} {k0 : Nat} (h : Bd μ) (hk : k0 < 94) : Bd (mnR μ k0) := fun a j hh => by
  show (if a = k0 then (if j < 6 then some (k0 + 1 + j) else none) else μ.2.2 a j) = none
  by_cases e : a = k0
  · rw [if_pos e, if_neg (by omega)]
  · rw [if_neg e]; exact h a j hh
theorem bd_F : Bd mF := by
  unfold mF
  simp only [ini_In_init_1, ini_Co_init_4, ini_Li_init_9, ini_Tr_init_11, ini_Re_init_17, ini_Wa_init_18, ini_Li_init_28, ini_De_init_27, ini_Li_init_36, ini_De_init_35, ini_Li_init_44, ini_De_init_43, ini_Li_init_52, ini_De_init_51, ini_Su_init_59, ini_Fe_init_61, ini_Rc_init_63, ini_Li_init_65, ini_MC_init_0, ini_Mo_init_67]
  (repeat (first | refine Bd.wR ?_ (by omega) (by omega) | refine Bd.wI ?_ | refine Bd.wL ?_ | refine Bd.mn ?_ (by omega)))
  exact fun _ _ _ => rfl
theorem rf_len : ∀ l ∈ rfL, l.length ≤ 40 := by decide +kernel
theorem rf_n : rfL.length ≤ 94 := by decide +kernel
theorem R0_out {pg k j : Nat} (h : 94 ≤ k ∨ 40 ≤ j) : R0 pg k j = none := by
  unfold R0
  rw [if_neg (fun q => by omega)]
  have hl : (rfL.getD k []).length ≤ 40 ∧ (94 ≤ k → (rfL.getD k []) = []) := by
    rw [List.getD_eq_getElem?_getD]
    cases e : rfL[k]? with
    | none => exact ⟨Nat.zero_le _, fun _ => rfl⟩
    | some l => exact ⟨rf_len l (List.mem_of_getElem? e), fun hk => absurd (List.getElem?_eq_some_iff.mp e).1 (by have := rf_n; omega)⟩
  rw [List.getD_eq_getElem?_getD (l := rfL.getD k [])]
  rw [List.getElem?_eq_none]
  · rfl
  · rcases h with h | h
    · rw [hl.2 h]; exact Nat.zero_le _
    · have := hl.1; omega
set_option maxRecDepth 100000 in
theorem hR_in : ∀ k, k < 94 → ∀ j, j < 40 → mR mF k j = R0 65 k j := by decide +kernel
theorem hR_F : ∀ k j, mR mF k j = R0 65 k j := fun k j => by
  by_cases h : k < 94 ∧ j < 40
  · exact hR_in k h.1 j h.2
  · rw [R0_out (by omega)]
    exact bd_F k j (by omega)
def Fr (μ : aM) : Prop := (∀ k j, mR μ k j = R0 65 k j) ∧ (mI μ 1 2 = 0) ∧ (mI μ 4 4 = 0) ∧ (mI μ 9 1 = 0) ∧ (mI μ 0 10 = 0) ∧ (mI μ 63 1 = 0) ∧ (mI μ 59 1 = 0) ∧ (mI μ 65 1 = 0) ∧ (mI μ 67 1 = 0) ∧ (mI μ 67 4 = 0) ∧ (mI μ 67 9 = 0) ∧ (mI μ 67 11 = 0) ∧ (mI μ 67 28 = 0) ∧ (mI μ 67 31 = 0) ∧ (mI μ 67 33 = 0) ∧ (∀ j, mI μ 66 j = 0) ∧ (∀ j, mI μ 92 j = 0)
theorem Fr.r {μ : aM} (h : Fr μ) : ∀ k j, mR μ k j = R0 65 k j := h.1
theorem Fr.i_1_2 {μ : aM} (h : Fr μ) : mI μ 1 2 = 0 := h.2.1
theorem Fr.i_4_4 {μ : aM} (h : Fr μ) : mI μ 4 4 = 0 := h.2.2.1
theorem Fr.i_9_1 {μ : aM} (h : Fr μ) : mI μ 9 1 = 0 := h.2.2.2.1
theorem Fr.i_0_10 {μ : aM} (h : Fr μ) : mI μ 0 10 = 0 := h.2.2.2.2.1
theorem Fr.i_63_1 {μ : aM} (h : Fr μ) : mI μ 63 1 = 0 := h.2.2.2.2.2.1
theorem Fr.i_59_1 {μ : aM} (h : Fr μ) : mI μ 59 1 = 0 := h.2.2.2.2.2.2.1
theorem Fr.i_65_1 {μ : aM} (h : Fr μ) : mI μ 65 1 = 0 := h.2.2.2.2.2.2.2.1
theorem Fr.i_67_1 {μ : aM} (h : Fr μ) : mI μ 67 1 = 0 := h.2.2.2.2.2.2.2.2.1
theorem Fr.i_67_4 {μ : aM} (h : Fr μ) : mI μ 67 4 = 0 := h.2.2.2.2.2.2.2.2.2.1
theorem Fr.i_67_9 {μ : aM} (h : Fr μ) : mI μ 67 9 = 0 := h.2.2.2.2.2.2.2.2.2.2.1
theorem Fr.i_67_11 {μ : aM} (h : Fr μ) : mI μ 67 11 = 0 := h.2.2.2.2.2.2.2.2.2.2.2.1
theorem Fr.i_67_28 {μ : aM} (h : Fr μ) : mI μ 67 28 = 0 := h.2.2.2.2.2.2.2.2.2.2.2.2.1
theorem Fr.i_67_31 {μ : aM} (h : Fr μ) : mI μ 67 31 = 0 := h.2.2.2.2.2.2.2.2.2.2.2.2.2.1
theorem Fr.i_67_33 {μ : aM} (h : Fr μ) : mI μ 67 33 = 0 := h.2.2.2.2.2.2.2.2.2.2.2.2.2.2.1
theorem Fr.c1 {μ : aM} (h : Fr μ) : ∀ j, mI μ 66 j = 0 := h.2.2.2.2.2.2.2.2.2.2.2.2.2.2.2.1
theorem Fr.c2 {μ : aM} (h : Fr μ) : ∀ j, mI μ 92 j = 0 := h.2.2.2.2.2.2.2.2.2.2.2.2.2.2.2.2
set_option maxRecDepth 100000 in
theorem fr_F : Fr mF := ⟨hR_F, rfl, rfl, rfl, rfl, rfl, rfl, rfl, rfl, rfl, rfl, rfl, rfl, rfl, rfl, fun _ => rfl, fun _ => rfl⟩
theorem law_first {d bc bs : Nat} (hd : 11 ≤ d) {iN : Nat} (hi : iN + 5 ≤ gn G) (h2 : gn G ≤ 2560) (hx : ∀ j, inR (gx G j)) {o5 o6 : Option aV} {Q : aQ → Nat → aM → Prop} (hbc : 3 ≤ bc) (hbs : 18 ≤ bs) (f : Fr μ) (kk : ∀ o5 o6 m', AW G false y_La_law d (bc - 3) (bs - 18) Q 1345 [some (aP 1000), some (aP 0), some (aP 67), some (aP 93), some (aI (iN : Int)), o5, o6] [] 94 m') : AW G false y_La_law d bc bs Q 32 [some (aP 1000), some (aP 0), some (aP 67), some (aP 93), some (aI (iN : Int)), o5, o6] [] 94 μ := by
  have bw : ∀ o5 o6 m', AW G false y_La_law d bc bs Q 1345 [some (aP 1000), some (aP 0), some (aP 67), some (aP 93), some (aI (iN : Int)), o5, o6] [] 94 m' := fun o5 o6 m' => aw_bud (Nat.sub_le _ _) (Nat.sub_le _ _) (kk o5 o6 m')
  exact law_sw hi
    (fun _ => s_La_0 (c := 0) hd hi h2 hx hbc hbs f.r f.i_1_2 f.i_67_1 (by omega) (f.i_4_4.trans f.i_67_4.symm) (fun _ _ _ _ => kk _ _ _))
    (fun _ => s_La_1 (c := 0) hd hi h2 hx hbc hbs f.r f.i_4_4 f.i_67_4 (by omega) (f.i_1_2.trans f.i_67_1.symm) (by rw [f.i_1_2]; omega) (fun _ _ _ _ => kk _ _ _))
    (fun _ => s_La_2 (n := 0) hd hi h2 hx f.r f.i_9_1 f.i_67_9 (by omega) (fun _ _ _ _ => bw _ _ _))
    (fun _ => s_La_3 hd hi h2 hx f.r (f.i_9_1.trans f.i_67_9.symm) (fun _ _ _ _ => bw _ _ _))
    (fun _ => t_La_4 hd hi h2 hx hbc hbs f.r (Or.inr f.i_4_4) (Or.inr f.i_67_4) (fun _ _ _ _ => kk _ _ _))
    (fun _ => t_La_5 hd hi h2 hx hbc hbs (by rw [f.i_0_10]; omega) (by rw [f.i_67_11]; omega) (fun _ _ _ _ => kk _ _ _))
    (fun _ => t_La_6 hd hi h2 hx hbc hbs (by rw [f.i_0_10]; omega) (by rw [f.i_67_11]; omega) (fun _ _ _ _ => kk _ _ _))
    (fun _ => t_La_7 hd hi h2 hx hbc hbs (by rw [f.i_0_10]; omega) (by rw [f.i_67_11]; omega) (fun _ _ _ _ => kk _ _ _))
    (fun _ => t_La_8 hd hi h2 hx hbc hbs (by rw [f.i_0_10]; omega) (by rw [f.i_67_11]; omega) (fun _ _ _ _ => kk _ _ _))
    (fun _ => t_La_9 hd hi h2 hx hbc hbs (by rw [f.i_0_10]; omega) (by rw [f.i_67_11]; omega) (fun _ _ _ _ => kk _ _ _))
    (fun _ => t_La_10 hd hi h2 hx hbc hbs (by rw [f.i_0_10]; omega) (by rw [f.i_67_11]; omega) (fun _ _ _ _ => kk _ _ _))
    (fun _ => t_La_11 hd hi h2 hx hbc hbs (by rw [f.i_0_10]; omega) (by rw [f.i_67_11]; omega) (fun _ _ _ _ => kk _ _ _))
    (fun _ => t_La_12 hd hi h2 hx hbc hbs (by rw [f.i_0_10]; omega) (by rw [f.i_67_11]; omega) (fun _ _ _ _ => kk _ _ _))
    (fun _ => s_La_13 hd hi h2 hx f.r (f.i_59_1.trans f.i_67_28.symm) (by rw [f.i_59_1]; omega) (fun j hj => absurd hj (by rw [f.i_59_1]; omega)) (fun _ _ _ _ => bw _ _ _))
    (fun _ => t_La_14 hd hi h2 hx hbc hbs (by rw [f.i_0_10]; omega) (by rw [f.i_67_11]; omega) (fun _ _ _ _ => kk _ _ _))
    (fun _ => t_La_15 hd hi h2 hx hbc hbs f.r (Or.inr f.i_4_4) (Or.inr f.i_67_4) (fun _ _ _ _ => kk _ _ _))
    (fun _ => s_La_16 hd hi h2 hx f.r (f.i_63_1.trans f.i_67_31.symm) (fun _ _ _ _ => bw _ _ _))
    (fun _ => t_La_17 hd hi h2 hx hbc hbs (by rw [f.i_0_10]; omega) (by rw [f.i_67_11]; omega) (fun _ _ _ _ => kk _ _ _))
    (fun _ => t_La_18 hd hi h2 hx hbc hbs (by rw [f.i_0_10]; omega) (by rw [f.i_67_11]; omega) (fun _ _ _ _ => kk _ _ _))
    (fun _ => s_La_19 hd hi h2 hx f.r (p0 := 65) rfl (by omega) rfl rfl ((f.r 65 0).trans rfl) (f.i_65_1.trans f.i_67_33.symm) (fun _ _ _ _ => bw _ _ _))
    (fun _ => s_La_20 hd hi h2 hx f.r (p0 := 65) rfl (by omega) rfl rfl ((f.r 65 0).trans rfl) (f.i_65_1.trans f.i_67_33.symm) (by rw [f.i_65_1]; omega) (fun j => by rw [f.c1 j]; omega) (fun j => by rw [f.c2 j]; omega) (fun j hj => (f.c1 j).trans (f.c2 j).symm) (fun _ _ _ _ => bw _ _ _))
    (fun _ => bw _ _ _)
set_option maxRecDepth 100000 in
theorem law_start {d bc bs : Nat} (hd : 12 ≤ d) {Q : aQ → Nat → aM → Prop} (hbc : 94 ≤ bc) (hbs : 4085 ≤ bs) (k : AW G false y_La_law d (bc - 94) (bs - 4085) Q 23 [some (aP 1000), some (aP 0), some (aP 67), some (aP 93), some (aI ((0 : Nat) : Int)), none, none] [] 94 mF) : AW G true y_La_law d bc bs Q 0 [some (aP 1000), none, none, none, none, none, none] [] 0 mz := by
  refine aw_new (ci := 0) rfl rfl (zs_here (zs_z 0)) rfl ino_MC tyo_MC fk_MC cl_La_8 it_MC in_MC d_La_law_0 (by omega) (by omega) ?_
  refine aw_dup d_La_law_3 rfl ?_
  refine aw_ie (as := []) (bc' := 66) (bs' := 2035) rfl ci_La_67 d_La_law_4 (Nat.le_of_ble_eq_true rfl) (d' := d - 1) (by omega) (by omega) (by omega) rfl (am_MC_init_0 (d := d - 1) (by omega) (zs_z 1)) ?_
  refine aw_astore_n (lst' := [_, _, _, _, _, _, _]) d_La_law_7 rfl (Nat.le_of_ble_eq_true rfl) rfl ?_
  refine aw_new (ci := 11) rfl rfl (zs_here zs_C) rfl ino_Mo tyo_Mo fk_Mo cl_La_68 it_Mo in_Mo d_La_law_8 (by omega) (by omega) ?_
  refine aw_dup d_La_law_11 rfl ?_
  refine aw_ie (as := []) (bc' := 25) (bs' := 2002) rfl ci_La_70 d_La_law_12 (Nat.le_of_ble_eq_true rfl) (d' := d - 1) (by omega) (by omega) (by omega) rfl (am_Mo_init_67 (d := d - 1) (by omega) (zs_C.le (by omega))) ?_
  refine aw_astore_n (lst' := [_, _, _, _, _, _, _]) d_La_law_15 rfl (Nat.le_of_ble_eq_true rfl) rfl ?_
  refine aw_iconst d_La_law_16 (in_c rfl) ?_
  refine aw_newa (atype := .long) rfl rfl (zs_here zs_F) (Or.inr (Or.inl ⟨rfl, rfl⟩)) rfl ac_long rfl (by decide) d_La_law_17 (by omega) (by omega) ?_
  refine aw_astore_n (lst' := [_, _, _, _, _, _, _]) d_La_law_19 rfl (Nat.le_of_ble_eq_true rfl) rfl ?_
  refine aw_pc (pc' := 20) rfl ?_
  refine aw_iconst d_La_law_20 (in_c rfl) ?_
  refine aw_istore (lst' := [_, _, _, _, _, _, _]) d_La_law_21 (Nat.le_of_ble_eq_true rfl) rfl ?_
  exact aw_x (aw_bud (bc' := bc - 94) (bs' := bs - 4085) (by omega) (by omega) k)
/-- p1: at most five ints -/
theorem law_five {d bc bs : Nat} (hd : 12 ≤ d) (hbc : 97 ≤ bc) (hbs : 4103 ≤ bs) (hn : gn G ≤ 5) (hx : ∀ j, inR (gx G j)) : AW G true y_La_law d bc bs (fun r _ _ => r = .inl (some (aI 1))) 0 [some (aP 1000), none, none, none, none, none, none] [] 0 mz := by
  refine law_start hd (by omega) (by omega) ?_
  refine law_loop (K := fun i μ => i = 0 → Fr μ) (by omega) (fun _ => rfl) ?_ 1 0 mF _ _ none none (by omega) (by omega) (by omega) (by omega) (fun _ => fr_F)
  intro iN μ bc' bs' o5 o6 hi hK h1 h6 kk
  exact law_first (by omega) hi (by omega) hx h1 h6 (hK (by omega)) (fun o5 o6 m' => kk o5 o6 m' (fun h => absurd h (by omega)))
end
