/-! suite: a word more -/
section
/-- the class's suite with a word more, if it isn't in it -/
def suA (μ : aM) (c w : Nat) : aM := if (mL μ 59 2).getLsbD w = true ∨ 12 ≤ c then μ else wL (wI (wI μ 60 c (w : Int)) 59 1 ((c : Int) + 1)) 59 2 (mL μ 59 2 ||| ((1 : BitVec 64) <<< w))
def moA (μ : aM) (s w : Nat) : aM := if anyB (fun j => decide (mI μ 89 j = (w : Int))) s = true then μ else wI (wI μ 89 s (w : Int)) 67 28 ((s : Int) + 1)
variable {G : aG} {pg : Nat} {μ : aM}
set_option maxRecDepth 100000 in
theorem m_Su_add {d : Nat} (hd : 1 ≤ d) (hR : ∀ k j, mR μ k j = R0 pg k j) {w c : Nat} (hw : w < 64) (hc : mI μ 59 1 = (c : Int)) (hc12 : c ≤ 12) : AM G false d 0 0 y_Su_add [aP 59, aI (w : Int)] 94 μ (Qe none 94 (suA μ c w)) := by
  refine am_of (n := 0) pf_Su_add (Nat.le_of_ble_eq_true rfl) (by intro v hv; simp only [List.mem_cons, List.not_mem_nil, or_false] at hv; rcases hv with rfl | rfl <;> first | trivial | assumption | exact in_c rfl | exact bI_in _ | (show inR _; unfold inR; omega)) rfl ?_
  refine aw_aload_n d_Su_add_0 rfl rfl ?_
  refine aw_getL fd_Su_set lk_Su_19 (by omega) rfl d_Su_add_1 ?_
  refine aw_iload_n d_Su_add_4 rfl rfl ?_
  refine aw_se (as := [_, _]) rfl cs_Su_41 d_Su_add_5 (Nat.le_of_ble_eq_true rfl) (d' := d - 1) (by omega) (m_MC_contains (by omega) hw) ?_
  refine aw_if_ne (tgt := 55) d_Su_add_8 rfl (fun h8 => ?_) (fun h8 => ?_)
  · replace h8 := ite_n h8
    exact aw_vret d_Su_add_55 rfl ⟨rfl, rfl, by unfold suA; rw [if_pos (by exact Or.inl h8)]⟩
  · replace h8 := ite_z h8
    refine aw_aload_n d_Su_add_11 rfl rfl ?_
    refine aw_getI fd_Su_count lk_Su_15 (by omega) rfl d_Su_add_12 ?_
    refine aw_tv (v' := (c : Int)) hc ?_
    refine aw_aload_n d_Su_add_15 rfl rfl ?_
    refine aw_getR fd_Su_words lk_Su_9 (by omega) rfl d_Su_add_16 (hR _ _) ?_
    refine aw_alen (by omega) rfl (by decide) rfl d_Su_add_19 (in_c rfl) ?_
    refine aw_icmp_ge (tgt := 55) d_Su_add_20 rfl (fun h20 => ?_) (fun h20 => ?_)
    · exact aw_vret d_Su_add_55 rfl ⟨rfl, rfl, by unfold suA; rw [if_pos (by right; omega)]⟩
    · refine aw_aload_n d_Su_add_23 rfl rfl ?_
      refine aw_getR fd_Su_words lk_Su_9 (by omega) rfl d_Su_add_24 (hR _ _) ?_
      refine aw_aload_n d_Su_add_27 rfl rfl ?_
      refine aw_getI fd_Su_count lk_Su_15 (by omega) rfl d_Su_add_28 ?_
      refine aw_tv (v' := (c : Int)) hc ?_
      refine aw_iload_n d_Su_add_31 rfl rfl ?_
      refine aw_iast (n := c) (by omega) rfl rfl (by omega) d_Su_add_32 ?_
      refine aw_aload_n d_Su_add_33 rfl rfl ?_
      refine aw_dup d_Su_add_34 rfl ?_
      refine aw_getI fd_Su_count lk_Su_15 (by omega) rfl d_Su_add_35 ?_
      refine aw_tv (v' := (c : Int)) (by rw [mI_wI, if_neg (by omega)]; exact hc) ?_
      refine aw_iconst d_Su_add_38 (in_c rfl) ?_
      refine aw_iadd d_Su_add_39 (by unfold inR; omega) ?_
      refine aw_pc (pc' := 40) rfl ?_
      refine aw_putI fd_Su_count lk_Su_15 (by omega) rfl d_Su_add_40 (Or.inl rfl) ?_
      refine aw_aload_n d_Su_add_43 rfl rfl ?_
      refine aw_dup d_Su_add_44 rfl ?_
      refine aw_getL fd_Su_set lk_Su_19 (by omega) rfl d_Su_add_45 ?_
      refine aw_lconst (b := 1) d_Su_add_48 rfl ?_
      refine aw_iload_n d_Su_add_49 rfl rfl ?_
      refine aw_lshl (k0 := w) rfl hw d_Su_add_50 ?_
      refine aw_lor d_Su_add_51 ?_
      refine aw_putL fd_Su_set lk_Su_19 (by omega) rfl d_Su_add_52 (Or.inl rfl) ?_
      exact aw_vret d_Su_add_55 rfl ⟨rfl, rfl, by unfold suA; rw [if_neg (by intro z; rcases z with z | z; exact h8 z; omega)]; rfl⟩
end
