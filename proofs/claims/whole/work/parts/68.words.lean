/-! words of the records -/
section
/-- condition l may be asked of x, y, z -/
def okM (μ : aM) (l : Nat) (x y z : Int) : Prop := l < 8 ∧ (-20 ≤ pk3 (mI μ 71 l) x y z ∧ pk3 (mI μ 71 l) x y z ≤ 20) ∧ (-20 ≤ sb3 (mI μ 72 l) x y z ∧ sb3 (mI μ 72 l) x y z ≤ 20) ∧ 0 ≤ mI μ 70 l
def oWd (μ : aM) (i k : Nat) (x y z : Int) : Nat := wb (fun j => oHd μ (oU μ i j) x y z) k
def wsF (f : Nat → Nat) : Nat → BitVec 64
  | 0 => 0
  | n + 1 => wsF f n ||| ((1 : BitVec 64) <<< f n)
variable {G : aG} {pg : Nat} {μ : aM}
set_option maxRecDepth 100000 in
theorem m_Mo_wordOf {d : Nat} (hd : 1 ≤ d) (hR : ∀ k j, mR μ k j = R0 pg k j) {i : Nat} (h4 : i < 4) {k : Nat} (hk : mI μ 78 i = (k : Int)) (h6 : k ≤ 6) {x y z : Int} (hx : inR x) (hy : inR y) (hz0 : inR z) (hu : ∀ j, j < 6 → 0 ≤ mI μ 79 (6 * i + j) ∧ mI μ 79 (6 * i + j) < 8) (hl : ∀ j, j < k → okM μ (oU μ i j) x y z) : AM G false d 0 0 y_Mo_wordOf [aP 67, aI (i : Int), aI x, aI y, aI z] 94 μ (Qe (some (aI ((oWd μ i k x y z : Nat) : Int))) 94 μ) := by
  refine am_of (n := 2) pf_Mo_wordOf (Nat.le_of_ble_eq_true rfl) (by intro v hv; simp only [List.mem_cons, List.not_mem_nil, or_false] at hv; rcases hv with rfl | rfl | rfl | rfl | rfl <;> first | trivial | assumption | exact in_c rfl | exact bI_in _ | (show inR _; unfold inR; omega)) rfl ?_
  have key : ∀ (m : Nat) (j : Nat), k - j = m → j ≤ k → AW G false y_Mo_wordOf d 0 0 (Qe (some (aI ((oWd μ i k x y z : Nat) : Int))) 94 μ) 6 [some (aP 67), some (aI (i : Int)), some (aI x), some (aI y), some (aI z), some (aI ((wb (fun j => oHd μ (oU μ i j) x y z) j : Nat) : Int)), some (aI (j : Int))] [] 94 μ := by
    intro m
    induction m using Nat.strongRecOn with | _ m ih =>
    intro j hm hj
    refine aw_iload d_Mo_wordOf_6 rfl ?_
    refine aw_aload_n d_Mo_wordOf_8 rfl rfl ?_
    refine aw_getR fd_Mo_many lk_Mo_41 (by omega) rfl d_Mo_wordOf_9 (hR _ _) ?_
    refine aw_iload_n d_Mo_wordOf_12 rfl rfl ?_
    refine aw_iald (n := i) (by omega) rfl rfl (by omega) d_Mo_wordOf_13 ?_
    refine aw_tv (v' := (k : Int)) hk ?_
    refine aw_icmp_ge (tgt := 60) d_Mo_wordOf_14 rfl (fun h14 => ?_) (fun h14 => ?_)
    · refine aw_iload d_Mo_wordOf_60 rfl ?_
      exact aw_iret d_Mo_wordOf_62 rfl ⟨by rw [show j = k by omega]; rfl, rfl, rfl⟩
    · refine aw_aload_n d_Mo_wordOf_17 rfl rfl ?_
      refine aw_aload_n d_Mo_wordOf_18 rfl rfl ?_
      refine aw_getR fd_Mo_uses lk_Mo_44 (by omega) rfl d_Mo_wordOf_19 (hR _ _) ?_
      refine aw_bipush (z := 6) d_Mo_wordOf_22 (in_c rfl) rfl ?_
      refine aw_iload_n d_Mo_wordOf_24 rfl rfl ?_
      refine aw_imul d_Mo_wordOf_25 (by unfold inR; omega) ?_
      refine aw_iload d_Mo_wordOf_26 rfl ?_
      refine aw_iadd d_Mo_wordOf_28 (by unfold inR; omega) ?_
      refine aw_iald (n := 6 * i + j) (by omega) rfl (by omega) (by omega) d_Mo_wordOf_29 ?_
      have hlj := hl j (by omega)
      have huj := hu j (by omega)
      have hwl := wb_lt (fun j => oHd μ (oU μ i j) x y z) j
      have hpj : 2 ^ j ≤ 32 := Nat.pow_le_pow_right (n := 2) (by omega) (show j ≤ 5 by omega)
      refine aw_tv (v' := ((oU μ i j : Nat) : Int)) (by unfold oU; omega) ?_
      refine aw_iload_n d_Mo_wordOf_30 rfl rfl ?_
      refine aw_iload_n d_Mo_wordOf_31 rfl rfl ?_
      refine aw_pc (pc' := 32) rfl ?_
      refine aw_iload d_Mo_wordOf_32 rfl ?_
      refine aw_ve (as := [_, _, _, _]) rfl cv_Mo_138 (by omega) rfl rfl d_Mo_wordOf_34 (Nat.le_of_ble_eq_true rfl) (d' := d - 1) (by omega) (m_Mo_holds (by omega) hR hx hy hz0 hlj.1 hlj.2.1 hlj.2.2.1 hlj.2.2.2) ?_
      refine aw_if_eq (tgt := 50) d_Mo_wordOf_37 rfl (fun h37 => ?_) (fun h37 => ?_)
      · replace h37 := bz h37
        refine aw_iload d_Mo_wordOf_50 rfl ?_
        refine aw_tv (v' := ((wb (fun j => oHd μ (oU μ i j) x y z) (j + 1) : Nat) : Int)) (by rw [wb_step, if_neg (by rw [h37]; decide)]) ?_
        refine aw_istore (lst' := [_, _, _, _, _, _, _]) d_Mo_wordOf_52 (Nat.le_of_ble_eq_true rfl) rfl ?_
        refine aw_iinc (lst' := [_, _, _, _, _, _, some (aI ((j + 1 : Nat) : Int))]) d_Mo_wordOf_54 (Nat.le_of_ble_eq_true rfl) rfl (by unfold inR; omega) rfl ?_
        refine aw_goto (tgt := 6) d_Mo_wordOf_57 rfl ?_
        exact ih (k - (j + 1)) (by omega) (j + 1) rfl (by omega)
      · replace h37 := bn h37
        refine aw_iload d_Mo_wordOf_40 rfl ?_
        refine aw_iconst d_Mo_wordOf_42 (in_c rfl) ?_
        refine aw_iload d_Mo_wordOf_43 rfl ?_
        refine aw_ishl (a := 1) (k0 := j) rfl rfl (by omega) (by omega) d_Mo_wordOf_45 ?_
        refine aw_tv (v' := ((2 ^ j : Nat) : Int)) (by rw [Nat.one_mul]) ?_
        refine aw_ior (a := wb (fun j => oHd μ (oU μ i j) x y z) j) (b := 2 ^ j) rfl rfl d_Mo_wordOf_46 ?_
        refine aw_tv (v' := ((wb (fun j => oHd μ (oU μ i j) x y z) (j + 1) : Nat) : Int)) (by rw [wb_step, if_pos h37]) ?_
        refine aw_goto (tgt := 52) d_Mo_wordOf_47 rfl ?_
        refine aw_istore (lst' := [_, _, _, _, _, _, _]) d_Mo_wordOf_52 (Nat.le_of_ble_eq_true rfl) rfl ?_
        refine aw_iinc (lst' := [_, _, _, _, _, _, some (aI ((j + 1 : Nat) : Int))]) d_Mo_wordOf_54 (Nat.le_of_ble_eq_true rfl) rfl (by unfold inR; omega) rfl ?_
        refine aw_goto (tgt := 6) d_Mo_wordOf_57 rfl ?_
        exact ih (k - (j + 1)) (by omega) (j + 1) rfl (by omega)
  refine aw_iconst d_Mo_wordOf_0 (in_c rfl) ?_
  refine aw_istore (lst' := [_, _, _, _, _, _, _]) d_Mo_wordOf_1 (Nat.le_of_ble_eq_true rfl) rfl ?_
  refine aw_iconst d_Mo_wordOf_3 (in_c rfl) ?_
  refine aw_istore (lst' := [_, _, _, _, _, _, _]) d_Mo_wordOf_4 (Nat.le_of_ble_eq_true rfl) rfl ?_
  exact key (k - 0) 0 rfl (Nat.zero_le _)
set_option maxRecDepth 100000 in
theorem m_Rc_wordsOf {d : Nat} (hd : 3 ≤ d) {D : Nat} (hD : isD D) (hR : ∀ k j, mR μ k j = R0 pg k j) {k : Nat} (hk : mI μ D 7 = (k : Int)) (h6 : k ≤ 6) {c : Nat} (hc : mI μ 63 1 = (c : Int)) (hc12 : c ≤ 12) (hl : ∀ r, r < c → ∀ j, j < k → 0 ≤ mI μ (D + 3) j ∧ okL μ (3 * r) (mI μ (D + 3) j).toNat) : AM G false d 0 0 y_Rc_wordsOf [aP 63, aP D] 94 μ (Qe (some (aL (wsF (fun r => wb (fun j => hF μ (3 * r) (mI μ (D + 3) j).toNat) k) c))) 94 μ) := by
  refine am_of (n := 3) pf_Rc_wordsOf (Nat.le_of_ble_eq_true rfl) (by intro v hv; simp only [List.mem_cons, List.not_mem_nil, or_false] at hv; rcases hv with rfl | rfl <;> first | trivial | assumption | exact in_c rfl | exact bI_in _ | (show inR _; unfold inR; omega)) rfl ?_
  have key : ∀ (m : Nat) (r : Nat), c - r = m → r ≤ c → AW G false y_Rc_wordsOf d 0 0 (Qe (some (aL (wsF (fun r => wb (fun j => hF μ (3 * r) (mI μ (D + 3) j).toNat) k) c))) 94 μ) 5 [some (aP 63), some (aP D), some (aL (wsF (fun r => wb (fun j => hF μ (3 * r) (mI μ (D + 3) j).toNat) k) r)), none, some (aI (r : Int))] [] 94 μ := by
    intro m
    induction m using Nat.strongRecOn with | _ m ih =>
    intro r hm hr
    refine aw_iload d_Rc_wordsOf_5 rfl ?_
    refine aw_aload_n d_Rc_wordsOf_7 rfl rfl ?_
    refine aw_getI fd_Rc_count lk_Rc_15 (by omega) rfl d_Rc_wordsOf_8 ?_
    refine aw_tv (v' := (c : Int)) hc ?_
    refine aw_icmp_ge (tgt := 37) d_Rc_wordsOf_11 rfl (fun h11 => ?_) (fun h11 => ?_)
    · refine aw_lload_n d_Rc_wordsOf_37 rfl rfl ?_
      exact aw_lret d_Rc_wordsOf_38 rfl ⟨by rw [show r = c by omega], rfl, rfl⟩
    · refine aw_lload_n d_Rc_wordsOf_14 rfl rfl ?_
      refine aw_lconst (b := 1) d_Rc_wordsOf_15 rfl ?_
      refine aw_aload_n d_Rc_wordsOf_16 rfl rfl ?_
      refine aw_aload_n d_Rc_wordsOf_17 rfl rfl ?_
      refine aw_getR fd_Rc_row lk_Rc_9 (by omega) rfl d_Rc_wordsOf_18 (hR _ _) ?_
      refine aw_iload d_Rc_wordsOf_21 rfl ?_
      refine aw_iconst d_Rc_wordsOf_23 (in_c rfl) ?_
      refine aw_imul d_Rc_wordsOf_24 (by unfold inR; omega) ?_
      refine aw_tv (v' := ((3 * r : Nat) : Int)) (by omega) ?_
      refine aw_ve (as := [_, _]) rfl cv_Rc_19 (by have := ltD hD; omega) (shD0 hD) rfl d_Rc_wordsOf_25 (Nat.le_of_ble_eq_true rfl) (d' := d - 1) (by omega) (m_De_wordFor (by omega) hD hR hk h6 (by omega) (hl r (by omega))) ?_
      have hwk := wb_lt (fun j => hF μ (3 * r) (mI μ (D + 3) j).toNat) k
      have hpk : 2 ^ k ≤ 64 := Nat.pow_le_pow_right (n := 2) (by omega) h6
      refine aw_lshl (k0 := wb (fun j => hF μ (3 * r) (mI μ (D + 3) j).toNat) k) rfl (by omega) d_Rc_wordsOf_28 ?_
      refine aw_lor d_Rc_wordsOf_29 ?_
      refine aw_pc (pc' := 30) rfl ?_
      refine aw_lstore_n (lst' := [_, _, some (aL (wsF (fun r => wb (fun j => hF μ (3 * r) (mI μ (D + 3) j).toNat) k) (r + 1))), _, _]) d_Rc_wordsOf_30 rfl (Nat.le_of_ble_eq_true rfl) rfl ?_
      refine aw_iinc (lst' := [_, _, _, _, some (aI ((r + 1 : Nat) : Int))]) d_Rc_wordsOf_31 (Nat.le_of_ble_eq_true rfl) rfl (by unfold inR; omega) rfl ?_
      refine aw_goto (tgt := 5) d_Rc_wordsOf_34 rfl ?_
      exact ih (c - (r + 1)) (by omega) (r + 1) rfl (by omega)
  refine aw_lconst (b := 0) d_Rc_wordsOf_0 rfl ?_
  refine aw_lstore_n (lst' := [_, _, _, _, _]) d_Rc_wordsOf_1 rfl (Nat.le_of_ble_eq_true rfl) rfl ?_
  refine aw_iconst d_Rc_wordsOf_2 (in_c rfl) ?_
  refine aw_istore (lst' := [_, _, _, _, _]) d_Rc_wordsOf_3 (Nat.le_of_ble_eq_true rfl) rfl ?_
  exact key (c - 0) 0 rfl (Nat.zero_le _)
end
