/-! least: the reference -/
section
/-- what is shown looks at six rows alone -/
theorem oW_cg {μ m : aM} {i k c : Nat} {q : Int} (e : ∀ a b, (a = 71 ∨ a = 72 ∨ a = 79 ∨ a = 80 ∨ a = 82 ∨ a = 83) → mI m a b = mI μ a b) : oW m i k c q = oW μ i k c q := by
  have eC : ∀ w, oC m i w = oC μ i w := fun w => e _ _ (by omega)
  have eK : ∀ w, oK m i w = oK μ i w := fun w => by unfold oK; rw [e _ _ (by omega)]
  have eS : ∀ w, oS m i w = oS μ i w := fun w => by unfold oS; rw [e _ _ (by omega)]
  have eU : ∀ w, oU m i w = oU μ i w := fun w => by unfold oU; rw [e _ _ (by omega)]
  have eT : ∀ w c, oT m i w c = oT μ i w c := fun w c => by unfold oT; rw [eC, eC]
  have eH : ∀ a b, oH m i a b = oH μ i a b := fun a b => by unfold oH; rw [eU, eU, e 71 _ (by omega), e 71 _ (by omega), e 72 _ (by omega), e 72 _ (by omega)]
  have eB : ∀ v w, oB m i v w = oB μ i v w := fun v w => by unfold oB; rw [eS, eS]
  funext v w
  have eJ : oJ m i c q v w = oJ μ i c q v w := funext fun j => by unfold oJ; rw [eB, eH]
  unfold oW
  rw [eJ]
  unfold oQ oG
  rw [eK, eK, eB, eC, eC, eT, eT]
theorem wI_wI (μ : aM) (a b : Nat) (x y : Int) : wI (wI μ a b x) a b y = wI μ a b y := by
  unfold wI
  congr 1
  funext p q
  by_cases h : p = a ∧ q = b
  · rw [if_pos h, if_pos h]
  · rw [if_neg h, if_neg h]; show (if p = a ∧ q = b then x else μ.1 p q) = _; rw [if_neg h]
theorem cn_bit (s k : Nat) : ((cn s.testBit k : Nat) : Int) + ((s / 2 ^ k &&& 1 : Nat) : Int) = ((cn s.testBit (k + 1) : Nat) : Int) := by
  rw [cn, Nat.and_one_is_mod, Nat.testBit_eq_decide_div_mod_eq]
  generalize s / 2 ^ k = x
  rcases Nat.mod_two_eq_zero_or_one x with h | h <;> rw [h] <;> simp
theorem allB_no {f : Nat → Bool} {c : Nat} (h : allB f c = false) : ∀ k, c ≤ k → allB f k = false
  | 0, hk => by rw [show 0 = c by omega]; exact h
  | k + 1, hk => by
    by_cases e : c = k + 1
    · rw [← e]; exact h
    · rw [allB, allB_no h k (by omega)]; rfl
theorem le_fx {μ m : aM} (h : FrL (wI μ 67 0 0) m) {a b : Nat} (h1 : a ≠ 90) (h2 : a ≠ 67) : mI m a b = mI μ a b := by rw [h.1 a b h1, mI_wI, if_neg (fun z => h2 z.1)]
theorem le_oW {μ m : aM} (h : FrL (wI μ 67 0 0) m) (i k c : Nat) (q : Int) : oW m i k c q = oW μ i k c q := oW_cg (fun a b ha => le_fx h (by omega) (by omega))
/-- what the row of partners holds -/
def okP (m : aM) : Prop := ∀ j, j < 64 → 0 ≤ mI m 90 j ∧ mI m 90 j < 65536
theorem okP_w {m : aM} (h : okP m) (b v : Nat) (hv : v < 65536) : okP (wI m 90 b (v : Int)) := fun j hj => by
  rw [mI_wI]
  split
  · omega
  · exact h j hj
theorem wb_16 {f : Nat → Bool} {w : Nat} (h : w ≤ 16) : wb f w < 65536 := by
  have h1 := wb_lt f w
  have h2 : 2 ^ w ≤ 2 ^ 16 := Nat.pow_le_pow_right (by omega) h
  omega
theorem lpM_ok {μ m : aM} {i k c : Nat} {q : Int} (hk4 : k ≤ 4) (h : okP m) : ∀ v, okP (lpM μ i k c q m v)
  | 0 => h
  | v + 1 => okP_w (lpM_ok hk4 h v) _ _ (wb_16 (Nat.pow_le_pow_right (n := 2) (by omega) hk4))
theorem leM_ok {μ : aM} {i k : Nat} {q : Int} (hk4 : k ≤ 4) (h : okP μ) : ∀ c, okP (leM μ i k q c)
  | 0 => fun j hj => by show 0 ≤ mI (wI μ 67 0 0) 90 j ∧ mI (wI μ 67 0 0) 90 j < 65536; rw [mI_wI, if_neg (by omega)]; exact h j hj
  | c + 1 => lpM_ok hk4 (leM_ok hk4 h c) _
theorem bst_100 (E : Nat → Bool) : ∀ s, bst E s ≤ 100
  | 0 => Nat.le_refl _
  | s + 1 => by
    have := bst_100 E s
    rw [bst]; split <;> omega
variable {G : aG} {pg : Nat} {μ : aM}
set_option maxRecDepth 100000 in
theorem m_Mo_countOf {d : Nat} (hd : 0 ≤ d) {s : Nat} (hs : s < 2147483648) : AM G false d 0 0 y_Mo_countOf [aI (s : Int)] 94 μ (Qe (some (aI ((cnt 31 s : Nat) : Int))) 94 μ) := by
  refine am_of (n := 2) pf_Mo_countOf (Nat.le_of_ble_eq_true rfl) (by intro v hv; simp only [List.mem_cons, List.not_mem_nil, or_false] at hv; rcases hv with rfl <;> first | trivial | assumption | exact in_c rfl | exact bI_in _ | (show inR _; unfold inR; omega)) rfl ?_
  have key : ∀ (m : Nat) (k : Nat), 31 - k = m → k ≤ 31 → AW G false y_Mo_countOf d 0 0 (Qe (some (aI ((cnt 31 s : Nat) : Int))) 94 μ) 4 [some (aI (s : Int)), some (aI ((cn s.testBit k : Nat) : Int)), some (aI (k : Int))] [] 94 μ := by
    intro m
    induction m using Nat.strongRecOn with | _ m ih =>
    intro k hm hk
    have hcn := cn_le s.testBit k
    refine aw_iload_n d_Mo_countOf_4 rfl rfl ?_
    refine aw_bipush (z := 31) d_Mo_countOf_5 (in_c rfl) rfl ?_
    refine aw_icmp_ge (tgt := 24) d_Mo_countOf_7 rfl (fun h7 => ?_) (fun h7 => ?_)
    · refine aw_iload_n d_Mo_countOf_24 rfl rfl ?_
      exact aw_iret d_Mo_countOf_25 rfl ⟨by rw [cnt_cn, show k = 31 by omega], rfl, rfl⟩
    · refine aw_iload_n d_Mo_countOf_10 rfl rfl ?_
      refine aw_iload_n d_Mo_countOf_11 rfl rfl ?_
      refine aw_iload_n d_Mo_countOf_12 rfl rfl ?_
      refine aw_ishr (a := s) (k0 := k) rfl rfl (by omega) d_Mo_countOf_13 ?_
      refine aw_iconst d_Mo_countOf_14 (in_c rfl) ?_
      refine aw_iand (a := s / 2 ^ k) (b := 1) rfl rfl d_Mo_countOf_15 ?_
      refine aw_iadd d_Mo_countOf_16 (by rw [cn_bit]; have := cn_le s.testBit (k + 1); unfold inR; omega) ?_
      refine aw_tv (v' := ((cn s.testBit (k + 1) : Nat) : Int)) (cn_bit s k) ?_
      refine aw_istore_n (lst' := [_, _, _]) d_Mo_countOf_17 rfl (Nat.le_of_ble_eq_true rfl) rfl ?_
      refine aw_iinc (lst' := [_, _, some (aI ((k + 1 : Nat) : Int))]) d_Mo_countOf_18 (Nat.le_of_ble_eq_true rfl) rfl (by unfold inR; omega) rfl ?_
      refine aw_goto (tgt := 4) d_Mo_countOf_21 rfl ?_
      exact ih (31 - (k + 1)) (by omega) (k + 1) rfl (by omega)
  refine aw_iconst d_Mo_countOf_0 (in_c rfl) ?_
  refine aw_istore_n (lst' := [_, _, _]) d_Mo_countOf_1 rfl (Nat.le_of_ble_eq_true rfl) rfl ?_
  refine aw_iconst d_Mo_countOf_2 (in_c rfl) ?_
  refine aw_istore_n (lst' := [_, _, _]) d_Mo_countOf_3 rfl (Nat.le_of_ble_eq_true rfl) rfl ?_
  exact key (31 - 0) 0 rfl (Nat.zero_le _)
set_option maxRecDepth 100000 in
theorem m_Mo_isEnough {d : Nat} (hd : 1 ≤ d) {i : Nat} (h4 : i < 4) {k : Nat} (hk : mI μ 78 i = (k : Int)) (hk4 : k ≤ 4) {s : Nat} (hs : s < 65536) (hp : ∀ j, j < 64 → 0 ≤ mI μ 90 j ∧ mI μ 90 j < 65536) (hR : ∀ k j, mR μ k j = R0 pg k j)  : AM G false d 0 0 y_Mo_isEnough [aP 67, aI (i : Int), aI (s : Int)] 94 μ (Qe (some (aI (bI (oEn μ k (2 ^ k) s)))) 94 μ) := by
  refine am_of (n := 5) pf_Mo_isEnough (Nat.le_of_ble_eq_true rfl) (by intro v hv; simp only [List.mem_cons, List.not_mem_nil, or_false] at hv; rcases hv with rfl | rfl | rfl <;> first | trivial | assumption | exact in_c rfl | exact bI_in _ | (show inR _; unfold inR; omega)) rfl ?_
  have hpw : 2 ^ k ≤ 16 := Nat.pow_le_pow_right (n := 2) (by omega) hk4
  have key : ∀ (m : Nat) (c : Nat) (o5 o6 o7 : Option aV), k - c = m → c ≤ k → AW G false y_Mo_isEnough d 0 0 (Qe (some (aI (bI (oEn μ k (2 ^ k) s)))) 94 μ) 5 [some (aP 67), some (aI (i : Int)), some (aI (s : Int)), some (aI (bI (allB (fun c => anyB (fun w => s.testBit w && decide (¬ ((mI μ 90 (16 * c + w)).toNat &&& s) = 0)) (2 ^ k) || !anyB (fun w => decide (¬ mI μ 90 (16 * c + w) = 0)) (2 ^ k)) c))), some (aI (c : Int)), o5, o6, o7] [] 94 μ := by
    intro m
    induction m using Nat.strongRecOn with | _ m ih =>
    intro c o5 o6 o7 hm hc
    have inn : ∀ (m2 : Nat) (w : Nat), 2 ^ k - w = m2 → (c < k ∧ allB (fun c => anyB (fun w => s.testBit w && decide (¬ ((mI μ 90 (16 * c + w)).toNat &&& s) = 0)) (2 ^ k) || !anyB (fun w => decide (¬ mI μ 90 (16 * c + w) = 0)) (2 ^ k)) c = true ∧ w ≤ 2 ^ k) → AW G false y_Mo_isEnough d 0 0 (Qe (some (aI (bI (oEn μ k (2 ^ k) s)))) 94 μ) 29 [some (aP 67), some (aI (i : Int)), some (aI (s : Int)), some (aI (bI (allB (fun c => anyB (fun w => s.testBit w && decide (¬ ((mI μ 90 (16 * c + w)).toNat &&& s) = 0)) (2 ^ k) || !anyB (fun w => decide (¬ mI μ 90 (16 * c + w) = 0)) (2 ^ k)) c))), some (aI (c : Int)), some (aI (bI (anyB (fun w => decide (¬ mI μ 90 (16 * c + w) = 0)) w))), some (aI (bI (anyB (fun w => s.testBit w && decide (¬ ((mI μ 90 (16 * c + w)).toNat &&& s) = 0)) w))), some (aI (w : Int))] [] 94 μ := by
      intro m2
      induction m2 using Nat.strongRecOn with | _ m2 ih2 =>
      intro w hm2 hw
      have h17 := hw.2.1
      have hpc := hp (16 * c + w)
      refine aw_iload d_Mo_isEnough_29 rfl ?_
      refine aw_iconst d_Mo_isEnough_31 (in_c rfl) ?_
      refine aw_aload_n d_Mo_isEnough_32 rfl rfl ?_
      refine aw_getR fd_Mo_many lk_Mo_41 (by omega) rfl d_Mo_isEnough_33 (hR _ _) ?_
      refine aw_iload_n d_Mo_isEnough_36 rfl rfl ?_
      refine aw_iald (n := i) (by omega) rfl rfl (by omega) d_Mo_isEnough_37 ?_
      refine aw_tv (v' := (k : Int)) hk ?_
      refine aw_ishl (a := 1) (k0 := k) rfl rfl (by omega) (by omega) d_Mo_isEnough_38 ?_
      refine aw_tv (v' := ((2 ^ k : Nat) : Int)) (by rw [Nat.one_mul]) ?_
      refine aw_icmp_ge (tgt := 115) d_Mo_isEnough_39 rfl (fun h39 => ?_) (fun h39 => ?_)
      · refine aw_iload d_Mo_isEnough_115 rfl ?_
        refine aw_if_ne (tgt := 125) d_Mo_isEnough_117 rfl (fun h117 => ?_) (fun h117 => ?_)
        · replace h117 := bn h117
          refine aw_iconst d_Mo_isEnough_125 (in_c rfl) ?_
          refine aw_tv (v' := bI (allB (fun c => anyB (fun w => s.testBit w && decide (¬ ((mI μ 90 (16 * c + w)).toNat &&& s) = 0)) (2 ^ k) || !anyB (fun w => decide (¬ mI μ 90 (16 * c + w) = 0)) (2 ^ k)) (c + 1))) (by rw [allB, h17]; simp only [show w = 2 ^ k by omega] at h117; simp only [h117]; rfl) ?_
          refine aw_goto (tgt := 130) d_Mo_isEnough_126 rfl ?_
          refine aw_istore_n (lst' := [_, _, _, _, _, _, _, _]) d_Mo_isEnough_130 rfl (Nat.le_of_ble_eq_true rfl) rfl ?_
          refine aw_iinc (lst' := [_, _, _, _, some (aI ((c + 1 : Nat) : Int)), _, _, _]) d_Mo_isEnough_131 (Nat.le_of_ble_eq_true rfl) rfl (by unfold inR; omega) rfl ?_
          refine aw_goto (tgt := 5) d_Mo_isEnough_134 rfl ?_
          exact ih (k - (c + 1)) (by omega) (c + 1) _ _ _ rfl (by omega)
        · replace h117 := bz h117
          refine aw_iload d_Mo_isEnough_120 rfl ?_
          refine aw_if_ne (tgt := 129) d_Mo_isEnough_122 rfl (fun h122 => ?_) (fun h122 => ?_)
          · replace h122 := bn h122
            refine aw_iconst d_Mo_isEnough_129 (in_c rfl) ?_
            refine aw_tv (v' := bI (allB (fun c => anyB (fun w => s.testBit w && decide (¬ ((mI μ 90 (16 * c + w)).toNat &&& s) = 0)) (2 ^ k) || !anyB (fun w => decide (¬ mI μ 90 (16 * c + w) = 0)) (2 ^ k)) (c + 1))) (by rw [allB, h17]; simp only [show w = 2 ^ k by omega] at h117 h122; simp only [h117, h122]; rfl) ?_
            refine aw_istore_n (lst' := [_, _, _, _, _, _, _, _]) d_Mo_isEnough_130 rfl (Nat.le_of_ble_eq_true rfl) rfl ?_
            refine aw_iinc (lst' := [_, _, _, _, some (aI ((c + 1 : Nat) : Int)), _, _, _]) d_Mo_isEnough_131 (Nat.le_of_ble_eq_true rfl) rfl (by unfold inR; omega) rfl ?_
            refine aw_goto (tgt := 5) d_Mo_isEnough_134 rfl ?_
            exact ih (k - (c + 1)) (by omega) (c + 1) _ _ _ rfl (by omega)
          · replace h122 := bz h122
            refine aw_iconst d_Mo_isEnough_125 (in_c rfl) ?_
            refine aw_tv (v' := bI (allB (fun c => anyB (fun w => s.testBit w && decide (¬ ((mI μ 90 (16 * c + w)).toNat &&& s) = 0)) (2 ^ k) || !anyB (fun w => decide (¬ mI μ 90 (16 * c + w) = 0)) (2 ^ k)) (c + 1))) (by rw [allB, h17]; simp only [show w = 2 ^ k by omega] at h117 h122; simp only [h117, h122]; rfl) ?_
            refine aw_goto (tgt := 130) d_Mo_isEnough_126 rfl ?_
            refine aw_istore_n (lst' := [_, _, _, _, _, _, _, _]) d_Mo_isEnough_130 rfl (Nat.le_of_ble_eq_true rfl) rfl ?_
            refine aw_iinc (lst' := [_, _, _, _, some (aI ((c + 1 : Nat) : Int)), _, _, _]) d_Mo_isEnough_131 (Nat.le_of_ble_eq_true rfl) rfl (by unfold inR; omega) rfl ?_
            refine aw_goto (tgt := 5) d_Mo_isEnough_134 rfl ?_
            exact ih (k - (c + 1)) (by omega) (c + 1) _ _ _ rfl (by omega)
      · refine aw_iload d_Mo_isEnough_42 rfl ?_
        refine aw_if_ne (tgt := 63) d_Mo_isEnough_44 rfl (fun h44 => ?_) (fun h44 => ?_)
        · replace h44 := bn h44
          refine aw_iconst d_Mo_isEnough_63 (in_c rfl) ?_
          refine aw_tv (v' := bI (anyB (fun w => decide (¬ mI μ 90 (16 * c + w) = 0)) (w + 1))) (by rw [anyB, h44]; rfl) ?_
          refine aw_goto (tgt := 68) d_Mo_isEnough_64 rfl ?_
          refine aw_istore (lst' := [_, _, _, _, _, _, _, _]) d_Mo_isEnough_68 (Nat.le_of_ble_eq_true rfl) rfl ?_
          refine aw_iload d_Mo_isEnough_70 rfl ?_
          refine aw_if_ne (tgt := 102) d_Mo_isEnough_72 rfl (fun h72 => ?_) (fun h72 => ?_)
          · replace h72 := bn h72
            refine aw_iconst d_Mo_isEnough_102 (in_c rfl) ?_
            refine aw_tv (v' := bI (anyB (fun w => s.testBit w && decide (¬ ((mI μ 90 (16 * c + w)).toNat &&& s) = 0)) (w + 1))) (by rw [anyB, h72]; rfl) ?_
            refine aw_goto (tgt := 107) d_Mo_isEnough_103 rfl ?_
            refine aw_istore (lst' := [_, _, _, _, _, _, _, _]) d_Mo_isEnough_107 (Nat.le_of_ble_eq_true rfl) rfl ?_
            refine aw_iinc (lst' := [_, _, _, _, _, _, _, some (aI ((w + 1 : Nat) : Int))]) d_Mo_isEnough_109 (Nat.le_of_ble_eq_true rfl) rfl (by unfold inR; omega) rfl ?_
            refine aw_goto (tgt := 29) d_Mo_isEnough_112 rfl ?_
            exact ih2 (2 ^ k - (w + 1)) (by omega) (w + 1) rfl ⟨hw.1, hw.2.1, by omega⟩
          · replace h72 := bz h72
            refine aw_iload_n d_Mo_isEnough_75 rfl rfl ?_
            refine aw_iload d_Mo_isEnough_76 rfl ?_
            refine aw_se (as := [_, _]) rfl cs_Mo_134 d_Mo_isEnough_78 (Nat.le_of_ble_eq_true rfl) (d' := d - 1) (by omega) (m_Mo_isIn (by omega) (by omega) (by omega)) ?_
            refine aw_if_eq (tgt := 106) d_Mo_isEnough_81 rfl (fun h81 => ?_) (fun h81 => ?_)
            · replace h81 := ite_z h81
              refine aw_iconst d_Mo_isEnough_106 (in_c rfl) ?_
              refine aw_tv (v' := bI (anyB (fun w => s.testBit w && decide (¬ ((mI μ 90 (16 * c + w)).toNat &&& s) = 0)) (w + 1))) (by rw [anyB, h72]; simp only [show s.testBit w = false from by simpa using h81]; rfl) ?_
              refine aw_istore (lst' := [_, _, _, _, _, _, _, _]) d_Mo_isEnough_107 (Nat.le_of_ble_eq_true rfl) rfl ?_
              refine aw_iinc (lst' := [_, _, _, _, _, _, _, some (aI ((w + 1 : Nat) : Int))]) d_Mo_isEnough_109 (Nat.le_of_ble_eq_true rfl) rfl (by unfold inR; omega) rfl ?_
              refine aw_goto (tgt := 29) d_Mo_isEnough_112 rfl ?_
              exact ih2 (2 ^ k - (w + 1)) (by omega) (w + 1) rfl ⟨hw.1, hw.2.1, by omega⟩
            · replace h81 := ite_n h81
              refine aw_aload_n d_Mo_isEnough_84 rfl rfl ?_
              refine aw_getR fd_Mo_partners lk_Mo_77 (by omega) rfl d_Mo_isEnough_85 (hR _ _) ?_
              refine aw_bipush (z := 16) d_Mo_isEnough_88 (in_c rfl) rfl ?_
              refine aw_iload d_Mo_isEnough_90 rfl ?_
              refine aw_imul d_Mo_isEnough_92 (by unfold inR; omega) ?_
              refine aw_iload d_Mo_isEnough_93 rfl ?_
              refine aw_iadd d_Mo_isEnough_95 (by unfold inR; omega) ?_
              refine aw_iald (n := 16 * c + w) (by omega) rfl (by omega) (by omega) d_Mo_isEnough_96 ?_
              refine aw_iload_n d_Mo_isEnough_97 rfl rfl ?_
              refine aw_iand (a := (mI μ 90 (16 * c + w)).toNat) (b := s) (by have := hpc (by omega); omega) rfl d_Mo_isEnough_98 ?_
              refine aw_if_eq (tgt := 106) d_Mo_isEnough_99 rfl (fun h99 => ?_) (fun h99 => ?_)
              · refine aw_iconst d_Mo_isEnough_106 (in_c rfl) ?_
                refine aw_tv (v' := bI (anyB (fun w => s.testBit w && decide (¬ ((mI μ 90 (16 * c + w)).toNat &&& s) = 0)) (w + 1))) (by rw [anyB, h72]; simp only [h81, decide_eq_false (fun z => z (by omega) : ¬ ¬ ((mI μ 90 (16 * c + w)).toNat &&& s) = 0)]; rfl) ?_
                refine aw_istore (lst' := [_, _, _, _, _, _, _, _]) d_Mo_isEnough_107 (Nat.le_of_ble_eq_true rfl) rfl ?_
                refine aw_iinc (lst' := [_, _, _, _, _, _, _, some (aI ((w + 1 : Nat) : Int))]) d_Mo_isEnough_109 (Nat.le_of_ble_eq_true rfl) rfl (by unfold inR; omega) rfl ?_
                refine aw_goto (tgt := 29) d_Mo_isEnough_112 rfl ?_
                exact ih2 (2 ^ k - (w + 1)) (by omega) (w + 1) rfl ⟨hw.1, hw.2.1, by omega⟩
              · refine aw_iconst d_Mo_isEnough_102 (in_c rfl) ?_
                refine aw_tv (v' := bI (anyB (fun w => s.testBit w && decide (¬ ((mI μ 90 (16 * c + w)).toNat &&& s) = 0)) (w + 1))) (by rw [anyB, h72]; simp only [h81, decide_eq_true (show ¬ ((mI μ 90 (16 * c + w)).toNat &&& s) = 0 by omega)]; rfl) ?_
                refine aw_goto (tgt := 107) d_Mo_isEnough_103 rfl ?_
                refine aw_istore (lst' := [_, _, _, _, _, _, _, _]) d_Mo_isEnough_107 (Nat.le_of_ble_eq_true rfl) rfl ?_
                refine aw_iinc (lst' := [_, _, _, _, _, _, _, some (aI ((w + 1 : Nat) : Int))]) d_Mo_isEnough_109 (Nat.le_of_ble_eq_true rfl) rfl (by unfold inR; omega) rfl ?_
                refine aw_goto (tgt := 29) d_Mo_isEnough_112 rfl ?_
                exact ih2 (2 ^ k - (w + 1)) (by omega) (w + 1) rfl ⟨hw.1, hw.2.1, by omega⟩
        · replace h44 := bz h44
          refine aw_aload_n d_Mo_isEnough_47 rfl rfl ?_
          refine aw_getR fd_Mo_partners lk_Mo_77 (by omega) rfl d_Mo_isEnough_48 (hR _ _) ?_
          refine aw_bipush (z := 16) d_Mo_isEnough_51 (in_c rfl) rfl ?_
          refine aw_iload d_Mo_isEnough_53 rfl ?_
          refine aw_imul d_Mo_isEnough_55 (by unfold inR; omega) ?_
          refine aw_iload d_Mo_isEnough_56 rfl ?_
          refine aw_iadd d_Mo_isEnough_58 (by unfold inR; omega) ?_
          refine aw_iald (n := 16 * c + w) (by omega) rfl (by omega) (by omega) d_Mo_isEnough_59 ?_
          refine aw_if_eq (tgt := 67) d_Mo_isEnough_60 rfl (fun h60 => ?_) (fun h60 => ?_)
          · refine aw_iconst d_Mo_isEnough_67 (in_c rfl) ?_
            refine aw_tv (v' := bI (anyB (fun w => decide (¬ mI μ 90 (16 * c + w) = 0)) (w + 1))) (by rw [anyB, h44, decide_eq_false (fun z => z h60)]; rfl) ?_
            refine aw_istore (lst' := [_, _, _, _, _, _, _, _]) d_Mo_isEnough_68 (Nat.le_of_ble_eq_true rfl) rfl ?_
            refine aw_iload d_Mo_isEnough_70 rfl ?_
            refine aw_if_ne (tgt := 102) d_Mo_isEnough_72 rfl (fun h72 => ?_) (fun h72 => ?_)
            · replace h72 := bn h72
              refine aw_iconst d_Mo_isEnough_102 (in_c rfl) ?_
              refine aw_tv (v' := bI (anyB (fun w => s.testBit w && decide (¬ ((mI μ 90 (16 * c + w)).toNat &&& s) = 0)) (w + 1))) (by rw [anyB, h72]; rfl) ?_
              refine aw_goto (tgt := 107) d_Mo_isEnough_103 rfl ?_
              refine aw_istore (lst' := [_, _, _, _, _, _, _, _]) d_Mo_isEnough_107 (Nat.le_of_ble_eq_true rfl) rfl ?_
              refine aw_iinc (lst' := [_, _, _, _, _, _, _, some (aI ((w + 1 : Nat) : Int))]) d_Mo_isEnough_109 (Nat.le_of_ble_eq_true rfl) rfl (by unfold inR; omega) rfl ?_
              refine aw_goto (tgt := 29) d_Mo_isEnough_112 rfl ?_
              exact ih2 (2 ^ k - (w + 1)) (by omega) (w + 1) rfl ⟨hw.1, hw.2.1, by omega⟩
            · replace h72 := bz h72
              refine aw_iload_n d_Mo_isEnough_75 rfl rfl ?_
              refine aw_iload d_Mo_isEnough_76 rfl ?_
              refine aw_se (as := [_, _]) rfl cs_Mo_134 d_Mo_isEnough_78 (Nat.le_of_ble_eq_true rfl) (d' := d - 1) (by omega) (m_Mo_isIn (by omega) (by omega) (by omega)) ?_
              refine aw_if_eq (tgt := 106) d_Mo_isEnough_81 rfl (fun h81 => ?_) (fun h81 => ?_)
              · replace h81 := ite_z h81
                refine aw_iconst d_Mo_isEnough_106 (in_c rfl) ?_
                refine aw_tv (v' := bI (anyB (fun w => s.testBit w && decide (¬ ((mI μ 90 (16 * c + w)).toNat &&& s) = 0)) (w + 1))) (by rw [anyB, h72]; simp only [show s.testBit w = false from by simpa using h81]; rfl) ?_
                refine aw_istore (lst' := [_, _, _, _, _, _, _, _]) d_Mo_isEnough_107 (Nat.le_of_ble_eq_true rfl) rfl ?_
                refine aw_iinc (lst' := [_, _, _, _, _, _, _, some (aI ((w + 1 : Nat) : Int))]) d_Mo_isEnough_109 (Nat.le_of_ble_eq_true rfl) rfl (by unfold inR; omega) rfl ?_
                refine aw_goto (tgt := 29) d_Mo_isEnough_112 rfl ?_
                exact ih2 (2 ^ k - (w + 1)) (by omega) (w + 1) rfl ⟨hw.1, hw.2.1, by omega⟩
              · replace h81 := ite_n h81
                refine aw_aload_n d_Mo_isEnough_84 rfl rfl ?_
                refine aw_getR fd_Mo_partners lk_Mo_77 (by omega) rfl d_Mo_isEnough_85 (hR _ _) ?_
                refine aw_bipush (z := 16) d_Mo_isEnough_88 (in_c rfl) rfl ?_
                refine aw_iload d_Mo_isEnough_90 rfl ?_
                refine aw_imul d_Mo_isEnough_92 (by unfold inR; omega) ?_
                refine aw_iload d_Mo_isEnough_93 rfl ?_
                refine aw_iadd d_Mo_isEnough_95 (by unfold inR; omega) ?_
                refine aw_iald (n := 16 * c + w) (by omega) rfl (by omega) (by omega) d_Mo_isEnough_96 ?_
                refine aw_iload_n d_Mo_isEnough_97 rfl rfl ?_
                refine aw_iand (a := (mI μ 90 (16 * c + w)).toNat) (b := s) (by have := hpc (by omega); omega) rfl d_Mo_isEnough_98 ?_
                refine aw_if_eq (tgt := 106) d_Mo_isEnough_99 rfl (fun h99 => ?_) (fun h99 => ?_)
                · refine aw_iconst d_Mo_isEnough_106 (in_c rfl) ?_
                  refine aw_tv (v' := bI (anyB (fun w => s.testBit w && decide (¬ ((mI μ 90 (16 * c + w)).toNat &&& s) = 0)) (w + 1))) (by rw [anyB, h72]; simp only [h81, decide_eq_false (fun z => z (by omega) : ¬ ¬ ((mI μ 90 (16 * c + w)).toNat &&& s) = 0)]; rfl) ?_
                  refine aw_istore (lst' := [_, _, _, _, _, _, _, _]) d_Mo_isEnough_107 (Nat.le_of_ble_eq_true rfl) rfl ?_
                  refine aw_iinc (lst' := [_, _, _, _, _, _, _, some (aI ((w + 1 : Nat) : Int))]) d_Mo_isEnough_109 (Nat.le_of_ble_eq_true rfl) rfl (by unfold inR; omega) rfl ?_
                  refine aw_goto (tgt := 29) d_Mo_isEnough_112 rfl ?_
                  exact ih2 (2 ^ k - (w + 1)) (by omega) (w + 1) rfl ⟨hw.1, hw.2.1, by omega⟩
                · refine aw_iconst d_Mo_isEnough_102 (in_c rfl) ?_
                  refine aw_tv (v' := bI (anyB (fun w => s.testBit w && decide (¬ ((mI μ 90 (16 * c + w)).toNat &&& s) = 0)) (w + 1))) (by rw [anyB, h72]; simp only [h81, decide_eq_true (show ¬ ((mI μ 90 (16 * c + w)).toNat &&& s) = 0 by omega)]; rfl) ?_
                  refine aw_goto (tgt := 107) d_Mo_isEnough_103 rfl ?_
                  refine aw_istore (lst' := [_, _, _, _, _, _, _, _]) d_Mo_isEnough_107 (Nat.le_of_ble_eq_true rfl) rfl ?_
                  refine aw_iinc (lst' := [_, _, _, _, _, _, _, some (aI ((w + 1 : Nat) : Int))]) d_Mo_isEnough_109 (Nat.le_of_ble_eq_true rfl) rfl (by unfold inR; omega) rfl ?_
                  refine aw_goto (tgt := 29) d_Mo_isEnough_112 rfl ?_
                  exact ih2 (2 ^ k - (w + 1)) (by omega) (w + 1) rfl ⟨hw.1, hw.2.1, by omega⟩
          · refine aw_iconst d_Mo_isEnough_63 (in_c rfl) ?_
            refine aw_tv (v' := bI (anyB (fun w => decide (¬ mI μ 90 (16 * c + w) = 0)) (w + 1))) (by rw [anyB, h44, decide_eq_true h60]; rfl) ?_
            refine aw_goto (tgt := 68) d_Mo_isEnough_64 rfl ?_
            refine aw_istore (lst' := [_, _, _, _, _, _, _, _]) d_Mo_isEnough_68 (Nat.le_of_ble_eq_true rfl) rfl ?_
            refine aw_iload d_Mo_isEnough_70 rfl ?_
            refine aw_if_ne (tgt := 102) d_Mo_isEnough_72 rfl (fun h72 => ?_) (fun h72 => ?_)
            · replace h72 := bn h72
              refine aw_iconst d_Mo_isEnough_102 (in_c rfl) ?_
              refine aw_tv (v' := bI (anyB (fun w => s.testBit w && decide (¬ ((mI μ 90 (16 * c + w)).toNat &&& s) = 0)) (w + 1))) (by rw [anyB, h72]; rfl) ?_
              refine aw_goto (tgt := 107) d_Mo_isEnough_103 rfl ?_
              refine aw_istore (lst' := [_, _, _, _, _, _, _, _]) d_Mo_isEnough_107 (Nat.le_of_ble_eq_true rfl) rfl ?_
              refine aw_iinc (lst' := [_, _, _, _, _, _, _, some (aI ((w + 1 : Nat) : Int))]) d_Mo_isEnough_109 (Nat.le_of_ble_eq_true rfl) rfl (by unfold inR; omega) rfl ?_
              refine aw_goto (tgt := 29) d_Mo_isEnough_112 rfl ?_
              exact ih2 (2 ^ k - (w + 1)) (by omega) (w + 1) rfl ⟨hw.1, hw.2.1, by omega⟩
            · replace h72 := bz h72
              refine aw_iload_n d_Mo_isEnough_75 rfl rfl ?_
              refine aw_iload d_Mo_isEnough_76 rfl ?_
              refine aw_se (as := [_, _]) rfl cs_Mo_134 d_Mo_isEnough_78 (Nat.le_of_ble_eq_true rfl) (d' := d - 1) (by omega) (m_Mo_isIn (by omega) (by omega) (by omega)) ?_
              refine aw_if_eq (tgt := 106) d_Mo_isEnough_81 rfl (fun h81 => ?_) (fun h81 => ?_)
              · replace h81 := ite_z h81
                refine aw_iconst d_Mo_isEnough_106 (in_c rfl) ?_
                refine aw_tv (v' := bI (anyB (fun w => s.testBit w && decide (¬ ((mI μ 90 (16 * c + w)).toNat &&& s) = 0)) (w + 1))) (by rw [anyB, h72]; simp only [show s.testBit w = false from by simpa using h81]; rfl) ?_
                refine aw_istore (lst' := [_, _, _, _, _, _, _, _]) d_Mo_isEnough_107 (Nat.le_of_ble_eq_true rfl) rfl ?_
                refine aw_iinc (lst' := [_, _, _, _, _, _, _, some (aI ((w + 1 : Nat) : Int))]) d_Mo_isEnough_109 (Nat.le_of_ble_eq_true rfl) rfl (by unfold inR; omega) rfl ?_
                refine aw_goto (tgt := 29) d_Mo_isEnough_112 rfl ?_
                exact ih2 (2 ^ k - (w + 1)) (by omega) (w + 1) rfl ⟨hw.1, hw.2.1, by omega⟩
              · replace h81 := ite_n h81
                refine aw_aload_n d_Mo_isEnough_84 rfl rfl ?_
                refine aw_getR fd_Mo_partners lk_Mo_77 (by omega) rfl d_Mo_isEnough_85 (hR _ _) ?_
                refine aw_bipush (z := 16) d_Mo_isEnough_88 (in_c rfl) rfl ?_
                refine aw_iload d_Mo_isEnough_90 rfl ?_
                refine aw_imul d_Mo_isEnough_92 (by unfold inR; omega) ?_
                refine aw_iload d_Mo_isEnough_93 rfl ?_
                refine aw_iadd d_Mo_isEnough_95 (by unfold inR; omega) ?_
                refine aw_iald (n := 16 * c + w) (by omega) rfl (by omega) (by omega) d_Mo_isEnough_96 ?_
                refine aw_iload_n d_Mo_isEnough_97 rfl rfl ?_
                refine aw_iand (a := (mI μ 90 (16 * c + w)).toNat) (b := s) (by have := hpc (by omega); omega) rfl d_Mo_isEnough_98 ?_
                refine aw_if_eq (tgt := 106) d_Mo_isEnough_99 rfl (fun h99 => ?_) (fun h99 => ?_)
                · refine aw_iconst d_Mo_isEnough_106 (in_c rfl) ?_
                  refine aw_tv (v' := bI (anyB (fun w => s.testBit w && decide (¬ ((mI μ 90 (16 * c + w)).toNat &&& s) = 0)) (w + 1))) (by rw [anyB, h72]; simp only [h81, decide_eq_false (fun z => z (by omega) : ¬ ¬ ((mI μ 90 (16 * c + w)).toNat &&& s) = 0)]; rfl) ?_
                  refine aw_istore (lst' := [_, _, _, _, _, _, _, _]) d_Mo_isEnough_107 (Nat.le_of_ble_eq_true rfl) rfl ?_
                  refine aw_iinc (lst' := [_, _, _, _, _, _, _, some (aI ((w + 1 : Nat) : Int))]) d_Mo_isEnough_109 (Nat.le_of_ble_eq_true rfl) rfl (by unfold inR; omega) rfl ?_
                  refine aw_goto (tgt := 29) d_Mo_isEnough_112 rfl ?_
                  exact ih2 (2 ^ k - (w + 1)) (by omega) (w + 1) rfl ⟨hw.1, hw.2.1, by omega⟩
                · refine aw_iconst d_Mo_isEnough_102 (in_c rfl) ?_
                  refine aw_tv (v' := bI (anyB (fun w => s.testBit w && decide (¬ ((mI μ 90 (16 * c + w)).toNat &&& s) = 0)) (w + 1))) (by rw [anyB, h72]; simp only [h81, decide_eq_true (show ¬ ((mI μ 90 (16 * c + w)).toNat &&& s) = 0 by omega)]; rfl) ?_
                  refine aw_goto (tgt := 107) d_Mo_isEnough_103 rfl ?_
                  refine aw_istore (lst' := [_, _, _, _, _, _, _, _]) d_Mo_isEnough_107 (Nat.le_of_ble_eq_true rfl) rfl ?_
                  refine aw_iinc (lst' := [_, _, _, _, _, _, _, some (aI ((w + 1 : Nat) : Int))]) d_Mo_isEnough_109 (Nat.le_of_ble_eq_true rfl) rfl (by unfold inR; omega) rfl ?_
                  refine aw_goto (tgt := 29) d_Mo_isEnough_112 rfl ?_
                  exact ih2 (2 ^ k - (w + 1)) (by omega) (w + 1) rfl ⟨hw.1, hw.2.1, by omega⟩
    refine aw_iload d_Mo_isEnough_5 rfl ?_
    refine aw_aload_n d_Mo_isEnough_7 rfl rfl ?_
    refine aw_getR fd_Mo_many lk_Mo_41 (by omega) rfl d_Mo_isEnough_8 (hR _ _) ?_
    refine aw_iload_n d_Mo_isEnough_11 rfl rfl ?_
    refine aw_iald (n := i) (by omega) rfl rfl (by omega) d_Mo_isEnough_12 ?_
    refine aw_tv (v' := (k : Int)) hk ?_
    refine aw_icmp_ge (tgt := 137) d_Mo_isEnough_13 rfl (fun h13 => ?_) (fun h13 => ?_)
    · refine aw_iload_n d_Mo_isEnough_137 rfl rfl ?_
      exact aw_zret d_Mo_isEnough_138 rfl (bI_nr _) ⟨by unfold oEn; rw [show c = k by omega], rfl, rfl⟩
    · refine aw_iload_n d_Mo_isEnough_16 rfl rfl ?_
      refine aw_if_eq (tgt := 137) d_Mo_isEnough_17 rfl (fun h17 => ?_) (fun h17 => ?_)
      · replace h17 := bz h17
        refine aw_iload_n d_Mo_isEnough_137 rfl rfl ?_
        exact aw_zret d_Mo_isEnough_138 rfl (bI_nr _) ⟨by unfold oEn; rw [h17, allB_no h17 k hc], rfl, rfl⟩
      · replace h17 := bn h17
        refine aw_iconst d_Mo_isEnough_20 (in_c rfl) ?_
        refine aw_istore (lst' := [_, _, _, _, _, _, _, _]) d_Mo_isEnough_21 (Nat.le_of_ble_eq_true rfl) rfl ?_
        refine aw_iconst d_Mo_isEnough_23 (in_c rfl) ?_
        refine aw_istore (lst' := [_, _, _, _, _, _, _, _]) d_Mo_isEnough_24 (Nat.le_of_ble_eq_true rfl) rfl ?_
        refine aw_iconst d_Mo_isEnough_26 (in_c rfl) ?_
        refine aw_istore (lst' := [_, _, _, _, _, _, _, _]) d_Mo_isEnough_27 (Nat.le_of_ble_eq_true rfl) rfl ?_
        exact inn (2 ^ k - 0) 0 rfl ⟨by omega, h17, Nat.zero_le _⟩
  refine aw_iconst d_Mo_isEnough_0 (in_c rfl) ?_
  refine aw_istore_n (lst' := [_, _, _, _, _, _, _, _]) d_Mo_isEnough_1 rfl (Nat.le_of_ble_eq_true rfl) rfl ?_
  refine aw_iconst d_Mo_isEnough_2 (in_c rfl) ?_
  refine aw_istore (lst' := [_, _, _, _, _, _, _, _]) d_Mo_isEnough_3 (Nat.le_of_ble_eq_true rfl) rfl ?_
  exact key (k - 0) 0 none none none rfl (Nat.zero_le _)
set_option maxRecDepth 100000 in
theorem g_Mo_least {d : Nat} (hd : 4 ≤ d) {i : Nat} (hi : (i : Int) < mI μ 67 11) (h4 : mI μ 67 11 ≤ 4) {k : Nat} (hk : mI μ 78 i = (k : Int)) (h6 : k ≤ 6) (hse : ∀ j, j < 256 → 0 ≤ mI μ 83 j ∧ mI μ 83 j < 64) (hu : ∀ j, j < 6 → 0 ≤ mI μ 79 (6 * i + j) ∧ mI μ 79 (6 * i + j) < 8) (hR : ∀ k j, mR μ k j = R0 pg k j) {q : Int} (hq : inR q) (hp : okP μ) : AM G false d 0 0 y_Mo_least [aP 67, aI (i : Int), aI q] 94 μ (fun r n9 m => n9 = 94 ∧ ((¬ (0 ≤ q ∧ q ≤ 2) ∧ r = .inl (some (aI 0)) ∧ m = wI μ 67 0 2) ∨ ((0 ≤ q ∧ q ≤ 2) ∧ ¬ k ≤ 4 ∧ r = .inl (some (aI (-1))) ∧ m = wI μ 67 0 0) ∨ ((0 ≤ q ∧ q ≤ 2) ∧ k ≤ 4 ∧ r = .inl (some (aI ((bst (oEn (leM μ i k q k) k (2 ^ k)) (2 ^ 2 ^ k) : Nat) : Int))) ∧ m = (leM μ i k q k)))) := by
  refine am_of (n := 4) pf_Mo_least (Nat.le_of_ble_eq_true rfl) (by intro v hv; simp only [List.mem_cons, List.not_mem_nil, or_false] at hv; rcases hv with rfl | rfl | rfl <;> first | trivial | assumption | exact in_c rfl | exact bI_in _ | (show inR _; unfold inR; omega)) rfl ?_
  have key2 : ∀ (m : Nat) (s : Nat) (o6 : Option aV), 2 ^ 2 ^ k - s = m → (((0 ≤ q ∧ q ≤ 2) ∧ k ≤ 4) ∧ s ≤ 2 ^ 2 ^ k) → AW G false y_Mo_least d 0 0 (fun r n9 m => n9 = 94 ∧ ((¬ (0 ≤ q ∧ q ≤ 2) ∧ r = .inl (some (aI 0)) ∧ m = wI μ 67 0 2) ∨ ((0 ≤ q ∧ q ≤ 2) ∧ ¬ k ≤ 4 ∧ r = .inl (some (aI (-1))) ∧ m = wI μ 67 0 0) ∨ ((0 ≤ q ∧ q ≤ 2) ∧ k ≤ 4 ∧ r = .inl (some (aI ((bst (oEn (leM μ i k q k) k (2 ^ k)) (2 ^ 2 ^ k) : Nat) : Int))) ∧ m = (leM μ i k q k)))) 188 [some (aP 67), some (aI (i : Int)), some (aI q), some (aI ((2 ^ k : Nat) : Int)), some (aI ((bst (oEn (leM μ i k q k) k (2 ^ k)) s : Nat) : Int)), some (aI (s : Int)), o6] [] 94 (leM μ i k q k) := by
    intro m
    induction m using Nat.strongRecOn with | _ m ih =>
    intro s o6 hm hj
    have hFe : FrL (wI μ 67 0 0) (leM μ i k q k) := leM_fr μ i k q k
    have hke : mI (leM μ i k q k) 78 i = (k : Int) := (le_fx hFe (by omega) (by omega)).trans hk
    have hsee : ∀ j', j' < 256 → 0 ≤ mI (leM μ i k q k) 83 j' ∧ mI (leM μ i k q k) 83 j' < 64 := fun j' z => by rw [le_fx hFe (by omega) (by omega)]; exact hse j' z
    have hue : ∀ j', j' < 6 → 0 ≤ mI (leM μ i k q k) 79 (6 * i + j') ∧ mI (leM μ i k q k) 79 (6 * i + j') < 8 := fun j' z => by rw [le_fx hFe (by omega) (by omega)]; exact hu j' z
    have hRe : ∀ a b, mR (leM μ i k q k) a b = R0 pg a b := fun a b => (hFe.2.2 a b).trans (hR a b)
    have hpe : okP (leM μ i k q k) := leM_ok hj.1.2 hp k
    have hpw : 2 ^ k ≤ 16 := Nat.pow_le_pow_right (n := 2) (by omega) hj.1.2
    have hpp : 2 ^ 2 ^ k ≤ 2 ^ 16 := Nat.pow_le_pow_right (by omega) hpw
    have hcl : cnt 31 s ≤ 31 := by rw [cnt_cn]; exact cn_le _ _
    have hbl := bst_100 (oEn (leM μ i k q k) k (2 ^ k)) s
    refine aw_iload d_Mo_least_188 rfl ?_
    refine aw_iconst d_Mo_least_190 (in_c rfl) ?_
    refine aw_iload_n d_Mo_least_191 rfl rfl ?_
    refine aw_ishl (a := 1) (k0 := 2 ^ k) rfl rfl (by omega) (by omega) d_Mo_least_192 ?_
    refine aw_tv (v' := ((2 ^ 2 ^ k : Nat) : Int)) (by rw [Nat.one_mul]) ?_
    refine aw_icmp_ge (tgt := 235) d_Mo_least_193 rfl (fun h193 => ?_) (fun h193 => ?_)
    · refine aw_iload d_Mo_least_235 rfl ?_
      exact aw_iret d_Mo_least_237 rfl ⟨rfl, Or.inr (Or.inr ⟨hj.1.1, hj.1.2, by rw [show s = 2 ^ 2 ^ k by omega], rfl⟩)⟩
    · refine aw_iload d_Mo_least_196 rfl ?_
      refine aw_se (as := [_]) rfl cs_Mo_106 d_Mo_least_198 (Nat.le_of_ble_eq_true rfl) (d' := d - 1) (by omega) (m_Mo_countOf (by omega) (by omega)) ?_
      refine aw_istore (lst' := [_, _, _, _, _, _, _]) d_Mo_least_201 (Nat.le_of_ble_eq_true rfl) rfl ?_
      refine aw_iload d_Mo_least_203 rfl ?_
      refine aw_iload d_Mo_least_205 rfl ?_
      refine aw_icmp_ge (tgt := 225) d_Mo_least_207 rfl (fun h207 => ?_) (fun h207 => ?_)
      · refine aw_iload d_Mo_least_225 rfl ?_
        refine aw_tv (v' := ((bst (oEn (leM μ i k q k) k (2 ^ k)) (s + 1) : Nat) : Int)) (by rw [bst, if_neg (fun z => absurd z.1 (by omega))]) ?_
        refine aw_istore (lst' := [_, _, _, _, _, _, _]) d_Mo_least_227 (Nat.le_of_ble_eq_true rfl) rfl ?_
        refine aw_iinc (lst' := [_, _, _, _, _, some (aI ((s + 1 : Nat) : Int)), _]) d_Mo_least_229 (Nat.le_of_ble_eq_true rfl) rfl (by unfold inR; omega) rfl ?_
        refine aw_goto (tgt := 188) d_Mo_least_232 rfl ?_
        exact ih (2 ^ 2 ^ k - (s + 1)) (by omega) (s + 1) _ rfl ⟨hj.1, by omega⟩
      · refine aw_aload_n d_Mo_least_210 rfl rfl ?_
        refine aw_iload_n d_Mo_least_211 rfl rfl ?_
        refine aw_iload d_Mo_least_212 rfl ?_
        refine aw_ve (as := [_, _]) rfl cv_Mo_207 (by omega) rfl rfl d_Mo_least_214 (Nat.le_of_ble_eq_true rfl) (d' := d - 1) (by omega) (m_Mo_isEnough (μ := (leM μ i k q k)) (by omega) (by omega) hke hj.1.2 (by omega) hpe hRe) ?_
        refine aw_if_eq (tgt := 225) d_Mo_least_217 rfl (fun h217 => ?_) (fun h217 => ?_)
        · replace h217 := bz h217
          refine aw_iload d_Mo_least_225 rfl ?_
          refine aw_tv (v' := ((bst (oEn (leM μ i k q k) k (2 ^ k)) (s + 1) : Nat) : Int)) (by rw [bst, if_neg (fun z => by rw [h217] at z; exact absurd z.2 (by decide))]) ?_
          refine aw_istore (lst' := [_, _, _, _, _, _, _]) d_Mo_least_227 (Nat.le_of_ble_eq_true rfl) rfl ?_
          refine aw_iinc (lst' := [_, _, _, _, _, some (aI ((s + 1 : Nat) : Int)), _]) d_Mo_least_229 (Nat.le_of_ble_eq_true rfl) rfl (by unfold inR; omega) rfl ?_
          refine aw_goto (tgt := 188) d_Mo_least_232 rfl ?_
          exact ih (2 ^ 2 ^ k - (s + 1)) (by omega) (s + 1) _ rfl ⟨hj.1, by omega⟩
        · replace h217 := bn h217
          refine aw_iload d_Mo_least_220 rfl ?_
          refine aw_tv (v' := ((bst (oEn (leM μ i k q k) k (2 ^ k)) (s + 1) : Nat) : Int)) (by rw [bst, if_pos ⟨by omega, h217⟩]) ?_
          refine aw_goto (tgt := 227) d_Mo_least_222 rfl ?_
          refine aw_istore (lst' := [_, _, _, _, _, _, _]) d_Mo_least_227 (Nat.le_of_ble_eq_true rfl) rfl ?_
          refine aw_iinc (lst' := [_, _, _, _, _, some (aI ((s + 1 : Nat) : Int)), _]) d_Mo_least_229 (Nat.le_of_ble_eq_true rfl) rfl (by unfold inR; omega) rfl ?_
          refine aw_goto (tgt := 188) d_Mo_least_232 rfl ?_
          exact ih (2 ^ 2 ^ k - (s + 1)) (by omega) (s + 1) _ rfl ⟨hj.1, by omega⟩
  have key : ∀ (m : Nat) (c : Nat) (o5 o6 : Option aV), k - c = m → (((0 ≤ q ∧ q ≤ 2) ∧ k ≤ 4) ∧ c ≤ k) → AW G false y_Mo_least d 0 0 (fun r n9 m => n9 = 94 ∧ ((¬ (0 ≤ q ∧ q ≤ 2) ∧ r = .inl (some (aI 0)) ∧ m = wI μ 67 0 2) ∨ ((0 ≤ q ∧ q ≤ 2) ∧ ¬ k ≤ 4 ∧ r = .inl (some (aI (-1))) ∧ m = wI μ 67 0 0) ∨ ((0 ≤ q ∧ q ≤ 2) ∧ k ≤ 4 ∧ r = .inl (some (aI ((bst (oEn (leM μ i k q k) k (2 ^ k)) (2 ^ 2 ^ k) : Nat) : Int))) ∧ m = (leM μ i k q k)))) 58 [some (aP 67), some (aI (i : Int)), some (aI q), some (aI ((2 ^ k : Nat) : Int)), some (aI (c : Int)), o5, o6] [] 94 (leM μ i k q c) := by
    intro m
    induction m using Nat.strongRecOn with | _ m ih =>
    intro c o5 o6 hm hj
    have hFc : FrL (wI μ 67 0 0) (leM μ i k q c) := leM_fr μ i k q c
    have hkc : mI (leM μ i k q c) 78 i = (k : Int) := (le_fx hFc (by omega) (by omega)).trans hk
    have hsec : ∀ j', j' < 256 → 0 ≤ mI (leM μ i k q c) 83 j' ∧ mI (leM μ i k q c) 83 j' < 64 := fun j' z => by rw [le_fx hFc (by omega) (by omega)]; exact hse j' z
    have huc : ∀ j', j' < 6 → 0 ≤ mI (leM μ i k q c) 79 (6 * i + j') ∧ mI (leM μ i k q c) 79 (6 * i + j') < 8 := fun j' z => by rw [le_fx hFc (by omega) (by omega)]; exact hu j' z
    have hRc : ∀ a b, mR (leM μ i k q c) a b = R0 pg a b := fun a b => (hFc.2.2 a b).trans (hR a b)
    have hpw : 2 ^ k ≤ 16 := Nat.pow_le_pow_right (n := 2) (by omega) hj.1.2
    have mid : ∀ (m2 : Nat) (v : Nat) (o6 : Option aV), 2 ^ k - v = m2 → (c < k ∧ v ≤ 2 ^ k) → AW G false y_Mo_least d 0 0 (fun r n9 m => n9 = 94 ∧ ((¬ (0 ≤ q ∧ q ≤ 2) ∧ r = .inl (some (aI 0)) ∧ m = wI μ 67 0 2) ∨ ((0 ≤ q ∧ q ≤ 2) ∧ ¬ k ≤ 4 ∧ r = .inl (some (aI (-1))) ∧ m = wI μ 67 0 0) ∨ ((0 ≤ q ∧ q ≤ 2) ∧ k ≤ 4 ∧ r = .inl (some (aI ((bst (oEn (leM μ i k q k) k (2 ^ k)) (2 ^ 2 ^ k) : Nat) : Int))) ∧ m = (leM μ i k q k)))) 72 [some (aP 67), some (aI (i : Int)), some (aI q), some (aI ((2 ^ k : Nat) : Int)), some (aI (c : Int)), some (aI (v : Int)), o6] [] 94 (lpM μ i k c q (leM μ i k q c) v) := by
      intro m2
      induction m2 using Nat.strongRecOn with | _ m2 ih2 =>
      intro v o6 hm2 hv
      have hRv : ∀ a b, mR (lpM μ i k c q (leM μ i k q c) v) a b = R0 pg a b := fun a b => ((lpM_fr μ i k c q (leM μ i k q c) v).2.2 a b).trans (hRc a b)
      have inn : ∀ (m3 : Nat) (w : Nat), 2 ^ k - w = m3 → (v < 2 ^ k ∧ w ≤ 2 ^ k) → AW G false y_Mo_least d 0 0 (fun r n9 m => n9 = 94 ∧ ((¬ (0 ≤ q ∧ q ≤ 2) ∧ r = .inl (some (aI 0)) ∧ m = wI μ 67 0 2) ∨ ((0 ≤ q ∧ q ≤ 2) ∧ ¬ k ≤ 4 ∧ r = .inl (some (aI (-1))) ∧ m = wI μ 67 0 0) ∨ ((0 ≤ q ∧ q ≤ 2) ∧ k ≤ 4 ∧ r = .inl (some (aI ((bst (oEn (leM μ i k q k) k (2 ^ k)) (2 ^ 2 ^ k) : Nat) : Int))) ∧ m = (leM μ i k q k)))) 95 [some (aP 67), some (aI (i : Int)), some (aI q), some (aI ((2 ^ k : Nat) : Int)), some (aI (c : Int)), some (aI (v : Int)), some (aI (w : Int))] [] 94 (wI (lpM μ i k c q (leM μ i k q c) v) 90 (16 * c + v) ((wb (oW μ i k c q v) w : Nat) : Int)) := by
        intro m3
        induction m3 using Nat.strongRecOn with | _ m3 ih3 =>
        intro w hm3 hw
        have hFw : FrL (wI μ 67 0 0) (wI (lpM μ i k c q (leM μ i k q c) v) 90 (16 * c + v) ((wb (oW μ i k c q v) w : Nat) : Int)) := ((leM_fr μ i k q c).trans (lpM_fr μ i k c q (leM μ i k q c) v)).trans (FrL_w _ _ _)
        have hkw : mI (wI (lpM μ i k c q (leM μ i k q c) v) 90 (16 * c + v) ((wb (oW μ i k c q v) w : Nat) : Int)) 78 i = (k : Int) := (le_fx hFw (by omega) (by omega)).trans hk
        have hsew : ∀ j', j' < 256 → 0 ≤ mI (wI (lpM μ i k c q (leM μ i k q c) v) 90 (16 * c + v) ((wb (oW μ i k c q v) w : Nat) : Int)) 83 j' ∧ mI (wI (lpM μ i k c q (leM μ i k q c) v) 90 (16 * c + v) ((wb (oW μ i k c q v) w : Nat) : Int)) 83 j' < 64 := fun j' z => by rw [le_fx hFw (by omega) (by omega)]; exact hse j' z
        have huw : ∀ j', j' < 6 → 0 ≤ mI (wI (lpM μ i k c q (leM μ i k q c) v) 90 (16 * c + v) ((wb (oW μ i k c q v) w : Nat) : Int)) 79 (6 * i + j') ∧ mI (wI (lpM μ i k c q (leM μ i k q c) v) 90 (16 * c + v) ((wb (oW μ i k c q v) w : Nat) : Int)) 79 (6 * i + j') < 8 := fun j' z => by rw [le_fx hFw (by omega) (by omega)]; exact hu j' z
        have hRw : ∀ a b, mR (wI (lpM μ i k c q (leM μ i k q c) v) 90 (16 * c + v) ((wb (oW μ i k c q v) w : Nat) : Int)) a b = R0 pg a b := fun a b => (hFw.2.2 a b).trans (hR a b)
        refine aw_iload d_Mo_least_95 rfl ?_
        refine aw_iload_n d_Mo_least_97 rfl rfl ?_
        refine aw_icmp_ge (tgt := 169) d_Mo_least_98 rfl (fun h98 => ?_) (fun h98 => ?_)
        · refine aw_iinc (lst' := [_, _, _, _, _, some (aI ((v + 1 : Nat) : Int)), _]) d_Mo_least_169 (Nat.le_of_ble_eq_true rfl) rfl (by unfold inR; omega) rfl ?_
          refine aw_goto (tgt := 72) d_Mo_least_172 rfl ?_
          refine aw_mm (μ' := lpM μ i k c q (leM μ i k q c) (v + 1)) (by rw [show w = 2 ^ k by omega]; rfl) ?_
          exact ih2 (2 ^ k - (v + 1)) (by omega) (v + 1) _ rfl ⟨hv.1, by omega⟩
        · refine aw_aload_n d_Mo_least_101 rfl rfl ?_
          refine aw_getR fd_Mo_partners lk_Mo_77 (by omega) rfl d_Mo_least_102 (hRw _ _) ?_
          refine aw_bipush (z := 16) d_Mo_least_105 (in_c rfl) rfl ?_
          refine aw_iload d_Mo_least_107 rfl ?_
          refine aw_imul d_Mo_least_109 (by unfold inR; omega) ?_
          refine aw_iload d_Mo_least_110 rfl ?_
          refine aw_iadd d_Mo_least_112 (by unfold inR; omega) ?_
          refine aw_aload_n d_Mo_least_113 rfl rfl ?_
          refine aw_iload_n d_Mo_least_114 rfl rfl ?_
          refine aw_iload d_Mo_least_115 rfl ?_
          refine aw_iload_n d_Mo_least_117 rfl rfl ?_
          refine aw_pc (pc' := 118) rfl ?_
          refine aw_iload d_Mo_least_118 rfl ?_
          refine aw_iload d_Mo_least_120 rfl ?_
          refine aw_ve (as := [_, _, _, _, _]) rfl cv_Mo_187 (by omega) rfl rfl d_Mo_least_122 (Nat.le_of_ble_eq_true rfl) (d' := d - 1) (by omega) (m_Mo_shows (μ := (wI (lpM μ i k c q (leM μ i k q c) v) 90 (16 * c + v) ((wb (oW μ i k c q v) w : Nat) : Int))) (i := i) (k := k) (c := c) (v := v) (w := w) (q := q) (by omega) (by omega) hkw (by omega) hv.1 hj.1.1.1 hj.1.1.2 (by omega) (by omega) hsew huw hRw) ?_
          refine aw_tv (v' := bI (oW μ i k c q v w)) (by rw [le_oW hFw]) ?_
          refine aw_if_eq (tgt := 149) d_Mo_least_125 rfl (fun h125 => ?_) (fun h125 => ?_)
          · replace h125 := bz h125
            refine aw_aload_n d_Mo_least_149 rfl rfl ?_
            refine aw_getR fd_Mo_partners lk_Mo_77 (by omega) rfl d_Mo_least_150 (hRw _ _) ?_
            refine aw_bipush (z := 16) d_Mo_least_153 (in_c rfl) rfl ?_
            refine aw_iload d_Mo_least_155 rfl ?_
            refine aw_imul d_Mo_least_157 (by unfold inR; omega) ?_
            refine aw_iload d_Mo_least_158 rfl ?_
            refine aw_iadd d_Mo_least_160 (by unfold inR; omega) ?_
            refine aw_iald (n := 16 * c + v) (by omega) rfl (by omega) (by omega) d_Mo_least_161 ?_
            refine aw_tv (v' := ((wb (oW μ i k c q v) (w + 1) : Nat) : Int)) (by rw [mI_wI, if_pos ⟨rfl, rfl⟩, wb_step, h125]; rfl) ?_
            refine aw_iast (n := 16 * c + v) (by omega) rfl (by omega) (by omega) d_Mo_least_162 ?_
            refine aw_mm (μ' := (wI (lpM μ i k c q (leM μ i k q c) v) 90 (16 * c + v) ((wb (oW μ i k c q v) (w + 1) : Nat) : Int))) (wI_wI _ _ _ _ _) ?_
            refine aw_iinc (lst' := [_, _, _, _, _, _, some (aI ((w + 1 : Nat) : Int))]) d_Mo_least_163 (Nat.le_of_ble_eq_true rfl) rfl (by unfold inR; omega) rfl ?_
            refine aw_goto (tgt := 95) d_Mo_least_166 rfl ?_
            exact ih3 (2 ^ k - (w + 1)) (by omega) (w + 1) rfl ⟨hw.1, by omega⟩
          · replace h125 := bn h125
            refine aw_aload_n d_Mo_least_128 rfl rfl ?_
            refine aw_getR fd_Mo_partners lk_Mo_77 (by omega) rfl d_Mo_least_129 (hRw _ _) ?_
            refine aw_bipush (z := 16) d_Mo_least_132 (in_c rfl) rfl ?_
            refine aw_iload d_Mo_least_134 rfl ?_
            refine aw_imul d_Mo_least_136 (by unfold inR; omega) ?_
            refine aw_iload d_Mo_least_137 rfl ?_
            refine aw_iadd d_Mo_least_139 (by unfold inR; omega) ?_
            refine aw_iald (n := 16 * c + v) (by omega) rfl (by omega) (by omega) d_Mo_least_140 ?_
            refine aw_tv (v' := ((wb (oW μ i k c q v) w : Nat) : Int)) (by rw [mI_wI, if_pos ⟨rfl, rfl⟩]) ?_
            refine aw_iconst d_Mo_least_141 (in_c rfl) ?_
            refine aw_iload d_Mo_least_142 rfl ?_
            refine aw_ishl (a := 1) (k0 := w) rfl rfl (by omega) (by have := Nat.pow_le_pow_right (n := 2) (by omega) (show w ≤ 16 by omega); omega) d_Mo_least_144 ?_
            refine aw_pc (pc' := 145) rfl ?_
            refine aw_ior (a := wb (oW μ i k c q v) w) (b := 1 * 2 ^ w) rfl rfl d_Mo_least_145 ?_
            refine aw_tv (v' := ((wb (oW μ i k c q v) (w + 1) : Nat) : Int)) (by rw [wb_step, h125, Nat.one_mul]; rfl) ?_
            refine aw_goto (tgt := 162) d_Mo_least_146 rfl ?_
            refine aw_iast (n := 16 * c + v) (by omega) rfl (by omega) (by omega) d_Mo_least_162 ?_
            refine aw_mm (μ' := (wI (lpM μ i k c q (leM μ i k q c) v) 90 (16 * c + v) ((wb (oW μ i k c q v) (w + 1) : Nat) : Int))) (wI_wI _ _ _ _ _) ?_
            refine aw_iinc (lst' := [_, _, _, _, _, _, some (aI ((w + 1 : Nat) : Int))]) d_Mo_least_163 (Nat.le_of_ble_eq_true rfl) rfl (by unfold inR; omega) rfl ?_
            refine aw_goto (tgt := 95) d_Mo_least_166 rfl ?_
            exact ih3 (2 ^ k - (w + 1)) (by omega) (w + 1) rfl ⟨hw.1, by omega⟩
      refine aw_iload d_Mo_least_72 rfl ?_
      refine aw_iload_n d_Mo_least_74 rfl rfl ?_
      refine aw_icmp_ge (tgt := 175) d_Mo_least_75 rfl (fun h75 => ?_) (fun h75 => ?_)
      · refine aw_iinc (lst' := [_, _, _, _, some (aI ((c + 1 : Nat) : Int)), _, _]) d_Mo_least_175 (Nat.le_of_ble_eq_true rfl) rfl (by unfold inR; omega) rfl ?_
        refine aw_goto (tgt := 58) d_Mo_least_178 rfl ?_
        refine aw_mm (μ' := (leM μ i k q (c + 1))) (by rw [show v = 2 ^ k by omega]; rfl) ?_
        exact ih (k - (c + 1)) (by omega) (c + 1) _ _ rfl ⟨hj.1, by omega⟩
      · refine aw_aload_n d_Mo_least_78 rfl rfl ?_
        refine aw_getR fd_Mo_partners lk_Mo_77 (by omega) rfl d_Mo_least_79 (hRv _ _) ?_
        refine aw_bipush (z := 16) d_Mo_least_82 (in_c rfl) rfl ?_
        refine aw_iload d_Mo_least_84 rfl ?_
        refine aw_imul d_Mo_least_86 (by unfold inR; omega) ?_
        refine aw_iload d_Mo_least_87 rfl ?_
        refine aw_iadd d_Mo_least_89 (by unfold inR; omega) ?_
        refine aw_iconst d_Mo_least_90 (in_c rfl) ?_
        refine aw_iast (n := 16 * c + v) (by omega) rfl (by omega) (by omega) d_Mo_least_91 ?_
        refine aw_iconst d_Mo_least_92 (in_c rfl) ?_
        refine aw_istore (lst' := [_, _, _, _, _, _, _]) d_Mo_least_93 (Nat.le_of_ble_eq_true rfl) rfl ?_
        refine aw_mm (μ' := (wI (lpM μ i k c q (leM μ i k q c) v) 90 (16 * c + v) ((wb (oW μ i k c q v) 0 : Nat) : Int))) rfl ?_
        exact inn (2 ^ k - 0) 0 rfl ⟨by omega, Nat.zero_le _⟩
    refine aw_iload d_Mo_least_58 rfl ?_
    refine aw_aload_n d_Mo_least_60 rfl rfl ?_
    refine aw_getR fd_Mo_many lk_Mo_41 (by omega) rfl d_Mo_least_61 (hRc _ _) ?_
    refine aw_iload_n d_Mo_least_64 rfl rfl ?_
    refine aw_iald (n := i) (by omega) rfl rfl (by omega) d_Mo_least_65 ?_
    refine aw_tv (v' := (k : Int)) hkc ?_
    refine aw_icmp_ge (tgt := 181) d_Mo_least_66 rfl (fun h66 => ?_) (fun h66 => ?_)
    · refine aw_mm (μ' := (leM μ i k q k)) (by rw [show c = k by omega]) ?_
      refine aw_bipush (z := 100) d_Mo_least_181 (in_c rfl) rfl ?_
      refine aw_istore (lst' := [_, _, _, _, _, _, _]) d_Mo_least_183 (Nat.le_of_ble_eq_true rfl) rfl ?_
      refine aw_iconst d_Mo_least_185 (in_c rfl) ?_
      refine aw_istore (lst' := [_, _, _, _, _, _, _]) d_Mo_least_186 (Nat.le_of_ble_eq_true rfl) rfl ?_
      exact key2 (2 ^ 2 ^ k - 0) 0 _ rfl ⟨hj.1, Nat.zero_le _⟩
    · refine aw_iconst d_Mo_least_69 (in_c rfl) ?_
      refine aw_istore (lst' := [_, _, _, _, _, _, _]) d_Mo_least_70 (Nat.le_of_ble_eq_true rfl) rfl ?_
      refine aw_mm (μ' := lpM μ i k c q (leM μ i k q c) 0) rfl ?_
      exact mid (2 ^ k - 0) 0 _ rfl ⟨by omega, Nat.zero_le _⟩
  refine aw_aload_n d_Mo_least_0 rfl rfl ?_
  refine aw_aload_n d_Mo_least_1 rfl rfl ?_
  refine aw_iload_n d_Mo_least_2 rfl rfl ?_
  refine aw_ve (as := [_]) rfl cv_Mo_159 (by omega) rfl rfl d_Mo_least_3 (Nat.le_of_ble_eq_true rfl) (d' := d - 1) (by omega) (g_Mo_isDecision (by omega) hi h4) ?_
  refine aw_if_ne (tgt := 13) d_Mo_least_6 rfl (fun h6 => ?_) (fun h6 => absurd h6 (by omega))
  refine aw_iconst d_Mo_least_13 (in_c rfl) ?_
  refine aw_iload_n d_Mo_least_14 rfl rfl ?_
  refine aw_se (as := [_]) rfl cs_Mo_191 d_Mo_least_15 (Nat.le_of_ble_eq_true rfl) (d' := d - 1) (by omega) (m_Mo_isCriterion (by omega) hq) ?_
  refine aw_if_ne (tgt := 25) d_Mo_least_18 rfl (fun h18 => ?_) (fun h18 => ?_)
  · replace h18 := ite_n h18
    refine aw_iconst d_Mo_least_25 (in_c rfl) ?_
    refine aw_ve (as := [_, _]) rfl cv_Mo_96 (by omega) rfl rfl d_Mo_least_26 (Nat.le_of_ble_eq_true rfl) (d' := d - 1) (by omega) (m_Mo_refused_0 (by omega)) ?_
    refine aw_if_eq (tgt := 34) d_Mo_least_29 rfl (fun h29 => ?_) (fun h29 => absurd (by omega) h29)
    refine aw_aload_n d_Mo_least_34 rfl rfl ?_
    refine aw_getR fd_Mo_many lk_Mo_41 (by omega) rfl d_Mo_least_35 (hR _ _) ?_
    refine aw_iload_n d_Mo_least_38 rfl rfl ?_
    refine aw_iald (n := i) (by omega) rfl rfl (by omega) d_Mo_least_39 ?_
    refine aw_tv (v' := (k : Int)) hk ?_
    refine aw_iconst d_Mo_least_40 (in_c rfl) ?_
    refine aw_icmp_le (tgt := 46) d_Mo_least_41 rfl (fun h41 => ?_) (fun h41 => ?_)
    · refine aw_iconst d_Mo_least_46 (in_c rfl) ?_
      refine aw_aload_n d_Mo_least_47 rfl rfl ?_
      refine aw_getR fd_Mo_many lk_Mo_41 (by omega) rfl d_Mo_least_48 (hR _ _) ?_
      refine aw_iload_n d_Mo_least_51 rfl rfl ?_
      refine aw_iald (n := i) (by omega) rfl rfl (by omega) d_Mo_least_52 ?_
      refine aw_tv (v' := (k : Int)) hk ?_
      have hpw0 : 2 ^ k ≤ 16 := Nat.pow_le_pow_right (n := 2) (by omega) (show k ≤ 4 by omega)
      refine aw_ishl (a := 1) (k0 := k) rfl rfl (by omega) (by omega) d_Mo_least_53 ?_
      refine aw_tv (v' := ((2 ^ k : Nat) : Int)) (by rw [Nat.one_mul]) ?_
      refine aw_istore_n (lst' := [_, _, _, _, _, _, _]) d_Mo_least_54 rfl (Nat.le_of_ble_eq_true rfl) rfl ?_
      refine aw_iconst d_Mo_least_55 (in_c rfl) ?_
      refine aw_istore (lst' := [_, _, _, _, _, _, _]) d_Mo_least_56 (Nat.le_of_ble_eq_true rfl) rfl ?_
      exact key (k - 0) 0 none none rfl ⟨⟨h18, by omega⟩, Nat.zero_le _⟩
    · refine aw_iconst d_Mo_least_44 (in_c rfl) ?_
      exact aw_iret d_Mo_least_45 rfl ⟨rfl, Or.inr (Or.inl ⟨h18, by omega, rfl, rfl⟩)⟩
  · replace h18 := ite_z h18
    refine aw_iconst d_Mo_least_21 (in_c rfl) ?_
    refine aw_goto (tgt := 26) d_Mo_least_22 rfl ?_
    refine aw_ve (as := [_, _]) rfl cv_Mo_96 (by omega) rfl rfl d_Mo_least_26 (Nat.le_of_ble_eq_true rfl) (d' := d - 1) (by omega) (m_Mo_refused_2 (by omega)) ?_
    refine aw_if_eq (tgt := 34) d_Mo_least_29 rfl (fun h29 => absurd h29 (by omega)) (fun h29 => ?_)
    refine aw_iconst d_Mo_least_32 (in_c rfl) ?_
    exact aw_iret d_Mo_least_33 rfl ⟨rfl, Or.inl ⟨h18, rfl, rfl⟩⟩
end
