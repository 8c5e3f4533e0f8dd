/-! covered: the reference -/
section
def anyB (f : Nat → Bool) : Nat → Bool
  | 0 => false
  | n + 1 => anyB f n || f n
/-- the word of the recorded vector r -/
def oR (μ : aM) (i k r : Nat) : Nat := oWd μ i k (mI μ 91 (3 * r)) (mI μ 91 (3 * r + 1)) (mI μ 91 (3 * r + 2))
def oCv (μ : aM) (i k c : Nat) (q : Int) (n : Nat) : Bool := anyB (fun r => anyB (fun j => oW μ i k c q (oR μ i k r) (oR μ i k j)) r) n
theorem oR_lt {μ : aM} {i k r : Nat} (h6 : k ≤ 6) : oR μ i k r < 64 := by
  have h1 := wb_lt (fun j => oHd μ (oU μ i j) (mI μ 91 (3 * r)) (mI μ 91 (3 * r + 1)) (mI μ 91 (3 * r + 2))) k
  have h2 : 2 ^ k ≤ 64 := Nat.pow_le_pow_right (n := 2) (by omega) h6
  exact Nat.lt_of_lt_of_le h1 h2
theorem oR_f (μ : aM) (z : Int) (i k r : Nat) : oR (wI μ 67 0 z) i k r = oR μ i k r := rfl
theorem oCv_f (μ : aM) (z : Int) (i k c : Nat) (q : Int) (n : Nat) : oCv (wI μ 67 0 z) i k c q n = oCv μ i k c q n := by
  unfold oCv
  have e : (fun r => anyB (fun j => oW (wI μ 67 0 z) i k c q (oR (wI μ 67 0 z) i k r) (oR (wI μ 67 0 z) i k j)) r) = (fun r => anyB (fun j => oW μ i k c q (oR μ i k r) (oR μ i k j)) r) := funext fun r => by
    congr 1
  rw [e]
variable {G : aG} {pg : Nat} {μ : aM}
set_option maxRecDepth 100000 in
theorem m_Mo_isCovered {d : Nat} (hd : 2 ≤ d) {i : Nat} (h4 : i < 4) {k : Nat} (hk : mI μ 78 i = (k : Int)) (h6 : k ≤ 6) {c : Nat} {q : Int} (hc : c < k) (hq0 : 0 ≤ q) (hq2 : q ≤ 2) (hse : ∀ j, j < 256 → 0 ≤ mI μ 83 j ∧ mI μ 83 j < 64) (hu : ∀ j, j < 6 → 0 ≤ mI μ 79 (6 * i + j) ∧ mI μ 79 (6 * i + j) < 8) {n : Nat} (hn : mI μ 67 31 = (n : Int)) (hn12 : n ≤ 12) (hrec : ∀ j, inR (mI μ 91 j)) (hl : ∀ r, r < n → ∀ j, j < k → okM μ (oU μ i j) (mI μ 91 (3 * r)) (mI μ 91 (3 * r + 1)) (mI μ 91 (3 * r + 2))) (hR : ∀ k j, mR μ k j = R0 pg k j)  : AM G false d 0 0 y_Mo_isCovered [aP 67, aI (i : Int), aI (c : Int), aI q] 94 μ (Qe (some (aI (bI (oCv μ i k c q n)))) 94 μ) := by
  refine am_of (n := 4) pf_Mo_isCovered (Nat.le_of_ble_eq_true rfl) (by intro v hv; simp only [List.mem_cons, List.not_mem_nil, or_false] at hv; rcases hv with rfl | rfl | rfl | rfl <;> first | trivial | assumption | exact in_c rfl | exact bI_in _ | (show inR _; unfold inR; omega)) rfl ?_
  have key : ∀ (m : Nat) (r : Nat) (o6 o7 : Option aV), n - r = m → r ≤ n → AW G false y_Mo_isCovered d 0 0 (Qe (some (aI (bI (oCv μ i k c q n)))) 94 μ) 6 [some (aP 67), some (aI (i : Int)), some (aI (c : Int)), some (aI q), some (aI (bI (oCv μ i k c q r))), some (aI (r : Int)), o6, o7] [] 94 μ := by
    intro m
    induction m using Nat.strongRecOn with | _ m ih =>
    intro r o6 o7 hm hr
    have inn : ∀ (m2 : Nat) (j : Nat), r - j = m2 → (r < n ∧ j ≤ r ∧ oR μ i k r < 64) → AW G false y_Mo_isCovered d 0 0 (Qe (some (aI (bI (oCv μ i k c q n)))) 94 μ) 56 [some (aP 67), some (aI (i : Int)), some (aI (c : Int)), some (aI q), some (aI (bI (oCv μ i k c q r || anyB (fun j => oW μ i k c q (oR μ i k r) (oR μ i k j)) j))), some (aI (r : Int)), some (aI ((oR μ i k r : Nat) : Int)), some (aI (j : Int))] [] 94 μ := by
      intro m2
      induction m2 using Nat.strongRecOn with | _ m2 ih2 =>
      intro j hm2 hj
      refine aw_iload d_Mo_isCovered_56 rfl ?_
      refine aw_iload d_Mo_isCovered_58 rfl ?_
      refine aw_icmp_ge (tgt := 129) d_Mo_isCovered_60 rfl (fun h60 => ?_) (fun h60 => ?_)
      · refine aw_lc (lst' := [_, _, _, _, some (aI (bI (oCv μ i k c q (r + 1)))), _, _, _]) (by rw [show j = r by omega]; rfl) ?_
        refine aw_iinc (lst' := [_, _, _, _, _, some (aI ((r + 1 : Nat) : Int)), _, _]) d_Mo_isCovered_129 (Nat.le_of_ble_eq_true rfl) rfl (by unfold inR; omega) rfl ?_
        refine aw_goto (tgt := 6) d_Mo_isCovered_132 rfl ?_
        exact ih (n - (r + 1)) (by omega) (r + 1) _ _ rfl (by omega)
      · refine aw_iload d_Mo_isCovered_63 rfl ?_
        refine aw_if_ne (tgt := 116) d_Mo_isCovered_65 rfl (fun h65 => ?_) (fun h65 => ?_)
        · replace h65 := bn h65
          refine aw_iconst d_Mo_isCovered_116 (in_c rfl) ?_
          refine aw_tv (v' := bI (oCv μ i k c q r || anyB (fun j => oW μ i k c q (oR μ i k r) (oR μ i k j)) (j + 1))) (by rw [anyB, ← Bool.or_assoc, h65]; rfl) ?_
          refine aw_goto (tgt := 121) d_Mo_isCovered_117 rfl ?_
          refine aw_istore (lst' := [_, _, _, _, _, _, _, _]) d_Mo_isCovered_121 (Nat.le_of_ble_eq_true rfl) rfl ?_
          refine aw_iinc (lst' := [_, _, _, _, _, _, _, some (aI ((j + 1 : Nat) : Int))]) d_Mo_isCovered_123 (Nat.le_of_ble_eq_true rfl) rfl (by unfold inR; omega) rfl ?_
          refine aw_goto (tgt := 56) d_Mo_isCovered_126 rfl ?_
          exact ih2 (r - (j + 1)) (by omega) (j + 1) rfl ⟨hj.1, by omega, hj.2.2⟩
        · replace h65 := bz h65
          refine aw_aload_n d_Mo_isCovered_68 rfl rfl ?_
          refine aw_iload_n d_Mo_isCovered_69 rfl rfl ?_
          refine aw_iload_n d_Mo_isCovered_70 rfl rfl ?_
          refine aw_iload_n d_Mo_isCovered_71 rfl rfl ?_
          refine aw_iload d_Mo_isCovered_72 rfl ?_
          refine aw_aload_n d_Mo_isCovered_74 rfl rfl ?_
          refine aw_iload_n d_Mo_isCovered_75 rfl rfl ?_
          refine aw_aload_n d_Mo_isCovered_76 rfl rfl ?_
          refine aw_getR fd_Mo_records lk_Mo_80 (by omega) rfl d_Mo_isCovered_77 (hR _ _) ?_
          refine aw_iconst d_Mo_isCovered_80 (in_c rfl) ?_
          refine aw_iload d_Mo_isCovered_81 rfl ?_
          refine aw_pc (pc' := 83) rfl ?_
          refine aw_imul d_Mo_isCovered_83 (by unfold inR; omega) ?_
          refine aw_iald (n := 3 * j) (by omega) rfl (by omega) (by omega) d_Mo_isCovered_84 ?_
          refine aw_aload_n d_Mo_isCovered_85 rfl rfl ?_
          refine aw_getR fd_Mo_records lk_Mo_80 (by omega) rfl d_Mo_isCovered_86 (hR _ _) ?_
          refine aw_iconst d_Mo_isCovered_89 (in_c rfl) ?_
          refine aw_iload d_Mo_isCovered_90 rfl ?_
          refine aw_imul d_Mo_isCovered_92 (by unfold inR; omega) ?_
          refine aw_iconst d_Mo_isCovered_93 (in_c rfl) ?_
          refine aw_iadd d_Mo_isCovered_94 (by unfold inR; omega) ?_
          refine aw_iald (n := 3 * j + 1) (by omega) rfl (by omega) (by omega) d_Mo_isCovered_95 ?_
          refine aw_aload_n d_Mo_isCovered_96 rfl rfl ?_
          refine aw_getR fd_Mo_records lk_Mo_80 (by omega) rfl d_Mo_isCovered_97 (hR _ _) ?_
          refine aw_pc (pc' := 100) rfl ?_
          refine aw_iconst d_Mo_isCovered_100 (in_c rfl) ?_
          refine aw_iload d_Mo_isCovered_101 rfl ?_
          refine aw_imul d_Mo_isCovered_103 (by unfold inR; omega) ?_
          refine aw_iconst d_Mo_isCovered_104 (in_c rfl) ?_
          refine aw_iadd d_Mo_isCovered_105 (by unfold inR; omega) ?_
          refine aw_iald (n := 3 * j + 2) (by omega) rfl (by omega) (by omega) d_Mo_isCovered_106 ?_
          refine aw_ve (as := [_, _, _, _]) rfl cv_Mo_142 (by omega) rfl rfl d_Mo_isCovered_107 (Nat.le_of_ble_eq_true rfl) (d' := d - 1) (by omega) (m_Mo_wordOf (by omega) hR h4 hk h6 (hrec _) (hrec _) (hrec _) hu (hl j (by omega))) ?_
          have hoj := oR_lt (μ := μ) (i := i) (r := j) h6
          refine aw_tv (v' := ((oR μ i k j : Nat) : Int)) rfl ?_
          refine aw_ve (as := [_, _, _, _, _]) rfl cv_Mo_187 (by omega) rfl rfl d_Mo_isCovered_110 (Nat.le_of_ble_eq_true rfl) (d' := d - 1) (by omega) (m_Mo_shows (by omega) h4 hk h6 hc hq0 hq2 (by omega) (by omega) hse hu hR) ?_
          refine aw_if_eq (tgt := 120) d_Mo_isCovered_113 rfl (fun h113 => ?_) (fun h113 => ?_)
          · replace h113 := bz h113
            refine aw_iconst d_Mo_isCovered_120 (in_c rfl) ?_
            refine aw_tv (v' := bI (oCv μ i k c q r || anyB (fun j => oW μ i k c q (oR μ i k r) (oR μ i k j)) (j + 1))) (by rw [anyB, ← Bool.or_assoc, h65]; simp only [h113]; rfl) ?_
            refine aw_istore (lst' := [_, _, _, _, _, _, _, _]) d_Mo_isCovered_121 (Nat.le_of_ble_eq_true rfl) rfl ?_
            refine aw_iinc (lst' := [_, _, _, _, _, _, _, some (aI ((j + 1 : Nat) : Int))]) d_Mo_isCovered_123 (Nat.le_of_ble_eq_true rfl) rfl (by unfold inR; omega) rfl ?_
            refine aw_goto (tgt := 56) d_Mo_isCovered_126 rfl ?_
            exact ih2 (r - (j + 1)) (by omega) (j + 1) rfl ⟨hj.1, by omega, hj.2.2⟩
          · replace h113 := bn h113
            refine aw_iconst d_Mo_isCovered_116 (in_c rfl) ?_
            refine aw_tv (v' := bI (oCv μ i k c q r || anyB (fun j => oW μ i k c q (oR μ i k r) (oR μ i k j)) (j + 1))) (by rw [anyB, ← Bool.or_assoc, h65]; simp only [h113]; rfl) ?_
            refine aw_goto (tgt := 121) d_Mo_isCovered_117 rfl ?_
            refine aw_istore (lst' := [_, _, _, _, _, _, _, _]) d_Mo_isCovered_121 (Nat.le_of_ble_eq_true rfl) rfl ?_
            refine aw_iinc (lst' := [_, _, _, _, _, _, _, some (aI ((j + 1 : Nat) : Int))]) d_Mo_isCovered_123 (Nat.le_of_ble_eq_true rfl) rfl (by unfold inR; omega) rfl ?_
            refine aw_goto (tgt := 56) d_Mo_isCovered_126 rfl ?_
            exact ih2 (r - (j + 1)) (by omega) (j + 1) rfl ⟨hj.1, by omega, hj.2.2⟩
    refine aw_iload d_Mo_isCovered_6 rfl ?_
    refine aw_aload_n d_Mo_isCovered_8 rfl rfl ?_
    refine aw_getI fd_Mo_kept lk_Mo_210 (by omega) rfl d_Mo_isCovered_9 ?_
    refine aw_tv (v' := (n : Int)) hn ?_
    refine aw_icmp_ge (tgt := 135) d_Mo_isCovered_12 rfl (fun h12 => ?_) (fun h12 => ?_)
    · refine aw_iload d_Mo_isCovered_135 rfl ?_
      exact aw_zret d_Mo_isCovered_137 rfl (bI_nr _) ⟨by rw [show r = n by omega], rfl, rfl⟩
    · refine aw_aload_n d_Mo_isCovered_15 rfl rfl ?_
      refine aw_iload_n d_Mo_isCovered_16 rfl rfl ?_
      refine aw_aload_n d_Mo_isCovered_17 rfl rfl ?_
      refine aw_getR fd_Mo_records lk_Mo_80 (by omega) rfl d_Mo_isCovered_18 (hR _ _) ?_
      refine aw_iconst d_Mo_isCovered_21 (in_c rfl) ?_
      refine aw_iload d_Mo_isCovered_22 rfl ?_
      refine aw_imul d_Mo_isCovered_24 (by unfold inR; omega) ?_
      refine aw_iald (n := 3 * r) (by omega) rfl (by omega) (by omega) d_Mo_isCovered_25 ?_
      refine aw_aload_n d_Mo_isCovered_26 rfl rfl ?_
      refine aw_getR fd_Mo_records lk_Mo_80 (by omega) rfl d_Mo_isCovered_27 (hR _ _) ?_
      refine aw_iconst d_Mo_isCovered_30 (in_c rfl) ?_
      refine aw_pc (pc' := 31) rfl ?_
      refine aw_iload d_Mo_isCovered_31 rfl ?_
      refine aw_imul d_Mo_isCovered_33 (by unfold inR; omega) ?_
      refine aw_iconst d_Mo_isCovered_34 (in_c rfl) ?_
      refine aw_iadd d_Mo_isCovered_35 (by unfold inR; omega) ?_
      refine aw_iald (n := 3 * r + 1) (by omega) rfl (by omega) (by omega) d_Mo_isCovered_36 ?_
      refine aw_aload_n d_Mo_isCovered_37 rfl rfl ?_
      refine aw_getR fd_Mo_records lk_Mo_80 (by omega) rfl d_Mo_isCovered_38 (hR _ _) ?_
      refine aw_iconst d_Mo_isCovered_41 (in_c rfl) ?_
      refine aw_iload d_Mo_isCovered_42 rfl ?_
      refine aw_imul d_Mo_isCovered_44 (by unfold inR; omega) ?_
      refine aw_iconst d_Mo_isCovered_45 (in_c rfl) ?_
      refine aw_iadd d_Mo_isCovered_46 (by unfold inR; omega) ?_
      refine aw_pc (pc' := 47) rfl ?_
      refine aw_iald (n := 3 * r + 2) (by omega) rfl (by omega) (by omega) d_Mo_isCovered_47 ?_
      refine aw_ve (as := [_, _, _, _]) rfl cv_Mo_142 (by omega) rfl rfl d_Mo_isCovered_48 (Nat.le_of_ble_eq_true rfl) (d' := d - 1) (by omega) (m_Mo_wordOf (by omega) hR h4 hk h6 (hrec _) (hrec _) (hrec _) hu (hl r (by omega))) ?_
      have hol := oR_lt (μ := μ) (i := i) (r := r) h6
      refine aw_tv (v' := ((oR μ i k r : Nat) : Int)) rfl ?_
      refine aw_istore (lst' := [_, _, _, _, _, _, _, _]) d_Mo_isCovered_51 (Nat.le_of_ble_eq_true rfl) rfl ?_
      refine aw_iconst d_Mo_isCovered_53 (in_c rfl) ?_
      refine aw_istore (lst' := [_, _, _, _, _, _, _, _]) d_Mo_isCovered_54 (Nat.le_of_ble_eq_true rfl) rfl ?_
      refine aw_lc (lst' := [some (aP 67), some (aI (i : Int)), some (aI (c : Int)), some (aI q), some (aI (bI (oCv μ i k c q r || anyB (fun j => oW μ i k c q (oR μ i k r) (oR μ i k j)) 0))), some (aI (r : Int)), some (aI ((oR μ i k r : Nat) : Int)), some (aI ((0 : Nat) : Int))]) (by rw [anyB, Bool.or_false]; rfl) ?_
      exact inn (r - 0) 0 rfl ⟨by omega, Nat.zero_le _, hol⟩
  refine aw_iconst d_Mo_isCovered_0 (in_c rfl) ?_
  refine aw_istore (lst' := [_, _, _, _, _, _, _, _]) d_Mo_isCovered_1 (Nat.le_of_ble_eq_true rfl) rfl ?_
  refine aw_iconst d_Mo_isCovered_3 (in_c rfl) ?_
  refine aw_istore (lst' := [_, _, _, _, _, _, _, _]) d_Mo_isCovered_4 (Nat.le_of_ble_eq_true rfl) rfl ?_
  exact key (n - 0) 0 none none rfl (Nat.zero_le _)
set_option maxRecDepth 100000 in
theorem g_Mo_covered {d : Nat} (hd : 4 ≤ d) {i : Nat} (hi : (i : Int) < mI μ 67 11) (h4 : mI μ 67 11 ≤ 4) {k : Nat} (hk : mI μ 78 i = (k : Int)) (h6 : k ≤ 6) (hse : ∀ j, j < 256 → 0 ≤ mI μ 83 j ∧ mI μ 83 j < 64) (hu : ∀ j, j < 6 → 0 ≤ mI μ 79 (6 * i + j) ∧ mI μ 79 (6 * i + j) < 8) {n : Nat} (hn : mI μ 67 31 = (n : Int)) (hn12 : n ≤ 12) (hrec : ∀ j, inR (mI μ 91 j)) (hl : ∀ r, r < n → ∀ j, j < k → okM μ (oU μ i j) (mI μ 91 (3 * r)) (mI μ 91 (3 * r + 1)) (mI μ 91 (3 * r + 2))) (hR : ∀ k j, mR μ k j = R0 pg k j) {w q : Int} (hw : inR w) (hq : inR q) : AM G false d 0 0 y_Mo_covered [aP 67, aI (i : Int), aI w, aI q] 94 μ (fun r n9 m => n9 = 94 ∧ ((¬ (0 ≤ w ∧ w < (k : Int)) ∧ r = .inl (some (aI 0)) ∧ m = wI μ 67 0 1) ∨ ((0 ≤ w ∧ w < (k : Int)) ∧ ¬ (0 ≤ q ∧ q ≤ 2) ∧ r = .inl (some (aI 0)) ∧ m = wI μ 67 0 2) ∨ ((0 ≤ w ∧ w < (k : Int)) ∧ (0 ≤ q ∧ q ≤ 2) ∧ r = .inl (some (aI (bI (oCv μ i k w.toNat q n)))) ∧ m = wI μ 67 0 0))) := by
  refine am_of (n := 0) pf_Mo_covered (Nat.le_of_ble_eq_true rfl) (by intro v hv; simp only [List.mem_cons, List.not_mem_nil, or_false] at hv; rcases hv with rfl | rfl | rfl | rfl <;> first | trivial | assumption | exact in_c rfl | exact bI_in _ | (show inR _; unfold inR; omega)) rfl ?_
  have hk2 : mI (wI μ 67 0 0) 78 i = (k : Int) := hk
  have hse2 : ∀ j, j < 256 → 0 ≤ mI (wI μ 67 0 0) 83 j ∧ mI (wI μ 67 0 0) 83 j < 64 := hse
  have hu2 : ∀ j, j < 6 → 0 ≤ mI (wI μ 67 0 0) 79 (6 * i + j) ∧ mI (wI μ 67 0 0) 79 (6 * i + j) < 8 := hu
  have hR2 : ∀ k j, mR (wI μ 67 0 0) k j = R0 pg k j := hR
  have hn2 : mI (wI μ 67 0 0) 67 31 = (n : Int) := hn
  have hrec2 : ∀ j, inR (mI (wI μ 67 0 0) 91 j) := hrec
  have hl2 : ∀ r, r < n → ∀ j, j < k → okM (wI μ 67 0 0) (oU (wI μ 67 0 0) i j) (mI (wI μ 67 0 0) 91 (3 * r)) (mI (wI μ 67 0 0) 91 (3 * r + 1)) (mI (wI μ 67 0 0) 91 (3 * r + 2)) := hl
  refine aw_aload_n d_Mo_covered_0 rfl rfl ?_
  refine aw_aload_n d_Mo_covered_1 rfl rfl ?_
  refine aw_iload_n d_Mo_covered_2 rfl rfl ?_
  refine aw_iload_n d_Mo_covered_3 rfl rfl ?_
  refine aw_ve (as := [_, _]) rfl cv_Mo_177 (by omega) rfl rfl d_Mo_covered_4 (Nat.le_of_ble_eq_true rfl) (d' := d - 1) (by omega) (g_Mo_isCondition (by omega) hi h4 hk h6 hR hw) ?_
  refine aw_if_ne (tgt := 14) d_Mo_covered_7 rfl (fun h7 => ?_) (fun h7 => ?_)
  · replace h7 := ite_n h7
    refine aw_iconst d_Mo_covered_14 (in_c rfl) ?_
    refine aw_iload_n d_Mo_covered_15 rfl rfl ?_
    refine aw_se (as := [_]) rfl cs_Mo_191 d_Mo_covered_16 (Nat.le_of_ble_eq_true rfl) (d' := d - 1) (by omega) (m_Mo_isCriterion (by omega) hq) ?_
    refine aw_if_ne (tgt := 26) d_Mo_covered_19 rfl (fun h19 => ?_) (fun h19 => ?_)
    · replace h19 := ite_n h19
      refine aw_iconst d_Mo_covered_26 (in_c rfl) ?_
      refine aw_ve (as := [_, _]) rfl cv_Mo_96 (by omega) rfl rfl d_Mo_covered_27 (Nat.le_of_ble_eq_true rfl) (d' := d - 1) (by omega) (m_Mo_refused_0 (by omega)) ?_
      refine aw_if_ne (tgt := 47) d_Mo_covered_30 rfl (fun h30 => absurd h30 (by omega)) (fun h30 => ?_)
      refine aw_aload_n d_Mo_covered_33 rfl rfl ?_
      refine aw_iload_n d_Mo_covered_34 rfl rfl ?_
      refine aw_iload_n d_Mo_covered_35 rfl rfl ?_
      refine aw_tv (v' := ((w.toNat : Nat) : Int)) (by omega) ?_
      refine aw_iload_n d_Mo_covered_36 rfl rfl ?_
      refine aw_ve (as := [_, _, _]) rfl cv_Mo_216 (by omega) rfl rfl d_Mo_covered_37 (Nat.le_of_ble_eq_true rfl) (d' := d - 1) (by omega) (m_Mo_isCovered (μ := wI μ 67 0 0) (i := i) (k := k) (c := w.toNat) (q := q) (n := n) (by omega) (by omega) hk2 h6 (by omega) h19.1 h19.2 hse2 hu2 hn2 hn12 hrec2 hl2 hR2) ?_
      refine aw_tv (v' := bI (oCv μ i k w.toNat q n)) (by rw [oCv_f]) ?_
      refine aw_if_eq (tgt := 47) d_Mo_covered_40 rfl (fun h40 => ?_) (fun h40 => ?_)
      · replace h40 := bz h40
        refine aw_iconst d_Mo_covered_47 (in_c rfl) ?_
        exact aw_zret d_Mo_covered_48 rfl rfl ⟨rfl, Or.inr (Or.inr ⟨h7, h19, by rw [h40]; rfl, rfl⟩)⟩
      · replace h40 := bn h40
        refine aw_iconst d_Mo_covered_43 (in_c rfl) ?_
        refine aw_goto (tgt := 48) d_Mo_covered_44 rfl ?_
        exact aw_zret d_Mo_covered_48 rfl rfl ⟨rfl, Or.inr (Or.inr ⟨h7, h19, by rw [h40]; rfl, rfl⟩)⟩
    · replace h19 := ite_z h19
      refine aw_iconst d_Mo_covered_22 (in_c rfl) ?_
      refine aw_goto (tgt := 27) d_Mo_covered_23 rfl ?_
      refine aw_ve (as := [_, _]) rfl cv_Mo_96 (by omega) rfl rfl d_Mo_covered_27 (Nat.le_of_ble_eq_true rfl) (d' := d - 1) (by omega) (m_Mo_refused_2 (by omega)) ?_
      refine aw_if_ne (tgt := 47) d_Mo_covered_30 rfl (fun h30 => ?_) (fun h30 => absurd h30 (by omega))
      refine aw_iconst d_Mo_covered_47 (in_c rfl) ?_
      exact aw_zret d_Mo_covered_48 rfl rfl ⟨rfl, Or.inr (Or.inl ⟨h7, h19, rfl, rfl⟩)⟩
  · replace h7 := ite_z h7
    refine aw_iconst d_Mo_covered_10 (in_c rfl) ?_
    refine aw_goto (tgt := 15) d_Mo_covered_11 rfl ?_
    refine aw_iload_n d_Mo_covered_15 rfl rfl ?_
    refine aw_se (as := [_]) rfl cs_Mo_191 d_Mo_covered_16 (Nat.le_of_ble_eq_true rfl) (d' := d - 1) (by omega) (m_Mo_isCriterion (by omega) hq) ?_
    refine aw_if_ne (tgt := 26) d_Mo_covered_19 rfl (fun h19 => ?_) (fun h19 => ?_)
    · replace h19 := ite_n h19
      refine aw_iconst d_Mo_covered_26 (in_c rfl) ?_
      refine aw_ve (as := [_, _]) rfl cv_Mo_96 (by omega) rfl rfl d_Mo_covered_27 (Nat.le_of_ble_eq_true rfl) (d' := d - 1) (by omega) (m_Mo_refused_1 (by omega) (in_c rfl)) ?_
      refine aw_if_ne (tgt := 47) d_Mo_covered_30 rfl (fun h30 => ?_) (fun h30 => absurd h30 (by omega))
      refine aw_iconst d_Mo_covered_47 (in_c rfl) ?_
      exact aw_zret d_Mo_covered_48 rfl rfl ⟨rfl, Or.inl ⟨h7, rfl, rfl⟩⟩
    · replace h19 := ite_z h19
      refine aw_iconst d_Mo_covered_22 (in_c rfl) ?_
      refine aw_goto (tgt := 27) d_Mo_covered_23 rfl ?_
      refine aw_ve (as := [_, _]) rfl cv_Mo_96 (by omega) rfl rfl d_Mo_covered_27 (Nat.le_of_ble_eq_true rfl) (d' := d - 1) (by omega) (m_Mo_refused_1 (by omega) (in_c rfl)) ?_
      refine aw_if_ne (tgt := 47) d_Mo_covered_30 rfl (fun h30 => ?_) (fun h30 => absurd h30 (by omega))
      refine aw_iconst d_Mo_covered_47 (in_c rfl) ?_
      exact aw_zret d_Mo_covered_48 rfl rfl ⟨rfl, Or.inl ⟨h7, rfl, rfl⟩⟩
end
