/-! getters of the class -/
section
theorem iti_z {c : Prop} [Decidable c] (h : (if c then (0 : Int) else 1) = 0) : c := by
  by_cases q : c
  · exact q
  · rw [if_neg q] at h; omega
theorem iti_n {c : Prop} [Decidable c] (h : ¬ (if c then (0 : Int) else 1) = 0) : ¬ c := fun q => h (by rw [if_pos q])
theorem mR_wR (μ : aM) (k i : Nat) (z : Option Nat) (a j : Nat) : mR (wR μ k i z) a j = if a = k ∧ j = i then z else mR μ a j := rfl
def isD (D : Nat) : Prop := D = 27 ∨ D = 35 ∨ D = 43 ∨ D = 51
theorem isD_of {d : Nat} (h : d < 4) : isD (27 + 8 * d) := by unfold isD; omega
theorem ltD {D : Nat} (h : isD D) : D + 7 < 94 := by unfold isD at h; omega
theorem shD0 {D : Nat} (h : isD D) : shL[D]? = some (6 + 10, 0) := by rcases h with rfl | rfl | rfl | rfl <;> rfl
theorem shD1 {D : Nat} (h : isD D) : shL[D + 1]? = some (3 + 10, 0) := by rcases h with rfl | rfl | rfl | rfl <;> rfl
theorem shD2 {D : Nat} (h : isD D) : shL[D + 2]? = some (2, 40) := by rcases h with rfl | rfl | rfl | rfl <;> rfl
theorem shD3 {D : Nat} (h : isD D) : shL[D + 3]? = some (0, 6) := by rcases h with rfl | rfl | rfl | rfl <;> rfl
theorem shD4 {D : Nat} (h : isD D) : shL[D + 4]? = some (0, 6) := by rcases h with rfl | rfl | rfl | rfl <;> rfl
theorem shD5 {D : Nat} (h : isD D) : shL[D + 5]? = some (1, 6) := by rcases h with rfl | rfl | rfl | rfl <;> rfl
theorem shD6 {D : Nat} (h : isD D) : shL[D + 6]? = some (1, 6) := by rcases h with rfl | rfl | rfl | rfl <;> rfl
theorem shD7 {D : Nat} (h : isD D) : shL[D + 7]? = some (0, 192) := by rcases h with rfl | rfl | rfl | rfl <;> rfl
theorem rD0 {pg D : Nat} (h : isD D) : R0 pg D 0 = some 4 := by rcases h with rfl | rfl | rfl | rfl <;> rfl
theorem rD1 {pg D : Nat} (h : isD D) : R0 pg D 1 = some (D + 1) := by rcases h with rfl | rfl | rfl | rfl <;> rfl
theorem rD2 {pg D : Nat} (h : isD D) : R0 pg D 2 = some (D + 3) := by rcases h with rfl | rfl | rfl | rfl <;> rfl
theorem rD3 {pg D : Nat} (h : isD D) : R0 pg D 3 = some (D + 4) := by rcases h with rfl | rfl | rfl | rfl <;> rfl
theorem rD4 {pg D : Nat} (h : isD D) : R0 pg D 4 = some (D + 5) := by rcases h with rfl | rfl | rfl | rfl <;> rfl
theorem rD5 {pg D : Nat} (h : isD D) : R0 pg D 5 = some (D + 6) := by rcases h with rfl | rfl | rfl | rfl <;> rfl
theorem rD6 {pg D : Nat} (h : isD D) : R0 pg D 6 = some (D + 7) := by rcases h with rfl | rfl | rfl | rfl <;> rfl
theorem rD9 {pg D : Nat} (h : isD D) : R0 pg (D + 1) 0 = some (D + 2) := by rcases h with rfl | rfl | rfl | rfl <;> rfl
theorem r26 {pg d : Nat} (h : d < 4) : R0 pg 26 d = some (27 + 8 * d) := by
  rcases (show d = 0 ∨ d = 1 ∨ d = 2 ∨ d = 3 by omega) with rfl | rfl | rfl | rfl <;> rfl
theorem bit1 (b : BitVec 64) (w : Nat) : ((b >>> w) &&& 1 = 0) ↔ b.getLsbD w = false := by
  constructor
  · intro h
    have h2 := congrArg (fun v => BitVec.getLsbD v 0) h
    simpa using h2
  · intro h
    apply BitVec.eq_of_getLsbD_eq
    intro i hi
    rw [BitVec.getLsbD_and, BitVec.getLsbD_ushiftRight]
    by_cases e : i = 0
    · subst e
      rw [Nat.add_zero, h]
      rfl
    · have : (1 : BitVec 64).getLsbD i = false := by simp [BitVec.getLsbD_one, e]
      rw [this, Bool.and_false]
      exact (BitVec.getLsbD_zero (i := i)).symm
variable {G : aG} {pg : Nat} {μ : aM}
set_option maxRecDepth 100000 in
theorem m_MC_contains {d : Nat} (hd : 0 ≤ d) {b : BitVec 64} {w : Nat} (hw : w < 64) : AM G false d 0 0 y_MC_contains [aL b, aI (w : Int)] 94 μ (Qe (some (aI (if b.getLsbD w then 1 else 0))) 94 μ) := by
  refine am_of (n := 0) pf_MC_contains (Nat.le_of_ble_eq_true rfl) (by intro v hv; simp only [List.mem_cons, List.not_mem_nil, or_false] at hv; rcases hv with rfl | rfl <;> first | trivial | assumption | exact in_c rfl | (show inR _; unfold inR; omega)) rfl ?_
  refine aw_lload_n d_MC_contains_0 rfl rfl ?_
  refine aw_iload_n d_MC_contains_1 rfl rfl ?_
  refine aw_lushr (k0 := w) rfl hw d_MC_contains_2 ?_
  refine aw_lconst (b := 1) d_MC_contains_3 rfl ?_
  refine aw_land d_MC_contains_4 ?_
  refine aw_lconst (b := 0) d_MC_contains_5 rfl ?_
  refine aw_lcmp d_MC_contains_6 (fun z6 hz6 => ?_)
  refine aw_if_eq (tgt := 14) d_MC_contains_7 rfl (fun h7 => ?_) (fun h7 => ?_)
  · refine aw_iconst d_MC_contains_14 (in_c rfl) ?_
    exact aw_zret d_MC_contains_15 rfl rfl ⟨by rw [if_neg (by rw [(bit1 b w).mp (hz6.mp h7)]; decide)], rfl, rfl⟩
  · refine aw_iconst d_MC_contains_10 (in_c rfl) ?_
    refine aw_goto (tgt := 15) d_MC_contains_11 rfl ?_
    exact aw_zret d_MC_contains_15 rfl rfl ⟨by rw [if_pos (by cases hb : b.getLsbD w with | true => rfl | false => exact absurd (hz6.mpr ((bit1 b w).mpr hb)) h7)], rfl, rfl⟩
set_option maxRecDepth 100000 in
theorem m_MC_hasBit {d : Nat} (hd : 0 ≤ d) {z : Int} {k : Nat} (hz : inR z) (hk : k < 32) : AM G false d 0 0 y_MC_hasBit [aI z, aI (k : Int)] 94 μ (Qe (some (aI (if ush z k % 2 = 0 then 0 else 1))) 94 μ) := by
  refine am_of (n := 0) pf_MC_hasBit (Nat.le_of_ble_eq_true rfl) (by intro v hv; simp only [List.mem_cons, List.not_mem_nil, or_false] at hv; rcases hv with rfl | rfl <;> first | trivial | assumption | exact in_c rfl | (show inR _; unfold inR; omega)) rfl ?_
  refine aw_iload_n d_MC_hasBit_0 rfl rfl ?_
  refine aw_iload_n d_MC_hasBit_1 rfl rfl ?_
  refine aw_iushr (k0 := k) rfl hk d_MC_hasBit_2 ?_
  refine aw_iconst d_MC_hasBit_3 (in_c rfl) ?_
  refine aw_imask (k0 := 1) rfl (by omega) d_MC_hasBit_4 ?_
  refine aw_tv (v' := ush z k % 2) rfl ?_
  refine aw_if_eq (tgt := 12) d_MC_hasBit_5 rfl (fun h5 => ?_) (fun h5 => ?_)
  · refine aw_iconst d_MC_hasBit_12 (in_c rfl) ?_
    exact aw_zret d_MC_hasBit_13 rfl rfl ⟨by first | rfl | rw [if_pos (by omega)] | rw [if_neg (by omega)], rfl, rfl⟩
  · refine aw_iconst d_MC_hasBit_8 (in_c rfl) ?_
    refine aw_goto (tgt := 13) d_MC_hasBit_9 rfl ?_
    exact aw_zret d_MC_hasBit_13 rfl rfl ⟨by first | rfl | rw [if_pos (by omega)] | rw [if_neg (by omega)], rfl, rfl⟩
set_option maxRecDepth 100000 in
theorem m_De_size {d : Nat} (hd : 0 ≤ d) {D : Nat} (hD : isD D)  : AM G false d 0 0 y_De_size [aP D] 94 μ (Qe (some (aI (mI μ D 7))) 94 μ) := by
  refine am_of (n := 0) pf_De_size (Nat.le_of_ble_eq_true rfl) (by intro v hv; simp only [List.mem_cons, List.not_mem_nil, or_false] at hv; rcases hv with rfl <;> first | trivial | assumption | exact in_c rfl | (show inR _; unfold inR; omega)) rfl ?_
  refine aw_aload_n d_De_size_0 rfl rfl ?_
  refine aw_getI fd_De_count lk_De_35 (Nat.lt_of_le_of_lt (Nat.le_add_right _ 7) (ltD hD)) (shD0 hD) d_De_size_1 ?_
  exact aw_iret d_De_size_4 rfl ⟨rfl, rfl, rfl⟩
set_option maxRecDepth 100000 in
theorem m_De_wordCount {d : Nat} (hd : 0 ≤ d) {D : Nat} (hD : isD D) {k : Nat} (hk : mI μ D 7 = (k : Int)) (h6 : k ≤ 6) : AM G false d 0 0 y_De_wordCount [aP D] 94 μ (Qe (some (aI ((2 ^ k : Nat) : Int))) 94 μ) := by
  refine am_of (n := 0) pf_De_wordCount (Nat.le_of_ble_eq_true rfl) (by intro v hv; simp only [List.mem_cons, List.not_mem_nil, or_false] at hv; rcases hv with rfl <;> first | trivial | assumption | exact in_c rfl | (show inR _; unfold inR; omega)) rfl ?_
  refine aw_iconst d_De_wordCount_0 (in_c rfl) ?_
  refine aw_aload_n d_De_wordCount_1 rfl rfl ?_
  refine aw_getI fd_De_count lk_De_35 (Nat.lt_of_le_of_lt (Nat.le_add_right _ 7) (ltD hD)) (shD0 hD) d_De_wordCount_2 ?_
  refine aw_ishl (a := 1) (k0 := k) rfl hk (by omega) (by have := Nat.pow_le_pow_right (n := 2) (by omega) h6; omega) d_De_wordCount_5 ?_
  exact aw_iret d_De_wordCount_6 rfl ⟨by rw [Nat.one_mul], rfl, rfl⟩
set_option maxRecDepth 100000 in
theorem m_De_letterOf {d : Nat} (hd : 0 ≤ d) {D : Nat} (hD : isD D) (hR : ∀ k j, mR μ k j = R0 pg k j) {i : Nat} (hi : i < 6) : AM G false d 0 0 y_De_letterOf [aP D, aI (i : Int)] 94 μ (Qe (some (aI (mI μ (D + 3) i))) 94 μ) := by
  refine am_of (n := 0) pf_De_letterOf (Nat.le_of_ble_eq_true rfl) (by intro v hv; simp only [List.mem_cons, List.not_mem_nil, or_false] at hv; rcases hv with rfl | rfl <;> first | trivial | assumption | exact in_c rfl | (show inR _; unfold inR; omega)) rfl ?_
  refine aw_aload_n d_De_letterOf_0 rfl rfl ?_
  refine aw_getR fd_De_letters lk_De_18 (Nat.lt_of_le_of_lt (Nat.le_add_right _ 7) (ltD hD)) (shD0 hD) d_De_letterOf_1 ((hR _ _).trans (rD2 hD)) ?_
  refine aw_iload_n d_De_letterOf_4 rfl rfl ?_
  refine aw_iald (n := i) (by have := ltD hD; omega) (shD3 hD) rfl (by omega) d_De_letterOf_5 ?_
  exact aw_iret d_De_letterOf_6 rfl ⟨rfl, rfl, rfl⟩
set_option maxRecDepth 100000 in
theorem m_De_shown {d : Nat} (hd : 0 ≤ d) {D : Nat} (hD : isD D) (hR : ∀ k j, mR μ k j = R0 pg k j)  : AM G false d 0 0 y_De_shown [aP D] 94 μ (Qe (some (aP (D + 1))) 94 μ) := by
  refine am_of (n := 0) pf_De_shown (Nat.le_of_ble_eq_true rfl) (by intro v hv; simp only [List.mem_cons, List.not_mem_nil, or_false] at hv; rcases hv with rfl <;> first | trivial | assumption | exact in_c rfl | (show inR _; unfold inR; omega)) rfl ?_
  refine aw_aload_n d_De_shown_0 rfl rfl ?_
  refine aw_getR fd_De_shown lk_De_12 (Nat.lt_of_le_of_lt (Nat.le_add_right _ 7) (ltD hD)) (shD0 hD) d_De_shown_1 ((hR _ _).trans (rD1 hD)) ?_
  exact aw_aret d_De_shown_4 rfl (Or.inl ⟨_, rfl⟩) ⟨rfl, rfl, rfl⟩
set_option maxRecDepth 100000 in
theorem m_De_trueWords {d : Nat} (hd : 0 ≤ d) {D : Nat} (hD : isD D)  : AM G false d 0 0 y_De_trueWords [aP D] 94 μ (Qe (some (aL (mL μ D 8))) 94 μ) := by
  refine am_of (n := 0) pf_De_trueWords (Nat.le_of_ble_eq_true rfl) (by intro v hv; simp only [List.mem_cons, List.not_mem_nil, or_false] at hv; rcases hv with rfl <;> first | trivial | assumption | exact in_c rfl | (show inR _; unfold inR; omega)) rfl ?_
  refine aw_aload_n d_De_trueWords_0 rfl rfl ?_
  refine aw_getL fd_De_trueWords lk_De_39 (Nat.lt_of_le_of_lt (Nat.le_add_right _ 7) (ltD hD)) (shD0 hD) d_De_trueWords_1 ?_
  exact aw_lret d_De_trueWords_4 rfl ⟨rfl, rfl, rfl⟩
set_option maxRecDepth 100000 in
theorem m_De_feasibleWords {d : Nat} (hd : 0 ≤ d) {D : Nat} (hD : isD D)  : AM G false d 0 0 y_De_feasibleWords [aP D] 94 μ (Qe (some (aL (mL μ D 9))) 94 μ) := by
  refine am_of (n := 0) pf_De_feasibleWords (Nat.le_of_ble_eq_true rfl) (by intro v hv; simp only [List.mem_cons, List.not_mem_nil, or_false] at hv; rcases hv with rfl <;> first | trivial | assumption | exact in_c rfl | (show inR _; unfold inR; omega)) rfl ?_
  refine aw_aload_n d_De_feasibleWords_0 rfl rfl ?_
  refine aw_getL fd_De_feasibleWords lk_De_43 (Nat.lt_of_le_of_lt (Nat.le_add_right _ 7) (ltD hD)) (shD0 hD) d_De_feasibleWords_1 ?_
  exact aw_lret d_De_feasibleWords_4 rfl ⟨rfl, rfl, rfl⟩
set_option maxRecDepth 100000 in
theorem m_De_evaluatingWords {d : Nat} (hd : 0 ≤ d) {D : Nat} (hD : isD D) (hR : ∀ k j, mR μ k j = R0 pg k j) {i : Nat} (hi : i < 6) : AM G false d 0 0 y_De_evaluatingWords [aP D, aI (i : Int)] 94 μ (Qe (some (aL (mL μ (D + 5) i))) 94 μ) := by
  refine am_of (n := 0) pf_De_evaluatingWords (Nat.le_of_ble_eq_true rfl) (by intro v hv; simp only [List.mem_cons, List.not_mem_nil, or_false] at hv; rcases hv with rfl | rfl <;> first | trivial | assumption | exact in_c rfl | (show inR _; unfold inR; omega)) rfl ?_
  refine aw_aload_n d_De_evaluatingWords_0 rfl rfl ?_
  refine aw_getR fd_De_evaluating lk_De_25 (Nat.lt_of_le_of_lt (Nat.le_add_right _ 7) (ltD hD)) (shD0 hD) d_De_evaluatingWords_1 ((hR _ _).trans (rD4 hD)) ?_
  refine aw_iload_n d_De_evaluatingWords_4 rfl rfl ?_
  refine aw_lald (n := i) (by have := ltD hD; omega) (shD5 hD) rfl (by omega) d_De_evaluatingWords_5 ?_
  exact aw_lret d_De_evaluatingWords_6 rfl ⟨rfl, rfl, rfl⟩
set_option maxRecDepth 100000 in
theorem m_De_valueFor {d : Nat} (hd : 0 ≤ d) {D : Nat} (hD : isD D) (hR : ∀ k j, mR μ k j = R0 pg k j) {w x : Nat} (hw : w < 64) (hx : x < 3) : AM G false d 0 0 y_De_valueFor [aP D, aI (w : Int), aI (x : Int)] 94 μ (Qe (some (aI (mI μ (D + 7) (3 * w + x)))) 94 μ) := by
  refine am_of (n := 0) pf_De_valueFor (Nat.le_of_ble_eq_true rfl) (by intro v hv; simp only [List.mem_cons, List.not_mem_nil, or_false] at hv; rcases hv with rfl | rfl | rfl <;> first | trivial | assumption | exact in_c rfl | (show inR _; unfold inR; omega)) rfl ?_
  refine aw_aload_n d_De_valueFor_0 rfl rfl ?_
  refine aw_getR fd_De_vectors lk_De_32 (Nat.lt_of_le_of_lt (Nat.le_add_right _ 7) (ltD hD)) (shD0 hD) d_De_valueFor_1 ((hR _ _).trans (rD6 hD)) ?_
  refine aw_iload_n d_De_valueFor_4 rfl rfl ?_
  refine aw_iconst d_De_valueFor_5 (in_c rfl) ?_
  refine aw_imul d_De_valueFor_6 (by unfold inR; omega) ?_
  refine aw_iload_n d_De_valueFor_7 rfl rfl ?_
  refine aw_iadd d_De_valueFor_8 (by unfold inR; omega) ?_
  refine aw_iald (n := 3 * w + x) (by have := ltD hD; omega) (shD7 hD) (by omega) (by omega) d_De_valueFor_9 ?_
  exact aw_iret d_De_valueFor_10 rfl ⟨rfl, rfl, rfl⟩
set_option maxRecDepth 100000 in
theorem m_In_lowOf {d : Nat} (hd : 0 ≤ d) (hR : ∀ k j, mR μ k j = R0 pg k j) {i : Nat} (hi : i < 3) : AM G false d 0 0 y_In_lowOf [aP 1, aI (i : Int)] 94 μ (Qe (some (aI (mI μ 2 i))) 94 μ) := by
  refine am_of (n := 0) pf_In_lowOf (Nat.le_of_ble_eq_true rfl) (by intro v hv; simp only [List.mem_cons, List.not_mem_nil, or_false] at hv; rcases hv with rfl | rfl <;> first | trivial | assumption | exact in_c rfl | (show inR _; unfold inR; omega)) rfl ?_
  refine aw_aload_n d_In_lowOf_0 rfl rfl ?_
  refine aw_getR fd_In_low lk_In_9 (by omega) rfl d_In_lowOf_1 (hR _ _) ?_
  refine aw_iload_n d_In_lowOf_4 rfl rfl ?_
  refine aw_iald (n := i) (by omega) rfl rfl (by omega) d_In_lowOf_5 ?_
  exact aw_iret d_In_lowOf_6 rfl ⟨rfl, rfl, rfl⟩
set_option maxRecDepth 100000 in
theorem m_In_highOf {d : Nat} (hd : 0 ≤ d) (hR : ∀ k j, mR μ k j = R0 pg k j) {i : Nat} (hi : i < 3) : AM G false d 0 0 y_In_highOf [aP 1, aI (i : Int)] 94 μ (Qe (some (aI (mI μ 3 i))) 94 μ) := by
  refine am_of (n := 0) pf_In_highOf (Nat.le_of_ble_eq_true rfl) (by intro v hv; simp only [List.mem_cons, List.not_mem_nil, or_false] at hv; rcases hv with rfl | rfl <;> first | trivial | assumption | exact in_c rfl | (show inR _; unfold inR; omega)) rfl ?_
  refine aw_aload_n d_In_highOf_0 rfl rfl ?_
  refine aw_getR fd_In_high lk_In_15 (by omega) rfl d_In_highOf_1 (hR _ _) ?_
  refine aw_iload_n d_In_highOf_4 rfl rfl ?_
  refine aw_iald (n := i) (by omega) rfl rfl (by omega) d_In_highOf_5 ?_
  exact aw_iret d_In_highOf_6 rfl ⟨rfl, rfl, rfl⟩
set_option maxRecDepth 100000 in
theorem m_In_fits {d : Nat} (hd : 1 ≤ d) (hR : ∀ k j, mR μ k j = R0 pg k j) {i : Nat} (hi : i < 3) {v : Int} (hv : inR v) : AM G false d 0 0 y_In_fits [aP 1, aI (i : Int), aI v] 94 μ (Qe (some (aI (if (i : Int) < mI μ 1 2 ∧ (v < mI μ 2 i ∨ mI μ 3 i < v) then 0 else 1))) 94 μ) := by
  refine am_of (n := 0) pf_In_fits (Nat.le_of_ble_eq_true rfl) (by intro v hv; simp only [List.mem_cons, List.not_mem_nil, or_false] at hv; rcases hv with rfl | rfl | rfl <;> first | trivial | assumption | exact in_c rfl | (show inR _; unfold inR; omega)) rfl ?_
  refine aw_aload_n d_In_fits_0 rfl rfl ?_
  refine aw_iload_n d_In_fits_1 rfl rfl ?_
  refine aw_ve (as := [_]) rfl cv_In_22 (by omega) rfl rfl d_In_fits_2 (Nat.le_of_ble_eq_true rfl) (d' := d - 1) (by omega) (m_In_has (by omega) (by unfold inR; omega)) ?_
  refine aw_if_eq (tgt := 28) d_In_fits_5 rfl (fun h5 => ?_) (fun h5 => ?_)
  · replace h5 := ite_z h5
    refine aw_iconst d_In_fits_28 (in_c rfl) ?_
    refine aw_goto (tgt := 33) d_In_fits_29 rfl ?_
    exact aw_zret d_In_fits_33 rfl rfl ⟨by first | rfl | rw [if_pos (by omega)] | rw [if_neg (by omega)], rfl, rfl⟩
  · replace h5 := ite_n h5
    refine aw_iload_n d_In_fits_8 rfl rfl ?_
    refine aw_aload_n d_In_fits_9 rfl rfl ?_
    refine aw_getR fd_In_low lk_In_9 (by omega) rfl d_In_fits_10 (hR _ _) ?_
    refine aw_iload_n d_In_fits_13 rfl rfl ?_
    refine aw_iald (n := i) (by omega) rfl rfl (by omega) d_In_fits_14 ?_
    refine aw_icmp_lt (tgt := 32) d_In_fits_15 rfl (fun h15 => ?_) (fun h15 => ?_)
    · refine aw_iconst d_In_fits_32 (in_c rfl) ?_
      exact aw_zret d_In_fits_33 rfl rfl ⟨by first | rfl | rw [if_pos (by omega)] | rw [if_neg (by omega)], rfl, rfl⟩
    · refine aw_iload_n d_In_fits_18 rfl rfl ?_
      refine aw_aload_n d_In_fits_19 rfl rfl ?_
      refine aw_getR fd_In_high lk_In_15 (by omega) rfl d_In_fits_20 (hR _ _) ?_
      refine aw_iload_n d_In_fits_23 rfl rfl ?_
      refine aw_iald (n := i) (by omega) rfl rfl (by omega) d_In_fits_24 ?_
      refine aw_icmp_gt (tgt := 32) d_In_fits_25 rfl (fun h25 => ?_) (fun h25 => ?_)
      · refine aw_iconst d_In_fits_32 (in_c rfl) ?_
        exact aw_zret d_In_fits_33 rfl rfl ⟨by first | rfl | rw [if_pos (by omega)] | rw [if_neg (by omega)], rfl, rfl⟩
      · refine aw_iconst d_In_fits_28 (in_c rfl) ?_
        refine aw_goto (tgt := 33) d_In_fits_29 rfl ?_
        exact aw_zret d_In_fits_33 rfl rfl ⟨by first | rfl | rw [if_pos (by omega)] | rw [if_neg (by omega)], rfl, rfl⟩
set_option maxRecDepth 100000 in
theorem m_Co_firstOf {d : Nat} (hd : 0 ≤ d) (hR : ∀ k j, mR μ k j = R0 pg k j) {i : Nat} (hi : i < 8) : AM G false d 0 0 y_Co_firstOf [aP 4, aI (i : Int)] 94 μ (Qe (some (aI (mI μ 6 i))) 94 μ) := by
  refine am_of (n := 0) pf_Co_firstOf (Nat.le_of_ble_eq_true rfl) (by intro v hv; simp only [List.mem_cons, List.not_mem_nil, or_false] at hv; rcases hv with rfl | rfl <;> first | trivial | assumption | exact in_c rfl | (show inR _; unfold inR; omega)) rfl ?_
  refine aw_aload_n d_Co_firstOf_0 rfl rfl ?_
  refine aw_getR fd_Co_firsts lk_Co_15 (by omega) rfl d_Co_firstOf_1 (hR _ _) ?_
  refine aw_iload_n d_Co_firstOf_4 rfl rfl ?_
  refine aw_iald (n := i) (by omega) rfl rfl (by omega) d_Co_firstOf_5 ?_
  exact aw_iret d_Co_firstOf_6 rfl ⟨rfl, rfl, rfl⟩
set_option maxRecDepth 100000 in
theorem m_Co_secondOf {d : Nat} (hd : 0 ≤ d) (hR : ∀ k j, mR μ k j = R0 pg k j) {i : Nat} (hi : i < 8) : AM G false d 0 0 y_Co_secondOf [aP 4, aI (i : Int)] 94 μ (Qe (some (aI (mI μ 7 i))) 94 μ) := by
  refine am_of (n := 0) pf_Co_secondOf (Nat.le_of_ble_eq_true rfl) (by intro v hv; simp only [List.mem_cons, List.not_mem_nil, or_false] at hv; rcases hv with rfl | rfl <;> first | trivial | assumption | exact in_c rfl | (show inR _; unfold inR; omega)) rfl ?_
  refine aw_aload_n d_Co_secondOf_0 rfl rfl ?_
  refine aw_getR fd_Co_seconds lk_Co_18 (by omega) rfl d_Co_secondOf_1 (hR _ _) ?_
  refine aw_iload_n d_Co_secondOf_4 rfl rfl ?_
  refine aw_iald (n := i) (by omega) rfl rfl (by omega) d_Co_secondOf_5 ?_
  exact aw_iret d_Co_secondOf_6 rfl ⟨rfl, rfl, rfl⟩
def hz (k v b : Int) : Int := if (k = 0 ∧ v ≤ b) ∨ (k = 1 ∧ v < b) ∨ (k = 2 ∧ v = b) ∨ (2 < k ∧ ¬ v = b) then 1 else 0
set_option maxRecDepth 100000 in
theorem m_Co_holds {d : Nat} (hd : 0 ≤ d) (hR : ∀ k j, mR μ k j = R0 pg k j) {i : Nat} (hi : i < 8) {v : Int} (hv : inR v) (h0 : 0 ≤ mI μ 5 i) : AM G false d 0 0 y_Co_holds [aP 4, aI (i : Int), aI v] 94 μ (Qe (some (aI (hz (mI μ 5 i) v (mI μ 8 i)))) 94 μ) := by
  refine am_of (n := 1) pf_Co_holds (Nat.le_of_ble_eq_true rfl) (by intro v hv; simp only [List.mem_cons, List.not_mem_nil, or_false] at hv; rcases hv with rfl | rfl | rfl <;> first | trivial | assumption | exact in_c rfl | (show inR _; unfold inR; omega)) rfl ?_
  refine aw_aload_n d_Co_holds_0 rfl rfl ?_
  refine aw_getR fd_Co_limits lk_Co_21 (by omega) rfl d_Co_holds_1 (hR _ _) ?_
  refine aw_iload_n d_Co_holds_4 rfl rfl ?_
  refine aw_iald (n := i) (by omega) rfl rfl (by omega) d_Co_holds_5 ?_
  refine aw_istore_n (lst' := [_, _, _, _]) d_Co_holds_6 rfl (Nat.le_of_ble_eq_true rfl) rfl ?_
  refine aw_aload_n d_Co_holds_7 rfl rfl ?_
  refine aw_getR fd_Co_kinds lk_Co_9 (by omega) rfl d_Co_holds_8 (hR _ _) ?_
  refine aw_iload_n d_Co_holds_11 rfl rfl ?_
  refine aw_iald (n := i) (by omega) rfl rfl (by omega) d_Co_holds_12 ?_
  rcases (show mI μ 5 i = 0 ∨ mI μ 5 i = 1 ∨ mI μ 5 i = 2 ∨ 2 < mI μ 5 i by omega) with h5 | h5 | h5 | h5
  · refine aw_tv (v' := 0) h5 (aw_tabI (tgt := 40) d_Co_holds_13 (by decide) (by decide) rfl rfl ?_)
    refine aw_iload_n d_Co_holds_40 rfl rfl ?_
    refine aw_iload_n d_Co_holds_41 rfl rfl ?_
    refine aw_icmp_gt (tgt := 49) d_Co_holds_42 rfl (fun h42 => ?_) (fun h42 => ?_)
    · refine aw_iconst d_Co_holds_49 (in_c rfl) ?_
      exact aw_zret d_Co_holds_50 rfl rfl ⟨by unfold hz; first | rw [if_pos (by omega)] | rw [if_neg (by omega)], rfl, rfl⟩
    · refine aw_iconst d_Co_holds_45 (in_c rfl) ?_
      refine aw_goto (tgt := 50) d_Co_holds_46 rfl ?_
      exact aw_zret d_Co_holds_50 rfl rfl ⟨by unfold hz; first | rw [if_pos (by omega)] | rw [if_neg (by omega)], rfl, rfl⟩
  · refine aw_tv (v' := 1) h5 (aw_tabI (tgt := 51) d_Co_holds_13 (by decide) (by decide) rfl rfl ?_)
    refine aw_iload_n d_Co_holds_51 rfl rfl ?_
    refine aw_iload_n d_Co_holds_52 rfl rfl ?_
    refine aw_icmp_ge (tgt := 60) d_Co_holds_53 rfl (fun h53 => ?_) (fun h53 => ?_)
    · refine aw_iconst d_Co_holds_60 (in_c rfl) ?_
      exact aw_zret d_Co_holds_61 rfl rfl ⟨by unfold hz; first | rw [if_pos (by omega)] | rw [if_neg (by omega)], rfl, rfl⟩
    · refine aw_iconst d_Co_holds_56 (in_c rfl) ?_
      refine aw_goto (tgt := 61) d_Co_holds_57 rfl ?_
      exact aw_zret d_Co_holds_61 rfl rfl ⟨by unfold hz; first | rw [if_pos (by omega)] | rw [if_neg (by omega)], rfl, rfl⟩
  · refine aw_tv (v' := 2) h5 (aw_tabI (tgt := 62) d_Co_holds_13 (by decide) (by decide) rfl rfl ?_)
    refine aw_iload_n d_Co_holds_62 rfl rfl ?_
    refine aw_iload_n d_Co_holds_63 rfl rfl ?_
    refine aw_icmp_ne (tgt := 71) d_Co_holds_64 rfl (fun h64 => ?_) (fun h64 => ?_)
    · refine aw_iconst d_Co_holds_71 (in_c rfl) ?_
      exact aw_zret d_Co_holds_72 rfl rfl ⟨by unfold hz; first | rw [if_pos (by omega)] | rw [if_neg (by omega)], rfl, rfl⟩
    · refine aw_iconst d_Co_holds_67 (in_c rfl) ?_
      refine aw_goto (tgt := 72) d_Co_holds_68 rfl ?_
      exact aw_zret d_Co_holds_72 rfl rfl ⟨by unfold hz; first | rw [if_pos (by omega)] | rw [if_neg (by omega)], rfl, rfl⟩
  · refine aw_tabO (tgt := 73) d_Co_holds_13 (Or.inr h5) rfl ?_
    refine aw_iload_n d_Co_holds_73 rfl rfl ?_
    refine aw_iload_n d_Co_holds_74 rfl rfl ?_
    refine aw_icmp_eq (tgt := 82) d_Co_holds_75 rfl (fun h75 => ?_) (fun h75 => ?_)
    · refine aw_iconst d_Co_holds_82 (in_c rfl) ?_
      exact aw_zret d_Co_holds_83 rfl rfl ⟨by unfold hz; first | rw [if_pos (by omega)] | rw [if_neg (by omega)], rfl, rfl⟩
    · refine aw_iconst d_Co_holds_78 (in_c rfl) ?_
      refine aw_goto (tgt := 83) d_Co_holds_79 rfl ?_
      exact aw_zret d_Co_holds_83 rfl rfl ⟨by unfold hz; first | rw [if_pos (by omega)] | rw [if_neg (by omega)], rfl, rfl⟩
set_option maxRecDepth 100000 in
theorem m_Rc_add {d : Nat} (hd : 0 ≤ d) {a b e : Int} {c : Nat} (h1 : inR a) (h2 : inR b) (h3 : inR e) (hc : mI μ 63 1 = (c : Int)) (hc12 : c < 12) (hR : ∀ k j, mR μ k j = R0 pg k j)  : AM G false d 0 0 y_Rc_add [aP 63, aI a, aI b, aI e] 94 μ (Qe (some (aI ((c : Int) + 1))) 94 (wI (wI (wI (wI μ 64 (3 * c) a) 64 (3 * c + 1) b) 64 (3 * c + 2) e) 63 1 ((c : Int) + 1))) := by
  refine am_of (n := 1) pf_Rc_add (Nat.le_of_ble_eq_true rfl) (by intro v hv; simp only [List.mem_cons, List.not_mem_nil, or_false] at hv; rcases hv with rfl | rfl | rfl | rfl <;> first | trivial | assumption | exact in_c rfl | (show inR _; unfold inR; omega)) rfl ?_
  refine aw_aload_n d_Rc_add_0 rfl rfl ?_
  refine aw_getI fd_Rc_count lk_Rc_15 (by omega) rfl d_Rc_add_1 ?_
  refine aw_tv (v' := (c : Int)) hc ?_
  refine aw_iconst d_Rc_add_4 (in_c rfl) ?_
  refine aw_imul d_Rc_add_5 (by unfold inR; omega) ?_
  refine aw_istore (lst' := [_, _, _, _, _]) d_Rc_add_6 (Nat.le_of_ble_eq_true rfl) rfl ?_
  refine aw_aload_n d_Rc_add_8 rfl rfl ?_
  refine aw_getR fd_Rc_row lk_Rc_9 (by omega) rfl d_Rc_add_9 (hR _ _) ?_
  refine aw_iload d_Rc_add_12 rfl ?_
  refine aw_iload_n d_Rc_add_14 rfl rfl ?_
  refine aw_iast (n := 3 * c) (by omega) rfl (by omega) (by omega) d_Rc_add_15 ?_
  refine aw_aload_n d_Rc_add_16 rfl rfl ?_
  refine aw_pc (pc' := 17) rfl ?_
  refine aw_getR fd_Rc_row lk_Rc_9 (by omega) rfl d_Rc_add_17 (hR _ _) ?_
  refine aw_iload d_Rc_add_20 rfl ?_
  refine aw_iconst d_Rc_add_22 (in_c rfl) ?_
  refine aw_iadd d_Rc_add_23 (by unfold inR; omega) ?_
  refine aw_iload_n d_Rc_add_24 rfl rfl ?_
  refine aw_iast (n := 3 * c + 1) (by omega) rfl (by omega) (by omega) d_Rc_add_25 ?_
  refine aw_aload_n d_Rc_add_26 rfl rfl ?_
  refine aw_getR fd_Rc_row lk_Rc_9 (by omega) rfl d_Rc_add_27 (hR _ _) ?_
  refine aw_iload d_Rc_add_30 rfl ?_
  refine aw_iconst d_Rc_add_32 (in_c rfl) ?_
  refine aw_iadd d_Rc_add_33 (by unfold inR; omega) ?_
  refine aw_iload_n d_Rc_add_34 rfl rfl ?_
  refine aw_pc (pc' := 35) rfl ?_
  refine aw_iast (n := 3 * c + 2) (by omega) rfl (by omega) (by omega) d_Rc_add_35 ?_
  refine aw_aload_n d_Rc_add_36 rfl rfl ?_
  refine aw_dup d_Rc_add_37 rfl ?_
  refine aw_getI fd_Rc_count lk_Rc_15 (by omega) rfl d_Rc_add_38 ?_
  refine aw_tv (v' := (c : Int)) (by simp only [mI_wI]; rw [if_neg (by omega), if_neg (by omega), if_neg (by omega)]; exact hc) ?_
  refine aw_iconst d_Rc_add_41 (in_c rfl) ?_
  refine aw_iadd d_Rc_add_42 (by unfold inR; omega) ?_
  refine aw_putI fd_Rc_count lk_Rc_15 (by omega) rfl d_Rc_add_43 (Or.inl rfl) ?_
  refine aw_aload_n d_Rc_add_46 rfl rfl ?_
  refine aw_getI fd_Rc_count lk_Rc_15 (by omega) rfl d_Rc_add_47 ?_
  refine aw_tv (v' := (c : Int) + 1) rfl ?_
  exact aw_iret d_Rc_add_50 rfl ⟨rfl, rfl, rfl⟩
end
