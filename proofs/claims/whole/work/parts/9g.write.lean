/-! the class writes -/
section
/-- characters put at the end of the line k -/
def apM (k : Nat) (m : aM) : List Int → aM
  | [] => m
  | ch :: l => apM k (wI (wI m (k + 1) (mI m k 1).toNat ch) k 1 (mI m k 1 + 1)) l
theorem apM_app (k : Nat) : ∀ (l1 l2 : List Int) (m : aM), apM k m (l1 ++ l2) = apM k (apM k m l1) l2
  | [], l2, m => rfl
  | ch :: l1, l2, m => by rw [List.cons_append, apM, apM_app k l1 l2, apM]
theorem apM_fr (k : Nat) : ∀ (l : List Int) (m : aM), (∀ a b, a ≠ k + 1 → ¬ (a = k ∧ b = 1) → mI (apM k m l) a b = mI m a b) ∧ (∀ a b, mL (apM k m l) a b = mL m a b) ∧ (∀ a b, mR (apM k m l) a b = mR m a b)
  | [], m => ⟨fun _ _ _ _ => rfl, fun _ _ => rfl, fun _ _ => rfl⟩
  | ch :: l, m => by
    obtain ⟨h1, h2, h3⟩ := apM_fr k l (wI (wI m (k + 1) (mI m k 1).toNat ch) k 1 (mI m k 1 + 1))
    exact ⟨fun a b g1 g2 => by rw [apM, h1 a b g1 g2, mI_wI, if_neg g2, mI_wI, if_neg (fun z => g1 z.1)], h2, h3⟩
theorem apM_c (k : Nat) : ∀ (l : List Int) (m : aM) (c : Nat), mI m k 1 = (c : Int) → mI (apM k m l) k 1 = ((c + l.length : Nat) : Int)
  | [], m, c, h => by rw [apM, h]; rfl
  | ch :: l, m, c, h => by
    rw [apM, apM_c k l _ (c + 1) (by rw [mI_wI, if_pos ⟨rfl, rfl⟩, h]; rfl), List.length_cons]; omega
theorem apM_at (k : Nat) : ∀ (l : List Int) (m : aM) (c : Nat), mI m k 1 = (c : Int) → (∀ j, j < c → mI (apM k m l) (k + 1) j = mI m (k + 1) j) ∧ (∀ j, j < l.length → mI (apM k m l) (k + 1) (c + j) = l.getD j 0)
  | [], m, c, h => ⟨fun _ _ => rfl, fun j hj => absurd hj (Nat.not_lt_zero _)⟩
  | ch :: l, m, c, h => by
    obtain ⟨h1, h2⟩ := apM_at k l (wI (wI m (k + 1) (mI m k 1).toNat ch) k 1 (mI m k 1 + 1)) (c + 1) (by rw [mI_wI, if_pos ⟨rfl, rfl⟩, h]; rfl)
    have e0 : mI (wI (wI m (k + 1) (mI m k 1).toNat ch) k 1 (mI m k 1 + 1)) (k + 1) c = ch := by rw [mI_wI, if_neg (by omega), mI_wI, if_pos ⟨rfl, by rw [h]; rfl⟩]
    refine ⟨fun j hj => ?_, fun j hj => ?_⟩
    · rw [apM, h1 j (by omega), mI_wI, if_neg (by omega), mI_wI, if_neg (by rw [h]; omega)]
    · cases j with
      | zero => show mI (apM k (wI (wI m (k + 1) (mI m k 1).toNat ch) k 1 (mI m k 1 + 1)) l) (k + 1) c = ch; rw [h1 c (by omega), e0]
      | succ j => rw [apM, show c + (j + 1) = c + 1 + j by omega, h2 j (by rw [List.length_cons] at hj; omega)]; rfl
theorem put_eq {k n : Nat} {m : aM} {ch : Int} (h : mI m k 1 = (n : Int)) (hn : n < 40) : (if n = 40 then m else wI (wI m (k + 1) n ch) k 1 ((n : Int) + 1)) = apM k m [ch] := by
  rw [if_neg (by omega), apM, apM, h]; rfl
def okT' (J L R : Nat → Int) (n : Nat) : Prop := ∀ y, y < n → (0 ≤ J y ∧ J y ≤ 4) ∧ (J y = 4 → 0 ≤ L y ∧ L y < 8) ∧ (J y < 4 → 0 ≤ L y ∧ L y < (y : Int)) ∧ (J y < 3 → 0 ≤ R y ∧ R y < (y : Int))
theorem sgn_in (v : Nat) (h : v < 4) : 0 ≤ sgn v ∧ sgn v < 65536 := by
  rcases (show v = 0 ∨ v = 1 ∨ v = 2 ∨ v = 3 by omega) with rfl | rfl | rfl | rfl <;> decide
variable {G : aG} {pg : Nat} {μ : aM}
set_option maxRecDepth 100000 in
theorem m_Tr_write_s {d : Nat} (hd : 4 ≤ d) {D : Nat} (hD : isD D) (hR : ∀ k j, mR μ k j = R0 pg k j) {J Lf Rf : Nat → Int} {n : Nat} (hn40 : n ≤ 40) (ok : okT' J Lf Rf n) {g g1 : Nat} (hg1 : g1 = g + 1) (hg40 : g ≤ 40) (e12 : mI μ 12 = J) (e13 : mI μ 13 = Lf) (e14 : mI μ 14 = Rf) {x : Nat} (hx : x < n) {ja : Int} (hja : 0 ≤ ja ∧ ja ≤ 4) {c : Nat} (hc : mI μ (D + 1) 1 = (c : Int)) (hlen : c + (wr J Lf Rf (g + 1) x ja).length ≤ 40) (ihW : (∀ (dd : Nat) (m : aM) (x : Nat) (ja : Int) (c : Nat), g + 5 ≤ dd → (∀ a b, mR m a b = R0 pg a b) → mI m 12 = J → mI m 13 = Lf → mI m 14 = Rf → x < n → (0 ≤ ja ∧ ja ≤ 4) → mI m (D + 1) 1 = (c : Int) → c + (wr J Lf Rf g x ja).length ≤ 40 → AM G false dd 0 0 y_Tr_write [aP 11, aI (x : Int), aI ja, aP (D + 1), aI (g : Int)] 94 m (Qe none 94 (apM (D + 1) m (wr J Lf Rf g x ja))))) (hdd : g + 6 ≤ d) : AM G false d 0 0 y_Tr_write [aP 11, aI (x : Int), aI ja, aP (D + 1), aI (g1 : Int)] 94 μ (Qe none 94 (apM (D + 1) μ (wr J Lf Rf (g + 1) x ja))) := by
  refine am_of (n := 2) pf_Tr_write (Nat.le_of_ble_eq_true rfl) (by intro v hv; simp only [List.mem_cons, List.not_mem_nil, or_false] at hv; rcases hv with rfl | rfl | rfl | rfl | rfl <;> first | trivial | assumption | exact in_c rfl | exact bI_in _ | (show inR _; unfold inR; omega)) rfl ?_
  obtain ⟨o1, o2, o3, o4⟩ := ok x hx
  have h26 := isD_26 hD
  refine aw_iload d_Tr_write_0 rfl ?_
  refine aw_if_ne (tgt := 6) d_Tr_write_2 rfl (fun h2 => ?_) (fun h2 => absurd h2 (by omega))
  refine aw_aload_n d_Tr_write_6 rfl rfl ?_
  refine aw_getR fd_Tr_joints lk_Tr_9 (by omega) rfl d_Tr_write_7 (hR _ _) ?_
  refine aw_iload_n d_Tr_write_10 rfl rfl ?_
  refine aw_iald (n := x) (by omega) rfl rfl (by omega) d_Tr_write_11 ?_
  refine aw_tv (v' := J x) (congrFun e12 x) ?_
  refine aw_istore (lst' := [_, _, _, _, _, _, _]) d_Tr_write_12 (Nat.le_of_ble_eq_true rfl) rfl ?_
  refine aw_iload d_Tr_write_14 rfl ?_
  refine aw_iload_n d_Tr_write_16 rfl rfl ?_
  refine aw_icmp_ge (tgt := 24) d_Tr_write_17 rfl (fun h17 => ?_) (fun h17 => ?_)
  · refine aw_iconst d_Tr_write_24 (in_c rfl) ?_
    have hwr : ¬ J x < ja := by omega
    refine aw_istore (lst' := [_, _, _, _, _, _, _]) d_Tr_write_25 (Nat.le_of_ble_eq_true rfl) rfl ?_
    refine aw_iload d_Tr_write_27 rfl ?_
    refine aw_if_eq (tgt := 39) d_Tr_write_29 rfl (fun h29 => ?_) (fun h29 => absurd rfl h29)
    refine aw_mm (μ' := apM (D + 1) μ ([] : List Int)) rfl ?_
    refine aw_iload d_Tr_write_39 rfl ?_
    refine aw_iconst d_Tr_write_41 (in_c rfl) ?_
    refine aw_icmp_ne (tgt := 63) d_Tr_write_42 rfl (fun h42 => ?_) (fun h42 => ?_)
    · refine aw_iload d_Tr_write_63 rfl ?_
      have hj4 : ¬ J x = 4 := by omega
      refine aw_iconst d_Tr_write_65 (in_c rfl) ?_
      refine aw_icmp_ne (tgt := 100) d_Tr_write_66 rfl (fun h66 => ?_) (fun h66 => ?_)
      · refine aw_aload_n d_Tr_write_100 rfl rfl ?_
        have hj3 : ¬ J x = 3 := by omega
        have hful : wr J Lf Rf (g + 1) x ja = (((([] : List Int) ++ wr J Lf Rf g (Lf x).toNat (J x)) ++ [sgn (J x).toNat]) ++ wr J Lf Rf g (Rf x).toNat (J x)) := by rw [wr, if_neg hwr, if_neg hj4, if_neg hj3]; simp
        have hle := hlen
        rw [hful] at hle
        simp only [List.length_append, List.length_cons, List.length_nil] at hle
        refine aw_aload_n d_Tr_write_101 rfl rfl ?_
        refine aw_getR fd_Tr_lefts lk_Tr_15 (by omega) rfl d_Tr_write_102 (((apM_fr (D + 1) ([] : List Int) μ).2.2 _ _).trans (hR _ _)) ?_
        refine aw_iload_n d_Tr_write_105 rfl rfl ?_
        refine aw_iald (n := x) (by omega) rfl rfl (by omega) d_Tr_write_106 ?_
        refine aw_tv (v' := (((Lf x).toNat : Nat) : Int)) ((((apM_fr (D + 1) ([] : List Int) μ).1 13 x (by omega) (by omega)).trans (congrFun e13 x)).trans (by omega)) ?_
        refine aw_iload d_Tr_write_107 rfl ?_
        refine aw_aload_n d_Tr_write_109 rfl rfl ?_
        refine aw_iload d_Tr_write_110 rfl ?_
        refine aw_iconst d_Tr_write_112 (in_c rfl) ?_
        refine aw_isub d_Tr_write_113 (by unfold inR; omega) ?_
        refine aw_tv (v' := (g : Int)) (by omega) ?_
        refine aw_ve (as := [_, _, _, _]) rfl cv_Tr_70 (by omega) rfl rfl d_Tr_write_114 (Nat.le_of_ble_eq_true rfl) (d' := d - 1) (by omega) (ihW (d - 1) (apM (D + 1) μ ([] : List Int)) (Lf x).toNat (J x) (c + (([] : List Int)).length) (by omega) (fun a b => ((apM_fr (D + 1) ([] : List Int) μ).2.2 a b).trans (hR a b)) ((funext fun b => (apM_fr (D + 1) ([] : List Int) μ).1 12 b (by omega) (by omega)).trans e12) ((funext fun b => (apM_fr (D + 1) ([] : List Int) μ).1 13 b (by omega) (by omega)).trans e13) ((funext fun b => (apM_fr (D + 1) ([] : List Int) μ).1 14 b (by omega) (by omega)).trans e14) (by omega) (by omega) (apM_c (D + 1) ([] : List Int) μ c hc) (by simp only [List.length_append, List.length_cons, List.length_nil]; omega)) ?_
        refine aw_mm (μ' := apM (D + 1) μ (([] : List Int) ++ wr J Lf Rf g (Lf x).toNat (J x))) (apM_app (D + 1) ([] : List Int) _ μ).symm ?_
        refine aw_pc (pc' := 117) rfl ?_
        refine aw_aload_n d_Tr_write_117 rfl rfl ?_
        refine aw_ldcS (k := 4) (Or.inr ⟨rfl, rfl, rfl⟩) d_Tr_write_118 ?_
        refine aw_iload d_Tr_write_120 rfl ?_
        refine aw_tv (v' := (((J x).toNat : Nat) : Int)) (by omega) ?_
        refine aw_vo (as := [_]) (k := 4) rfl (Or.inr rfl) rfl cv_Tr_80 d_Tr_write_122 (Nat.le_of_ble_eq_true rfl) (d' := d - 1) (by omega) (m_jS_charAt (j := (J x).toNat) (by omega) (Or.inr rfl) (by omega)) ?_
        refine aw_tv (v' := sgn (J x).toNat) rfl ?_
        refine aw_ve (as := [_]) rfl cv_Tr_74 (by have := ltD hD; omega) (shD1 hD) rfl d_Tr_write_125 (Nat.le_of_ble_eq_true rfl) (d' := d - 1) (by omega) (m_Li_put (μ := (apM (D + 1) μ (([] : List Int) ++ wr J Lf Rf g (Lf x).toNat (J x)))) (k := D + 1) (n := c + ((([] : List Int) ++ wr J Lf Rf g (Lf x).toNat (J x))).length) (ch := sgn (J x).toNat) (by omega) (by have := ltD hD; omega) (shD1 hD) (shD2 hD) (((apM_fr (D + 1) (([] : List Int) ++ wr J Lf Rf g (Lf x).toNat (J x)) μ).2.2 _ _).trans ((hR _ _).trans (rD9 hD))) (apM_c (D + 1) (([] : List Int) ++ wr J Lf Rf g (Lf x).toNat (J x)) μ c hc) (by simp only [List.length_append, List.length_cons, List.length_nil]; omega) (sgn_in _ (by omega))) ?_
        refine aw_mm (μ' := apM (D + 1) μ ((([] : List Int) ++ wr J Lf Rf g (Lf x).toNat (J x)) ++ [sgn (J x).toNat])) ((put_eq (apM_c (D + 1) (([] : List Int) ++ wr J Lf Rf g (Lf x).toNat (J x)) μ c hc) (by simp only [List.length_append, List.length_cons, List.length_nil]; omega)).trans (apM_app (D + 1) (([] : List Int) ++ wr J Lf Rf g (Lf x).toNat (J x)) [sgn (J x).toNat] μ).symm) ?_
        refine aw_pop d_Tr_write_128 rfl ?_
        refine aw_aload_n d_Tr_write_129 rfl rfl ?_
        refine aw_aload_n d_Tr_write_130 rfl rfl ?_
        refine aw_getR fd_Tr_rights lk_Tr_18 (by omega) rfl d_Tr_write_131 (((apM_fr (D + 1) ((([] : List Int) ++ wr J Lf Rf g (Lf x).toNat (J x)) ++ [sgn (J x).toNat]) μ).2.2 _ _).trans (hR _ _)) ?_
        refine aw_iload_n d_Tr_write_134 rfl rfl ?_
        refine aw_iald (n := x) (by omega) rfl rfl (by omega) d_Tr_write_135 ?_
        refine aw_tv (v' := (((Rf x).toNat : Nat) : Int)) ((((apM_fr (D + 1) ((([] : List Int) ++ wr J Lf Rf g (Lf x).toNat (J x)) ++ [sgn (J x).toNat]) μ).1 14 x (by omega) (by omega)).trans (congrFun e14 x)).trans (by omega)) ?_
        refine aw_iload d_Tr_write_136 rfl ?_
        refine aw_pc (pc' := 138) rfl ?_
        refine aw_aload_n d_Tr_write_138 rfl rfl ?_
        refine aw_iload d_Tr_write_139 rfl ?_
        refine aw_iconst d_Tr_write_141 (in_c rfl) ?_
        refine aw_isub d_Tr_write_142 (by unfold inR; omega) ?_
        refine aw_tv (v' := (g : Int)) (by omega) ?_
        refine aw_ve (as := [_, _, _, _]) rfl cv_Tr_70 (by omega) rfl rfl d_Tr_write_143 (Nat.le_of_ble_eq_true rfl) (d' := d - 1) (by omega) (ihW (d - 1) (apM (D + 1) μ ((([] : List Int) ++ wr J Lf Rf g (Lf x).toNat (J x)) ++ [sgn (J x).toNat])) (Rf x).toNat (J x) (c + (((([] : List Int) ++ wr J Lf Rf g (Lf x).toNat (J x)) ++ [sgn (J x).toNat])).length) (by omega) (fun a b => ((apM_fr (D + 1) ((([] : List Int) ++ wr J Lf Rf g (Lf x).toNat (J x)) ++ [sgn (J x).toNat]) μ).2.2 a b).trans (hR a b)) ((funext fun b => (apM_fr (D + 1) ((([] : List Int) ++ wr J Lf Rf g (Lf x).toNat (J x)) ++ [sgn (J x).toNat]) μ).1 12 b (by omega) (by omega)).trans e12) ((funext fun b => (apM_fr (D + 1) ((([] : List Int) ++ wr J Lf Rf g (Lf x).toNat (J x)) ++ [sgn (J x).toNat]) μ).1 13 b (by omega) (by omega)).trans e13) ((funext fun b => (apM_fr (D + 1) ((([] : List Int) ++ wr J Lf Rf g (Lf x).toNat (J x)) ++ [sgn (J x).toNat]) μ).1 14 b (by omega) (by omega)).trans e14) (by omega) (by omega) (apM_c (D + 1) ((([] : List Int) ++ wr J Lf Rf g (Lf x).toNat (J x)) ++ [sgn (J x).toNat]) μ c hc) (by simp only [List.length_append, List.length_cons, List.length_nil]; omega)) ?_
        refine aw_mm (μ' := apM (D + 1) μ (((([] : List Int) ++ wr J Lf Rf g (Lf x).toNat (J x)) ++ [sgn (J x).toNat]) ++ wr J Lf Rf g (Rf x).toNat (J x))) (apM_app (D + 1) ((([] : List Int) ++ wr J Lf Rf g (Lf x).toNat (J x)) ++ [sgn (J x).toNat]) _ μ).symm ?_
        refine aw_iload d_Tr_write_146 rfl ?_
        refine aw_if_eq (tgt := 158) d_Tr_write_148 rfl (fun h148 => ?_) (fun h148 => absurd rfl h148)
        exact aw_vret d_Tr_write_158 rfl ⟨rfl, rfl, by rw [hful]⟩
      · refine aw_aload_n d_Tr_write_69 rfl rfl ?_
        have hj3 : J x = 3 := by omega
        have hful : wr J Lf Rf (g + 1) x ja = ((([] : List Int) ++ [33]) ++ wr J Lf Rf g (Lf x).toNat 3) := by rw [wr, if_neg hwr, if_neg hj4, if_pos hj3]; simp
        have hle := hlen
        rw [hful] at hle
        simp only [List.length_append, List.length_cons, List.length_nil] at hle
        refine aw_ldcS (k := 4) (Or.inr ⟨rfl, rfl, rfl⟩) d_Tr_write_70 ?_
        refine aw_iconst d_Tr_write_72 (in_c rfl) ?_
        refine aw_tv (v' := ((3 : Nat) : Int)) rfl ?_
        refine aw_vo (as := [_]) (k := 4) rfl (Or.inr rfl) rfl cv_Tr_80 d_Tr_write_73 (Nat.le_of_ble_eq_true rfl) (d' := d - 1) (by omega) (m_jS_charAt (j := 3) (by omega) (Or.inr rfl) (by omega)) ?_
        refine aw_tv (v' := 33) rfl ?_
        refine aw_ve (as := [_]) rfl cv_Tr_74 (by have := ltD hD; omega) (shD1 hD) rfl d_Tr_write_76 (Nat.le_of_ble_eq_true rfl) (d' := d - 1) (by omega) (m_Li_put (μ := (apM (D + 1) μ ([] : List Int))) (k := D + 1) (n := c + (([] : List Int)).length) (ch := 33) (by omega) (by have := ltD hD; omega) (shD1 hD) (shD2 hD) (((apM_fr (D + 1) ([] : List Int) μ).2.2 _ _).trans ((hR _ _).trans (rD9 hD))) (apM_c (D + 1) ([] : List Int) μ c hc) (by simp only [List.length_append, List.length_cons, List.length_nil]; omega) (by omega)) ?_
        refine aw_mm (μ' := apM (D + 1) μ (([] : List Int) ++ [33])) ((put_eq (apM_c (D + 1) ([] : List Int) μ c hc) (by simp only [List.length_append, List.length_cons, List.length_nil]; omega)).trans (apM_app (D + 1) ([] : List Int) [33] μ).symm) ?_
        refine aw_pop d_Tr_write_79 rfl ?_
        refine aw_aload_n d_Tr_write_80 rfl rfl ?_
        refine aw_aload_n d_Tr_write_81 rfl rfl ?_
        refine aw_getR fd_Tr_lefts lk_Tr_15 (by omega) rfl d_Tr_write_82 (((apM_fr (D + 1) (([] : List Int) ++ [33]) μ).2.2 _ _).trans (hR _ _)) ?_
        refine aw_iload_n d_Tr_write_85 rfl rfl ?_
        refine aw_iald (n := x) (by omega) rfl rfl (by omega) d_Tr_write_86 ?_
        refine aw_tv (v' := (((Lf x).toNat : Nat) : Int)) ((((apM_fr (D + 1) (([] : List Int) ++ [33]) μ).1 13 x (by omega) (by omega)).trans (congrFun e13 x)).trans (by omega)) ?_
        refine aw_pc (pc' := 87) rfl ?_
        refine aw_iload d_Tr_write_87 rfl ?_
        refine aw_tv (v' := 3) hj3 ?_
        refine aw_aload_n d_Tr_write_89 rfl rfl ?_
        refine aw_iload d_Tr_write_90 rfl ?_
        refine aw_iconst d_Tr_write_92 (in_c rfl) ?_
        refine aw_isub d_Tr_write_93 (by unfold inR; omega) ?_
        refine aw_tv (v' := (g : Int)) (by omega) ?_
        refine aw_ve (as := [_, _, _, _]) rfl cv_Tr_70 (by omega) rfl rfl d_Tr_write_94 (Nat.le_of_ble_eq_true rfl) (d' := d - 1) (by omega) (ihW (d - 1) (apM (D + 1) μ (([] : List Int) ++ [33])) (Lf x).toNat 3 (c + ((([] : List Int) ++ [33])).length) (by omega) (fun a b => ((apM_fr (D + 1) (([] : List Int) ++ [33]) μ).2.2 a b).trans (hR a b)) ((funext fun b => (apM_fr (D + 1) (([] : List Int) ++ [33]) μ).1 12 b (by omega) (by omega)).trans e12) ((funext fun b => (apM_fr (D + 1) (([] : List Int) ++ [33]) μ).1 13 b (by omega) (by omega)).trans e13) ((funext fun b => (apM_fr (D + 1) (([] : List Int) ++ [33]) μ).1 14 b (by omega) (by omega)).trans e14) (by omega) (by omega) (apM_c (D + 1) (([] : List Int) ++ [33]) μ c hc) (by simp only [List.length_append, List.length_cons, List.length_nil]; omega)) ?_
        refine aw_mm (μ' := apM (D + 1) μ ((([] : List Int) ++ [33]) ++ wr J Lf Rf g (Lf x).toNat 3)) (apM_app (D + 1) (([] : List Int) ++ [33]) _ μ).symm ?_
        refine aw_goto (tgt := 146) d_Tr_write_97 rfl ?_
        refine aw_iload d_Tr_write_146 rfl ?_
        refine aw_if_eq (tgt := 158) d_Tr_write_148 rfl (fun h148 => ?_) (fun h148 => absurd rfl h148)
        exact aw_vret d_Tr_write_158 rfl ⟨rfl, rfl, by rw [hful]⟩
    · refine aw_aload_n d_Tr_write_45 rfl rfl ?_
      have hj4 : J x = 4 := by omega
      have hful : wr J Lf Rf (g + 1) x ja = (([] : List Int) ++ [65 + Lf x]) := by rw [wr, if_neg hwr, if_pos hj4]; simp
      have hle := hlen
      rw [hful] at hle
      simp only [List.length_append, List.length_cons, List.length_nil] at hle
      refine aw_bipush (z := 65) d_Tr_write_46 (in_c rfl) rfl ?_
      refine aw_aload_n d_Tr_write_48 rfl rfl ?_
      refine aw_getR fd_Tr_lefts lk_Tr_15 (by omega) rfl d_Tr_write_49 (((apM_fr (D + 1) ([] : List Int) μ).2.2 _ _).trans (hR _ _)) ?_
      refine aw_iload_n d_Tr_write_52 rfl rfl ?_
      refine aw_iald (n := x) (by omega) rfl rfl (by omega) d_Tr_write_53 ?_
      refine aw_tv (v' := Lf x) (((apM_fr (D + 1) ([] : List Int) μ).1 13 x (by omega) (by omega)).trans (congrFun e13 x)) ?_
      refine aw_iadd d_Tr_write_54 (by unfold inR; omega) ?_
      refine aw_i2c d_Tr_write_55 ?_
      refine aw_tv (v' := 65 + Lf x) (by omega) ?_
      refine aw_ve (as := [_]) rfl cv_Tr_74 (by have := ltD hD; omega) (shD1 hD) rfl d_Tr_write_56 (Nat.le_of_ble_eq_true rfl) (d' := d - 1) (by omega) (m_Li_put (μ := (apM (D + 1) μ ([] : List Int))) (k := D + 1) (n := c + (([] : List Int)).length) (ch := 65 + Lf x) (by omega) (by have := ltD hD; omega) (shD1 hD) (shD2 hD) (((apM_fr (D + 1) ([] : List Int) μ).2.2 _ _).trans ((hR _ _).trans (rD9 hD))) (apM_c (D + 1) ([] : List Int) μ c hc) (by simp only [List.length_append, List.length_cons, List.length_nil]; omega) (by omega)) ?_
      refine aw_mm (μ' := apM (D + 1) μ (([] : List Int) ++ [65 + Lf x])) ((put_eq (apM_c (D + 1) ([] : List Int) μ c hc) (by simp only [List.length_append, List.length_cons, List.length_nil]; omega)).trans (apM_app (D + 1) ([] : List Int) [65 + Lf x] μ).symm) ?_
      refine aw_pop d_Tr_write_59 rfl ?_
      refine aw_goto (tgt := 146) d_Tr_write_60 rfl ?_
      refine aw_pc (pc' := 146) rfl ?_
      refine aw_iload d_Tr_write_146 rfl ?_
      refine aw_if_eq (tgt := 158) d_Tr_write_148 rfl (fun h148 => ?_) (fun h148 => absurd rfl h148)
      exact aw_vret d_Tr_write_158 rfl ⟨rfl, rfl, by rw [hful]⟩
  · refine aw_iconst d_Tr_write_20 (in_c rfl) ?_
    have hwr : J x < ja := by omega
    refine aw_goto (tgt := 25) d_Tr_write_21 rfl ?_
    refine aw_istore (lst' := [_, _, _, _, _, _, _]) d_Tr_write_25 (Nat.le_of_ble_eq_true rfl) rfl ?_
    refine aw_iload d_Tr_write_27 rfl ?_
    refine aw_if_eq (tgt := 39) d_Tr_write_29 rfl (fun h29 => absurd h29 (by decide)) (fun h29 => ?_)
    refine aw_aload_n d_Tr_write_32 rfl rfl ?_
    have hc40 : c < 40 := by rw [wr, if_pos hwr] at hlen; simp only [List.length_cons, List.length_append] at hlen; omega
    refine aw_bipush (z := 40) d_Tr_write_33 (in_c rfl) rfl ?_
    refine aw_ve (as := [_]) rfl cv_Tr_74 (by have := ltD hD; omega) (shD1 hD) rfl d_Tr_write_35 (Nat.le_of_ble_eq_true rfl) (d' := d - 1) (by omega) (m_Li_put (k := D + 1) (n := c) (ch := 40) (by omega) (by have := ltD hD; omega) (shD1 hD) (shD2 hD) ((hR _ _).trans (rD9 hD)) hc (by omega) (by omega)) ?_
    refine aw_mm (μ' := apM (D + 1) μ [40]) (put_eq hc (by omega)) ?_
    refine aw_pop d_Tr_write_38 rfl ?_
    refine aw_iload d_Tr_write_39 rfl ?_
    refine aw_iconst d_Tr_write_41 (in_c rfl) ?_
    refine aw_pc (pc' := 42) rfl ?_
    refine aw_icmp_ne (tgt := 63) d_Tr_write_42 rfl (fun h42 => ?_) (fun h42 => ?_)
    · refine aw_iload d_Tr_write_63 rfl ?_
      have hj4 : ¬ J x = 4 := by omega
      refine aw_iconst d_Tr_write_65 (in_c rfl) ?_
      refine aw_icmp_ne (tgt := 100) d_Tr_write_66 rfl (fun h66 => ?_) (fun h66 => ?_)
      · refine aw_aload_n d_Tr_write_100 rfl rfl ?_
        have hj3 : ¬ J x = 3 := by omega
        have hful : wr J Lf Rf (g + 1) x ja = (((([40] ++ wr J Lf Rf g (Lf x).toNat (J x)) ++ [sgn (J x).toNat]) ++ wr J Lf Rf g (Rf x).toNat (J x)) ++ [41]) := by rw [wr, if_pos hwr, if_neg hj4, if_neg hj3]; simp
        have hle := hlen
        rw [hful] at hle
        simp only [List.length_append, List.length_cons, List.length_nil] at hle
        refine aw_aload_n d_Tr_write_101 rfl rfl ?_
        refine aw_getR fd_Tr_lefts lk_Tr_15 (by omega) rfl d_Tr_write_102 (((apM_fr (D + 1) [40] μ).2.2 _ _).trans (hR _ _)) ?_
        refine aw_iload_n d_Tr_write_105 rfl rfl ?_
        refine aw_iald (n := x) (by omega) rfl rfl (by omega) d_Tr_write_106 ?_
        refine aw_tv (v' := (((Lf x).toNat : Nat) : Int)) ((((apM_fr (D + 1) [40] μ).1 13 x (by omega) (by omega)).trans (congrFun e13 x)).trans (by omega)) ?_
        refine aw_iload d_Tr_write_107 rfl ?_
        refine aw_aload_n d_Tr_write_109 rfl rfl ?_
        refine aw_iload d_Tr_write_110 rfl ?_
        refine aw_iconst d_Tr_write_112 (in_c rfl) ?_
        refine aw_isub d_Tr_write_113 (by unfold inR; omega) ?_
        refine aw_tv (v' := (g : Int)) (by omega) ?_
        refine aw_ve (as := [_, _, _, _]) rfl cv_Tr_70 (by omega) rfl rfl d_Tr_write_114 (Nat.le_of_ble_eq_true rfl) (d' := d - 1) (by omega) (ihW (d - 1) (apM (D + 1) μ [40]) (Lf x).toNat (J x) (c + ([40]).length) (by omega) (fun a b => ((apM_fr (D + 1) [40] μ).2.2 a b).trans (hR a b)) ((funext fun b => (apM_fr (D + 1) [40] μ).1 12 b (by omega) (by omega)).trans e12) ((funext fun b => (apM_fr (D + 1) [40] μ).1 13 b (by omega) (by omega)).trans e13) ((funext fun b => (apM_fr (D + 1) [40] μ).1 14 b (by omega) (by omega)).trans e14) (by omega) (by omega) (apM_c (D + 1) [40] μ c hc) (by simp only [List.length_append, List.length_cons, List.length_nil]; omega)) ?_
        refine aw_mm (μ' := apM (D + 1) μ ([40] ++ wr J Lf Rf g (Lf x).toNat (J x))) (apM_app (D + 1) [40] _ μ).symm ?_
        refine aw_pc (pc' := 117) rfl ?_
        refine aw_aload_n d_Tr_write_117 rfl rfl ?_
        refine aw_ldcS (k := 4) (Or.inr ⟨rfl, rfl, rfl⟩) d_Tr_write_118 ?_
        refine aw_iload d_Tr_write_120 rfl ?_
        refine aw_tv (v' := (((J x).toNat : Nat) : Int)) (by omega) ?_
        refine aw_vo (as := [_]) (k := 4) rfl (Or.inr rfl) rfl cv_Tr_80 d_Tr_write_122 (Nat.le_of_ble_eq_true rfl) (d' := d - 1) (by omega) (m_jS_charAt (j := (J x).toNat) (by omega) (Or.inr rfl) (by omega)) ?_
        refine aw_tv (v' := sgn (J x).toNat) rfl ?_
        refine aw_ve (as := [_]) rfl cv_Tr_74 (by have := ltD hD; omega) (shD1 hD) rfl d_Tr_write_125 (Nat.le_of_ble_eq_true rfl) (d' := d - 1) (by omega) (m_Li_put (μ := (apM (D + 1) μ ([40] ++ wr J Lf Rf g (Lf x).toNat (J x)))) (k := D + 1) (n := c + (([40] ++ wr J Lf Rf g (Lf x).toNat (J x))).length) (ch := sgn (J x).toNat) (by omega) (by have := ltD hD; omega) (shD1 hD) (shD2 hD) (((apM_fr (D + 1) ([40] ++ wr J Lf Rf g (Lf x).toNat (J x)) μ).2.2 _ _).trans ((hR _ _).trans (rD9 hD))) (apM_c (D + 1) ([40] ++ wr J Lf Rf g (Lf x).toNat (J x)) μ c hc) (by simp only [List.length_append, List.length_cons, List.length_nil]; omega) (sgn_in _ (by omega))) ?_
        refine aw_mm (μ' := apM (D + 1) μ (([40] ++ wr J Lf Rf g (Lf x).toNat (J x)) ++ [sgn (J x).toNat])) ((put_eq (apM_c (D + 1) ([40] ++ wr J Lf Rf g (Lf x).toNat (J x)) μ c hc) (by simp only [List.length_append, List.length_cons, List.length_nil]; omega)).trans (apM_app (D + 1) ([40] ++ wr J Lf Rf g (Lf x).toNat (J x)) [sgn (J x).toNat] μ).symm) ?_
        refine aw_pop d_Tr_write_128 rfl ?_
        refine aw_aload_n d_Tr_write_129 rfl rfl ?_
        refine aw_aload_n d_Tr_write_130 rfl rfl ?_
        refine aw_getR fd_Tr_rights lk_Tr_18 (by omega) rfl d_Tr_write_131 (((apM_fr (D + 1) (([40] ++ wr J Lf Rf g (Lf x).toNat (J x)) ++ [sgn (J x).toNat]) μ).2.2 _ _).trans (hR _ _)) ?_
        refine aw_iload_n d_Tr_write_134 rfl rfl ?_
        refine aw_iald (n := x) (by omega) rfl rfl (by omega) d_Tr_write_135 ?_
        refine aw_tv (v' := (((Rf x).toNat : Nat) : Int)) ((((apM_fr (D + 1) (([40] ++ wr J Lf Rf g (Lf x).toNat (J x)) ++ [sgn (J x).toNat]) μ).1 14 x (by omega) (by omega)).trans (congrFun e14 x)).trans (by omega)) ?_
        refine aw_iload d_Tr_write_136 rfl ?_
        refine aw_pc (pc' := 138) rfl ?_
        refine aw_aload_n d_Tr_write_138 rfl rfl ?_
        refine aw_iload d_Tr_write_139 rfl ?_
        refine aw_iconst d_Tr_write_141 (in_c rfl) ?_
        refine aw_isub d_Tr_write_142 (by unfold inR; omega) ?_
        refine aw_tv (v' := (g : Int)) (by omega) ?_
        refine aw_ve (as := [_, _, _, _]) rfl cv_Tr_70 (by omega) rfl rfl d_Tr_write_143 (Nat.le_of_ble_eq_true rfl) (d' := d - 1) (by omega) (ihW (d - 1) (apM (D + 1) μ (([40] ++ wr J Lf Rf g (Lf x).toNat (J x)) ++ [sgn (J x).toNat])) (Rf x).toNat (J x) (c + ((([40] ++ wr J Lf Rf g (Lf x).toNat (J x)) ++ [sgn (J x).toNat])).length) (by omega) (fun a b => ((apM_fr (D + 1) (([40] ++ wr J Lf Rf g (Lf x).toNat (J x)) ++ [sgn (J x).toNat]) μ).2.2 a b).trans (hR a b)) ((funext fun b => (apM_fr (D + 1) (([40] ++ wr J Lf Rf g (Lf x).toNat (J x)) ++ [sgn (J x).toNat]) μ).1 12 b (by omega) (by omega)).trans e12) ((funext fun b => (apM_fr (D + 1) (([40] ++ wr J Lf Rf g (Lf x).toNat (J x)) ++ [sgn (J x).toNat]) μ).1 13 b (by omega) (by omega)).trans e13) ((funext fun b => (apM_fr (D + 1) (([40] ++ wr J Lf Rf g (Lf x).toNat (J x)) ++ [sgn (J x).toNat]) μ).1 14 b (by omega) (by omega)).trans e14) (by omega) (by omega) (apM_c (D + 1) (([40] ++ wr J Lf Rf g (Lf x).toNat (J x)) ++ [sgn (J x).toNat]) μ c hc) (by simp only [List.length_append, List.length_cons, List.length_nil]; omega)) ?_
        refine aw_mm (μ' := apM (D + 1) μ ((([40] ++ wr J Lf Rf g (Lf x).toNat (J x)) ++ [sgn (J x).toNat]) ++ wr J Lf Rf g (Rf x).toNat (J x))) (apM_app (D + 1) (([40] ++ wr J Lf Rf g (Lf x).toNat (J x)) ++ [sgn (J x).toNat]) _ μ).symm ?_
        refine aw_iload d_Tr_write_146 rfl ?_
        refine aw_if_eq (tgt := 158) d_Tr_write_148 rfl (fun h148 => absurd h148 (by decide)) (fun h148 => ?_)
        refine aw_aload_n d_Tr_write_151 rfl rfl ?_
        refine aw_bipush (z := 41) d_Tr_write_152 (in_c rfl) rfl ?_
        refine aw_ve (as := [_]) rfl cv_Tr_74 (by have := ltD hD; omega) (shD1 hD) rfl d_Tr_write_154 (Nat.le_of_ble_eq_true rfl) (d' := d - 1) (by omega) (m_Li_put (μ := (apM (D + 1) μ ((([40] ++ wr J Lf Rf g (Lf x).toNat (J x)) ++ [sgn (J x).toNat]) ++ wr J Lf Rf g (Rf x).toNat (J x)))) (k := D + 1) (n := c + (((([40] ++ wr J Lf Rf g (Lf x).toNat (J x)) ++ [sgn (J x).toNat]) ++ wr J Lf Rf g (Rf x).toNat (J x))).length) (ch := 41) (by omega) (by have := ltD hD; omega) (shD1 hD) (shD2 hD) (((apM_fr (D + 1) ((([40] ++ wr J Lf Rf g (Lf x).toNat (J x)) ++ [sgn (J x).toNat]) ++ wr J Lf Rf g (Rf x).toNat (J x)) μ).2.2 _ _).trans ((hR _ _).trans (rD9 hD))) (apM_c (D + 1) ((([40] ++ wr J Lf Rf g (Lf x).toNat (J x)) ++ [sgn (J x).toNat]) ++ wr J Lf Rf g (Rf x).toNat (J x)) μ c hc) (by simp only [List.length_append, List.length_cons, List.length_nil]; omega) (by omega)) ?_
        refine aw_mm (μ' := apM (D + 1) μ (((([40] ++ wr J Lf Rf g (Lf x).toNat (J x)) ++ [sgn (J x).toNat]) ++ wr J Lf Rf g (Rf x).toNat (J x)) ++ [41])) ((put_eq (apM_c (D + 1) ((([40] ++ wr J Lf Rf g (Lf x).toNat (J x)) ++ [sgn (J x).toNat]) ++ wr J Lf Rf g (Rf x).toNat (J x)) μ c hc) (by simp only [List.length_append, List.length_cons, List.length_nil]; omega)).trans (apM_app (D + 1) ((([40] ++ wr J Lf Rf g (Lf x).toNat (J x)) ++ [sgn (J x).toNat]) ++ wr J Lf Rf g (Rf x).toNat (J x)) [41] μ).symm) ?_
        refine aw_pop d_Tr_write_157 rfl ?_
        exact aw_vret d_Tr_write_158 rfl ⟨rfl, rfl, by rw [hful]⟩
      · refine aw_aload_n d_Tr_write_69 rfl rfl ?_
        have hj3 : J x = 3 := by omega
        have hful : wr J Lf Rf (g + 1) x ja = ((([40] ++ [33]) ++ wr J Lf Rf g (Lf x).toNat 3) ++ [41]) := by rw [wr, if_pos hwr, if_neg hj4, if_pos hj3]; simp
        have hle := hlen
        rw [hful] at hle
        simp only [List.length_append, List.length_cons, List.length_nil] at hle
        refine aw_ldcS (k := 4) (Or.inr ⟨rfl, rfl, rfl⟩) d_Tr_write_70 ?_
        refine aw_iconst d_Tr_write_72 (in_c rfl) ?_
        refine aw_tv (v' := ((3 : Nat) : Int)) rfl ?_
        refine aw_vo (as := [_]) (k := 4) rfl (Or.inr rfl) rfl cv_Tr_80 d_Tr_write_73 (Nat.le_of_ble_eq_true rfl) (d' := d - 1) (by omega) (m_jS_charAt (j := 3) (by omega) (Or.inr rfl) (by omega)) ?_
        refine aw_tv (v' := 33) rfl ?_
        refine aw_ve (as := [_]) rfl cv_Tr_74 (by have := ltD hD; omega) (shD1 hD) rfl d_Tr_write_76 (Nat.le_of_ble_eq_true rfl) (d' := d - 1) (by omega) (m_Li_put (μ := (apM (D + 1) μ [40])) (k := D + 1) (n := c + ([40]).length) (ch := 33) (by omega) (by have := ltD hD; omega) (shD1 hD) (shD2 hD) (((apM_fr (D + 1) [40] μ).2.2 _ _).trans ((hR _ _).trans (rD9 hD))) (apM_c (D + 1) [40] μ c hc) (by simp only [List.length_append, List.length_cons, List.length_nil]; omega) (by omega)) ?_
        refine aw_mm (μ' := apM (D + 1) μ ([40] ++ [33])) ((put_eq (apM_c (D + 1) [40] μ c hc) (by simp only [List.length_append, List.length_cons, List.length_nil]; omega)).trans (apM_app (D + 1) [40] [33] μ).symm) ?_
        refine aw_pop d_Tr_write_79 rfl ?_
        refine aw_aload_n d_Tr_write_80 rfl rfl ?_
        refine aw_aload_n d_Tr_write_81 rfl rfl ?_
        refine aw_getR fd_Tr_lefts lk_Tr_15 (by omega) rfl d_Tr_write_82 (((apM_fr (D + 1) ([40] ++ [33]) μ).2.2 _ _).trans (hR _ _)) ?_
        refine aw_iload_n d_Tr_write_85 rfl rfl ?_
        refine aw_iald (n := x) (by omega) rfl rfl (by omega) d_Tr_write_86 ?_
        refine aw_tv (v' := (((Lf x).toNat : Nat) : Int)) ((((apM_fr (D + 1) ([40] ++ [33]) μ).1 13 x (by omega) (by omega)).trans (congrFun e13 x)).trans (by omega)) ?_
        refine aw_pc (pc' := 87) rfl ?_
        refine aw_iload d_Tr_write_87 rfl ?_
        refine aw_tv (v' := 3) hj3 ?_
        refine aw_aload_n d_Tr_write_89 rfl rfl ?_
        refine aw_iload d_Tr_write_90 rfl ?_
        refine aw_iconst d_Tr_write_92 (in_c rfl) ?_
        refine aw_isub d_Tr_write_93 (by unfold inR; omega) ?_
        refine aw_tv (v' := (g : Int)) (by omega) ?_
        refine aw_ve (as := [_, _, _, _]) rfl cv_Tr_70 (by omega) rfl rfl d_Tr_write_94 (Nat.le_of_ble_eq_true rfl) (d' := d - 1) (by omega) (ihW (d - 1) (apM (D + 1) μ ([40] ++ [33])) (Lf x).toNat 3 (c + (([40] ++ [33])).length) (by omega) (fun a b => ((apM_fr (D + 1) ([40] ++ [33]) μ).2.2 a b).trans (hR a b)) ((funext fun b => (apM_fr (D + 1) ([40] ++ [33]) μ).1 12 b (by omega) (by omega)).trans e12) ((funext fun b => (apM_fr (D + 1) ([40] ++ [33]) μ).1 13 b (by omega) (by omega)).trans e13) ((funext fun b => (apM_fr (D + 1) ([40] ++ [33]) μ).1 14 b (by omega) (by omega)).trans e14) (by omega) (by omega) (apM_c (D + 1) ([40] ++ [33]) μ c hc) (by simp only [List.length_append, List.length_cons, List.length_nil]; omega)) ?_
        refine aw_mm (μ' := apM (D + 1) μ (([40] ++ [33]) ++ wr J Lf Rf g (Lf x).toNat 3)) (apM_app (D + 1) ([40] ++ [33]) _ μ).symm ?_
        refine aw_goto (tgt := 146) d_Tr_write_97 rfl ?_
        refine aw_iload d_Tr_write_146 rfl ?_
        refine aw_if_eq (tgt := 158) d_Tr_write_148 rfl (fun h148 => absurd h148 (by decide)) (fun h148 => ?_)
        refine aw_aload_n d_Tr_write_151 rfl rfl ?_
        refine aw_bipush (z := 41) d_Tr_write_152 (in_c rfl) rfl ?_
        refine aw_ve (as := [_]) rfl cv_Tr_74 (by have := ltD hD; omega) (shD1 hD) rfl d_Tr_write_154 (Nat.le_of_ble_eq_true rfl) (d' := d - 1) (by omega) (m_Li_put (μ := (apM (D + 1) μ (([40] ++ [33]) ++ wr J Lf Rf g (Lf x).toNat 3))) (k := D + 1) (n := c + ((([40] ++ [33]) ++ wr J Lf Rf g (Lf x).toNat 3)).length) (ch := 41) (by omega) (by have := ltD hD; omega) (shD1 hD) (shD2 hD) (((apM_fr (D + 1) (([40] ++ [33]) ++ wr J Lf Rf g (Lf x).toNat 3) μ).2.2 _ _).trans ((hR _ _).trans (rD9 hD))) (apM_c (D + 1) (([40] ++ [33]) ++ wr J Lf Rf g (Lf x).toNat 3) μ c hc) (by simp only [List.length_append, List.length_cons, List.length_nil]; omega) (by omega)) ?_
        refine aw_mm (μ' := apM (D + 1) μ ((([40] ++ [33]) ++ wr J Lf Rf g (Lf x).toNat 3) ++ [41])) ((put_eq (apM_c (D + 1) (([40] ++ [33]) ++ wr J Lf Rf g (Lf x).toNat 3) μ c hc) (by simp only [List.length_append, List.length_cons, List.length_nil]; omega)).trans (apM_app (D + 1) (([40] ++ [33]) ++ wr J Lf Rf g (Lf x).toNat 3) [41] μ).symm) ?_
        refine aw_pc (pc' := 157) rfl ?_
        refine aw_pop d_Tr_write_157 rfl ?_
        exact aw_vret d_Tr_write_158 rfl ⟨rfl, rfl, by rw [hful]⟩
    · refine aw_aload_n d_Tr_write_45 rfl rfl ?_
      have hj4 : J x = 4 := by omega
      have hful : wr J Lf Rf (g + 1) x ja = (([40] ++ [65 + Lf x]) ++ [41]) := by rw [wr, if_pos hwr, if_pos hj4]; simp
      have hle := hlen
      rw [hful] at hle
      simp only [List.length_append, List.length_cons, List.length_nil] at hle
      refine aw_bipush (z := 65) d_Tr_write_46 (in_c rfl) rfl ?_
      refine aw_aload_n d_Tr_write_48 rfl rfl ?_
      refine aw_getR fd_Tr_lefts lk_Tr_15 (by omega) rfl d_Tr_write_49 (((apM_fr (D + 1) [40] μ).2.2 _ _).trans (hR _ _)) ?_
      refine aw_iload_n d_Tr_write_52 rfl rfl ?_
      refine aw_iald (n := x) (by omega) rfl rfl (by omega) d_Tr_write_53 ?_
      refine aw_tv (v' := Lf x) (((apM_fr (D + 1) [40] μ).1 13 x (by omega) (by omega)).trans (congrFun e13 x)) ?_
      refine aw_iadd d_Tr_write_54 (by unfold inR; omega) ?_
      refine aw_i2c d_Tr_write_55 ?_
      refine aw_tv (v' := 65 + Lf x) (by omega) ?_
      refine aw_ve (as := [_]) rfl cv_Tr_74 (by have := ltD hD; omega) (shD1 hD) rfl d_Tr_write_56 (Nat.le_of_ble_eq_true rfl) (d' := d - 1) (by omega) (m_Li_put (μ := (apM (D + 1) μ [40])) (k := D + 1) (n := c + ([40]).length) (ch := 65 + Lf x) (by omega) (by have := ltD hD; omega) (shD1 hD) (shD2 hD) (((apM_fr (D + 1) [40] μ).2.2 _ _).trans ((hR _ _).trans (rD9 hD))) (apM_c (D + 1) [40] μ c hc) (by simp only [List.length_append, List.length_cons, List.length_nil]; omega) (by omega)) ?_
      refine aw_mm (μ' := apM (D + 1) μ ([40] ++ [65 + Lf x])) ((put_eq (apM_c (D + 1) [40] μ c hc) (by simp only [List.length_append, List.length_cons, List.length_nil]; omega)).trans (apM_app (D + 1) [40] [65 + Lf x] μ).symm) ?_
      refine aw_pop d_Tr_write_59 rfl ?_
      refine aw_goto (tgt := 146) d_Tr_write_60 rfl ?_
      refine aw_pc (pc' := 146) rfl ?_
      refine aw_iload d_Tr_write_146 rfl ?_
      refine aw_if_eq (tgt := 158) d_Tr_write_148 rfl (fun h148 => absurd h148 (by decide)) (fun h148 => ?_)
      refine aw_aload_n d_Tr_write_151 rfl rfl ?_
      refine aw_bipush (z := 41) d_Tr_write_152 (in_c rfl) rfl ?_
      refine aw_ve (as := [_]) rfl cv_Tr_74 (by have := ltD hD; omega) (shD1 hD) rfl d_Tr_write_154 (Nat.le_of_ble_eq_true rfl) (d' := d - 1) (by omega) (m_Li_put (μ := (apM (D + 1) μ ([40] ++ [65 + Lf x]))) (k := D + 1) (n := c + (([40] ++ [65 + Lf x])).length) (ch := 41) (by omega) (by have := ltD hD; omega) (shD1 hD) (shD2 hD) (((apM_fr (D + 1) ([40] ++ [65 + Lf x]) μ).2.2 _ _).trans ((hR _ _).trans (rD9 hD))) (apM_c (D + 1) ([40] ++ [65 + Lf x]) μ c hc) (by simp only [List.length_append, List.length_cons, List.length_nil]; omega) (by omega)) ?_
      refine aw_mm (μ' := apM (D + 1) μ (([40] ++ [65 + Lf x]) ++ [41])) ((put_eq (apM_c (D + 1) ([40] ++ [65 + Lf x]) μ c hc) (by simp only [List.length_append, List.length_cons, List.length_nil]; omega)).trans (apM_app (D + 1) ([40] ++ [65 + Lf x]) [41] μ).symm) ?_
      refine aw_pop d_Tr_write_157 rfl ?_
      exact aw_vret d_Tr_write_158 rfl ⟨rfl, rfl, by rw [hful]⟩
set_option maxRecDepth 100000 in
theorem m_Tr_write_0 {d : Nat} (hd : 0 ≤ d) {D : Nat} (hD : isD D) {x : Nat} (hx : x < 40) {ja : Int} (hja : 0 ≤ ja ∧ ja ≤ 4) : AM G false d 0 0 y_Tr_write [aP 11, aI (x : Int), aI ja, aP (D + 1), aI 0] 94 μ (Qe none 94 μ) := by
  refine am_of (n := 2) pf_Tr_write (Nat.le_of_ble_eq_true rfl) (by intro v hv; simp only [List.mem_cons, List.not_mem_nil, or_false] at hv; rcases hv with rfl | rfl | rfl | rfl | rfl <;> first | trivial | assumption | exact in_c rfl | exact bI_in _ | (show inR _; unfold inR; omega)) rfl ?_
  refine aw_iload d_Tr_write_0 rfl ?_
  refine aw_if_ne (tgt := 6) d_Tr_write_2 rfl (fun h2 => absurd h2 (fun z => z rfl)) (fun h2 => ?_)
  exact aw_vret d_Tr_write_5 rfl ⟨rfl, rfl, rfl⟩
theorem m_Tr_write {D : Nat} (hD : isD D) {J Lf Rf : Nat → Int} {n : Nat} (hn40 : n ≤ 40) (ok : okT' J Lf Rf n) : ∀ g : Nat, g ≤ 41 → (∀ (dd : Nat) (m : aM) (x : Nat) (ja : Int) (c : Nat), g + 5 ≤ dd → (∀ a b, mR m a b = R0 pg a b) → mI m 12 = J → mI m 13 = Lf → mI m 14 = Rf → x < n → (0 ≤ ja ∧ ja ≤ 4) → mI m (D + 1) 1 = (c : Int) → c + (wr J Lf Rf g x ja).length ≤ 40 → AM G false dd 0 0 y_Tr_write [aP 11, aI (x : Int), aI ja, aP (D + 1), aI (g : Int)] 94 m (Qe none 94 (apM (D + 1) m (wr J Lf Rf g x ja))))
  | 0, _ => fun dd m x ja c hdd hR e12 e13 e14 hx hja hc hl => m_Tr_write_0 (by omega) hD (by omega) hja
  | g + 1, hg => fun dd m x ja c hdd hR e12 e13 e14 hx hja hc hl => m_Tr_write_s (by omega) hD hR hn40 ok rfl (by omega) e12 e13 e14 hx hja hc hl (m_Tr_write hD hn40 ok g (by omega)) (by omega)
end
