/-! the class takes a decision: parts -/
section
theorem hb_8 : ∀ t, t < 256 → ∀ j, j < 8 → decide (¬ ush ((t : Nat) : Int) j % 2 = 0) = t.testBit j := by decide +kernel
theorem hb_n {t j : Nat} (ht : t < 256) (hj : j < 8) : ¬ ush (t : Int) j % 2 = 0 ↔ t.testBit j = true := by rw [← hb_8 t ht j hj, decide_eq_true_iff]
def wrM (J L R : Nat → Int) (D n : Nat) (m : aM) : aM := apM (D + 1) (wI m (D + 1) 1 0) (wr J L R 40 (n - 1) 0)
/-- the letters taken -/
def tkM (D s : Nat) (m : aM) : Nat → aM
  | 0 => m
  | l + 1 => if s.testBit l = true then wI (wI (tkM D s m l) (D + 3) (cn s.testBit l) (l : Int)) D 7 ((cn s.testBit l : Int) + 1) else tkM D s m l
theorem tkM_c {D s : Nat} {m : aM} (h0 : mI m D 7 = 0) : ∀ l, mI (tkM D s m l) D 7 = (cn s.testBit l : Int)
  | 0 => h0
  | l + 1 => by
    rw [tkM, cn]
    split
    · rw [mI_wI, if_pos ⟨rfl, rfl⟩]; omega
    · rw [tkM_c h0 l]; omega
theorem tkM_fr (D s : Nat) (m : aM) : ∀ l, (∀ a b, a ≠ D + 3 → ¬ (a = D ∧ b = 7) → mI (tkM D s m l) a b = mI m a b) ∧ (∀ a b, mL (tkM D s m l) a b = mL m a b) ∧ (∀ a b, mR (tkM D s m l) a b = mR m a b)
  | 0 => ⟨fun _ _ _ _ => rfl, fun _ _ => rfl, fun _ _ => rfl⟩
  | l + 1 => by
    obtain ⟨h1, h2, h3⟩ := tkM_fr D s m l
    rw [tkM]
    split
    · exact ⟨fun a b g1 g2 => by rw [mI_wI, if_neg g2, mI_wI, if_neg (fun z => g1 z.1)]; exact h1 a b g1 g2, h2, h3⟩
    · exact ⟨h1, h2, h3⟩
theorem tkM_at {D s : Nat} {m : aM} : ∀ l u, u < l → s.testBit u = true → mI (tkM D s m l) (D + 3) (cn s.testBit u) = (u : Int)
  | 0, u, h, _ => absurd h (by omega)
  | l + 1, u, h, hu => by
    rw [tkM]
    by_cases e : u = l
    · subst e; rw [if_pos hu, mI_wI, if_neg (by omega), mI_wI, if_pos ⟨rfl, rfl⟩]
    · have hlt : cn s.testBit u < cn s.testBit l := cn_lt (by omega) hu
      split
      · rw [mI_wI, if_neg (by omega), mI_wI, if_neg (by omega)]; exact tkM_at l u (by omega) hu
      · exact tkM_at l u (by omega) hu
/-- what turns the outcome, and the strangers -/
def dsM (F S : Nat → Int) (T : BitVec 64) (D k : Nat) (m : aM) : Nat → aM
  | 0 => m
  | i + 1 => wI (wL (dsM F S T D k m i) (D + 6) i (T ^^^ trn T i)) (D + 4) i ((wb (fun j => decide (inp (F j) (S j) &&& inp (F i) (S i) = 0)) k : Nat) : Int)
theorem dsM_fr (F S : Nat → Int) (T : BitVec 64) (D k : Nat) (m : aM) : ∀ i, (∀ a b, a ≠ D + 4 → mI (dsM F S T D k m i) a b = mI m a b) ∧ (∀ a b, a ≠ D + 6 → mL (dsM F S T D k m i) a b = mL m a b) ∧ (∀ a b, mR (dsM F S T D k m i) a b = mR m a b)
  | 0 => ⟨fun _ _ _ => rfl, fun _ _ _ => rfl, fun _ _ => rfl⟩
  | i + 1 => by
    obtain ⟨h1, h2, h3⟩ := dsM_fr F S T D k m i
    exact ⟨fun a b g => by rw [dsM, mI_wI, if_neg (fun z => g z.1)]; exact h1 a b g, fun a b g => by show mL (wL _ (D + 6) i _) a b = _; rw [mL_wL, if_neg (fun z => g z.1)]; exact h2 a b g, h3⟩
variable {G : aG} {pg : Nat} {μ : aM}
set_option maxRecDepth 100000 in
theorem m_Tr_writeOn {d : Nat} (hd : 46 ≤ d) {D : Nat} (hD : isD D) (hR : ∀ k j, mR μ k j = R0 pg k j) {J Lf Rf : Nat → Int} {n : Nat} (hn0 : 0 < n) (hn40 : n ≤ 40) (ok : okT' J Lf Rf n) (e12 : mI μ 12 = J) (e13 : mI μ 13 = Lf) (e14 : mI μ 14 = Rf) (hn : mI μ 11 5 = (n : Int)) (hlen : (wr J Lf Rf 40 (n - 1) 0).length ≤ 40) : AM G false d 0 0 y_Tr_writeOn [aP 11, aP (D + 1)] 94 μ (Qe none 94 (wrM J Lf Rf D n μ)) := by
  refine am_of (n := 0) pf_Tr_writeOn (Nat.le_of_ble_eq_true rfl) (by intro v hv; simp only [List.mem_cons, List.not_mem_nil, or_false] at hv; rcases hv with rfl | rfl <;> first | trivial | assumption | exact in_c rfl | exact bI_in _ | (show inR _; unfold inR; omega)) rfl ?_
  have h26 := isD_26 hD
  refine aw_aload_n d_Tr_writeOn_0 rfl rfl ?_
  refine aw_ve (as := []) rfl cv_Tr_64 (by have := ltD hD; omega) (shD1 hD) rfl d_Tr_writeOn_1 (Nat.le_of_ble_eq_true rfl) (d' := d - 1) (by omega) (m_Li_clear (k := D + 1) (by omega) (by have := ltD hD; omega) (shD1 hD) (shD2 hD) ((hR _ _).trans (rD9 hD))) ?_
  refine aw_pop d_Tr_writeOn_4 rfl ?_
  refine aw_aload_n d_Tr_writeOn_5 rfl rfl ?_
  refine aw_getI fd_Tr_count lk_Tr_28 (by omega) rfl d_Tr_writeOn_6 ?_
  refine aw_tv (v' := (n : Int)) (by rw [mI_wI, if_neg (by omega)]; exact hn) ?_
  refine aw_if_le (tgt := 26) d_Tr_writeOn_9 rfl (fun h9 => absurd h9 (by omega)) (fun h9 => ?_)
  refine aw_aload_n d_Tr_writeOn_12 rfl rfl ?_
  refine aw_aload_n d_Tr_writeOn_13 rfl rfl ?_
  refine aw_getI fd_Tr_count lk_Tr_28 (by omega) rfl d_Tr_writeOn_14 ?_
  refine aw_tv (v' := (n : Int)) (by rw [mI_wI, if_neg (by omega)]; exact hn) ?_
  refine aw_iconst d_Tr_writeOn_17 (in_c rfl) ?_
  refine aw_isub d_Tr_writeOn_18 (by unfold inR; omega) ?_
  refine aw_tv (v' := ((n - 1 : Nat) : Int)) (by omega) ?_
  refine aw_pc (pc' := 19) rfl ?_
  refine aw_iconst d_Tr_writeOn_19 (in_c rfl) ?_
  refine aw_aload_n d_Tr_writeOn_20 rfl rfl ?_
  refine aw_bipush (z := 40) d_Tr_writeOn_21 (in_c rfl) rfl ?_
  refine aw_tv (v' := ((40 : Nat) : Int)) rfl ?_
  refine aw_ve (as := [_, _, _, _]) rfl cv_Tr_70 (by omega) rfl rfl d_Tr_writeOn_23 (Nat.le_of_ble_eq_true rfl) (d' := d - 1) (by omega) (m_Tr_write hD hn40 ok 40 (by omega) (d - 1) (wI μ (D + 1) 1 0) (n - 1) 0 0 (by omega) (fun a b => hR a b) ((funext fun b => by rw [mI_wI, if_neg (by omega)]).trans e12) ((funext fun b => by rw [mI_wI, if_neg (by omega)]).trans e13) ((funext fun b => by rw [mI_wI, if_neg (by omega)]).trans e14) (by omega) (by omega) (by rw [mI_wI, if_pos ⟨rfl, rfl⟩]; rfl) (by omega)) ?_
  exact aw_vret d_Tr_writeOn_26 rfl ⟨rfl, rfl, rfl⟩
set_option maxRecDepth 100000 in
theorem m_De_takeLetters {d : Nat} (hd : 1 ≤ d) {D : Nat} (hD : isD D) (hR : ∀ k j, mR μ k j = R0 pg k j) {s : Nat} (hs8 : s < 256) (h60 : cn s.testBit 8 ≤ 6) (h0 : mI μ D 7 = 0) : AM G false d 0 0 y_De_takeLetters [aP D, aI (s : Int)] 94 μ (Qe none 94 (tkM D s μ 8)) := by
  refine am_of (n := 1) pf_De_takeLetters (Nat.le_of_ble_eq_true rfl) (by intro v hv; simp only [List.mem_cons, List.not_mem_nil, or_false] at hv; rcases hv with rfl | rfl <;> first | trivial | assumption | exact in_c rfl | exact bI_in _ | (show inR _; unfold inR; omega)) rfl ?_
  have key : ∀ (m : Nat) (l : Nat), 8 - l = m → l ≤ 8 → AW G false y_De_takeLetters d 0 0 (Qe none 94 (tkM D s μ 8)) 2 [some (aP D), some (aI (s : Int)), some (aI (l : Int))] [] 94 (tkM D s μ l) := by
    intro m
    induction m using Nat.strongRecOn with | _ m ih =>
    intro l hm hl
    have hcl := tkM_c (s := s) h0 l
    have hRl : ∀ a b, mR (tkM D s μ l) a b = R0 pg a b := fun a b => ((tkM_fr D s μ l).2.2 a b).trans (hR a b)
    refine aw_iload_n d_De_takeLetters_2 rfl rfl ?_
    refine aw_bipush (z := 8) d_De_takeLetters_3 (in_c rfl) rfl ?_
    refine aw_icmp_ge (tgt := 51) d_De_takeLetters_5 rfl (fun h5 => ?_) (fun h5 => ?_)
    · exact aw_vret d_De_takeLetters_51 rfl ⟨rfl, rfl, by rw [show l = 8 by omega]⟩
    · refine aw_iload_n d_De_takeLetters_8 rfl rfl ?_
      refine aw_iload_n d_De_takeLetters_9 rfl rfl ?_
      refine aw_se (as := [_, _]) rfl cs_De_79 d_De_takeLetters_10 (Nat.le_of_ble_eq_true rfl) (d' := d - 1) (by omega) (m_MC_hasBit (by omega) (by unfold inR; omega) (by omega)) ?_
      refine aw_if_eq (tgt := 45) d_De_takeLetters_13 rfl (fun h13 => ?_) (fun h13 => ?_)
      · replace h13 := iti_z h13
        refine aw_mm (μ' := (tkM D s μ (l + 1))) (by rw [tkM, if_neg (fun z => (hb_n hs8 (by omega)).mpr z h13)]) ?_
        refine aw_iinc (lst' := [_, _, some (aI ((l + 1 : Nat) : Int))]) d_De_takeLetters_45 (Nat.le_of_ble_eq_true rfl) rfl (by unfold inR; omega) rfl ?_
        refine aw_goto (tgt := 2) d_De_takeLetters_48 rfl ?_
        exact ih (8 - (l + 1)) (by omega) (l + 1) rfl (by omega)
      · replace h13 := iti_n h13
        refine aw_aload_n d_De_takeLetters_16 rfl rfl ?_
        have hbt : s.testBit l = true := (hb_n hs8 (by omega)).mp h13
        have hc6 : cn s.testBit l < 6 := Nat.lt_of_lt_of_le (cn_lt (show l < 8 by omega) hbt) h60
        refine aw_getI fd_De_count lk_De_35 (Nat.lt_of_le_of_lt (Nat.le_add_right _ 7) (ltD hD)) (shD0 hD) d_De_takeLetters_17 ?_
        refine aw_tv (v' := (cn s.testBit l : Int)) hcl ?_
        refine aw_bipush (z := 6) d_De_takeLetters_20 (in_c rfl) rfl ?_
        refine aw_icmp_ge (tgt := 45) d_De_takeLetters_22 rfl (fun h22 => absurd h22 (by omega)) (fun h22 => ?_)
        refine aw_aload_n d_De_takeLetters_25 rfl rfl ?_
        refine aw_getR fd_De_letters lk_De_18 (Nat.lt_of_le_of_lt (Nat.le_add_right _ 7) (ltD hD)) (shD0 hD) d_De_takeLetters_26 ((hRl _ _).trans (rD2 hD)) ?_
        refine aw_aload_n d_De_takeLetters_29 rfl rfl ?_
        refine aw_getI fd_De_count lk_De_35 (Nat.lt_of_le_of_lt (Nat.le_add_right _ 7) (ltD hD)) (shD0 hD) d_De_takeLetters_30 ?_
        refine aw_tv (v' := (cn s.testBit l : Int)) hcl ?_
        refine aw_iload_n d_De_takeLetters_33 rfl rfl ?_
        refine aw_iast (n := cn s.testBit l) (by have := ltD hD; omega) (shD3 hD) rfl (by omega) d_De_takeLetters_34 ?_
        refine aw_aload_n d_De_takeLetters_35 rfl rfl ?_
        refine aw_pc (pc' := 36) rfl ?_
        refine aw_dup d_De_takeLetters_36 rfl ?_
        refine aw_getI fd_De_count lk_De_35 (Nat.lt_of_le_of_lt (Nat.le_add_right _ 7) (ltD hD)) (shD0 hD) d_De_takeLetters_37 ?_
        refine aw_tv (v' := (cn s.testBit l : Int)) (by rw [mI_wI, if_neg (by omega)]; exact hcl) ?_
        refine aw_iconst d_De_takeLetters_40 (in_c rfl) ?_
        refine aw_iadd d_De_takeLetters_41 (by unfold inR; omega) ?_
        refine aw_putI fd_De_count lk_De_35 (Nat.lt_of_le_of_lt (Nat.le_add_right _ 7) (ltD hD)) (shD0 hD) d_De_takeLetters_42 (Or.inl rfl) ?_
        refine aw_mm (μ' := (tkM D s μ (l + 1))) (by rw [tkM, if_pos hbt]) ?_
        refine aw_iinc (lst' := [_, _, some (aI ((l + 1 : Nat) : Int))]) d_De_takeLetters_45 (Nat.le_of_ble_eq_true rfl) rfl (by unfold inR; omega) rfl ?_
        refine aw_goto (tgt := 2) d_De_takeLetters_48 rfl ?_
        exact ih (8 - (l + 1)) (by omega) (l + 1) rfl (by omega)
  refine aw_iconst d_De_takeLetters_0 (in_c rfl) ?_
  refine aw_istore_n (lst' := [_, _, _]) d_De_takeLetters_1 rfl (Nat.le_of_ble_eq_true rfl) rfl ?_
  refine aw_mm (μ' := (tkM D s μ 0)) rfl ?_
  exact key (8 - 0) 0 rfl (Nat.zero_le _)
set_option maxRecDepth 100000 in
theorem m_De_turned {d : Nat} (hd : 0 ≤ d) {b : BitVec 64} {c : Nat} (hc : c < 6) : AM G false d 0 0 y_De_turned [aL b, aI (c : Int)] 94 μ (Qe (some (aL (trn b c))) 94 μ) := by
  refine am_of (n := 3) pf_De_turned (Nat.le_of_ble_eq_true rfl) (by intro v hv; simp only [List.mem_cons, List.not_mem_nil, or_false] at hv; rcases hv with rfl | rfl <;> first | trivial | assumption | exact in_c rfl | exact bI_in _ | (show inR _; unfold inR; omega)) rfl ?_
  refine aw_tw tw_De_83 d_De_turned_0 ?_
  refine aw_iload_n d_De_turned_3 rfl rfl ?_
  refine aw_twld (n := c) rfl hc d_De_turned_4 ?_
  refine aw_tl (v' := tW c) rfl ?_
  refine aw_lstore_n (lst' := [_, _, _, _, _, _]) d_De_turned_5 rfl (Nat.le_of_ble_eq_true rfl) rfl ?_
  refine aw_iconst d_De_turned_6 (in_c rfl) ?_
  refine aw_iload_n d_De_turned_7 rfl rfl ?_
  have hp5 := Nat.pow_le_pow_right (n := 2) (by omega) (show c ≤ 5 by omega)
  refine aw_ishl (a := 1) (k0 := c) rfl rfl (by omega) (by omega) d_De_turned_8 ?_
  refine aw_tv (v' := ((2 ^ c : Nat) : Int)) (by rw [Nat.one_mul]) ?_
  refine aw_istore (lst' := [_, _, _, _, _, _]) d_De_turned_9 (Nat.le_of_ble_eq_true rfl) rfl ?_
  refine aw_lload_n d_De_turned_11 rfl rfl ?_
  refine aw_lload_n d_De_turned_12 rfl rfl ?_
  refine aw_land d_De_turned_13 ?_
  refine aw_pc (pc' := 14) rfl ?_
  refine aw_iload d_De_turned_14 rfl ?_
  refine aw_lushr (k0 := 2 ^ c) rfl (by omega) d_De_turned_16 ?_
  refine aw_lload_n d_De_turned_17 rfl rfl ?_
  refine aw_lload_n d_De_turned_18 rfl rfl ?_
  refine aw_ldc2 (b := MO) kc_De_86 rfl d_De_turned_19 ?_
  refine aw_lxor d_De_turned_22 ?_
  refine aw_land d_De_turned_23 ?_
  refine aw_iload d_De_turned_24 rfl ?_
  refine aw_lshl (k0 := 2 ^ c) rfl (by omega) d_De_turned_26 ?_
  refine aw_lor d_De_turned_27 ?_
  exact aw_lret d_De_turned_28 rfl ⟨rfl, rfl, rfl⟩
set_option maxRecDepth 100000 in
theorem m_Co_inputsOf {d : Nat} (hd : 0 ≤ d) (hR : ∀ k j, mR μ k j = R0 pg k j) {l : Nat} (hl : l < 8) {f s : Int} (hf : mI μ 6 l = f) (hs : mI μ 7 l = s) (hI : okI f s) : AM G false d 0 0 y_Co_inputsOf [aP 4, aI (l : Int)] 94 μ (Qe (some (aI ((inp f s : Nat) : Int))) 94 μ) := by
  refine am_of (n := 1) pf_Co_inputsOf (Nat.le_of_ble_eq_true rfl) (by intro v hv; simp only [List.mem_cons, List.not_mem_nil, or_false] at hv; rcases hv with rfl | rfl <;> first | trivial | assumption | exact in_c rfl | exact bI_in _ | (show inR _; unfold inR; omega)) rfl ?_
  have hI1 := hI.1.1
  have hI2 := hI.1.2
  have hI3 := hI.2.1.1
  have hI4 := hI.2.1.2
  refine aw_aload_n d_Co_inputsOf_0 rfl rfl ?_
  refine aw_getR fd_Co_seconds lk_Co_18 (by omega) rfl d_Co_inputsOf_1 (hR _ _) ?_
  refine aw_iload_n d_Co_inputsOf_4 rfl rfl ?_
  refine aw_iald (n := l) (by omega) rfl rfl (by omega) d_Co_inputsOf_5 ?_
  refine aw_tv (v' := s) hs ?_
  refine aw_iconst d_Co_inputsOf_6 (in_c rfl) ?_
  refine aw_icmp_ne (tgt := 14) d_Co_inputsOf_7 rfl (fun h7 => ?_) (fun h7 => ?_)
  · refine aw_iconst d_Co_inputsOf_14 (in_c rfl) ?_
    refine aw_aload_n d_Co_inputsOf_15 rfl rfl ?_
    refine aw_getR fd_Co_seconds lk_Co_18 (by omega) rfl d_Co_inputsOf_16 (hR _ _) ?_
    refine aw_iload_n d_Co_inputsOf_19 rfl rfl ?_
    refine aw_iald (n := l) (by omega) rfl rfl (by omega) d_Co_inputsOf_20 ?_
    refine aw_tv (v' := s) hs ?_
    refine aw_ishl (a := 1) (k0 := s.toNat) rfl (by omega) (by omega) (by have := Nat.pow_le_pow_right (n := 2) (by omega) (show s.toNat ≤ 2 by omega); omega) d_Co_inputsOf_21 ?_
    refine aw_tv (v' := ((2 ^ s.toNat : Nat) : Int)) (by rw [Nat.one_mul]) ?_
    refine aw_tv (v' := (((if s = -1 then 0 else 2 ^ s.toNat) : Nat) : Int)) (by rw [if_neg h7]) ?_
    refine aw_istore_n (lst' := [_, _, _]) d_Co_inputsOf_22 rfl (Nat.le_of_ble_eq_true rfl) rfl ?_
    refine aw_iconst d_Co_inputsOf_23 (in_c rfl) ?_
    refine aw_aload_n d_Co_inputsOf_24 rfl rfl ?_
    refine aw_getR fd_Co_firsts lk_Co_15 (by omega) rfl d_Co_inputsOf_25 (hR _ _) ?_
    refine aw_iload_n d_Co_inputsOf_28 rfl rfl ?_
    refine aw_pc (pc' := 29) rfl ?_
    refine aw_iald (n := l) (by omega) rfl rfl (by omega) d_Co_inputsOf_29 ?_
    refine aw_tv (v' := f) hf ?_
    refine aw_ishl (a := 1) (k0 := f.toNat) rfl (by omega) (by omega) (by have := Nat.pow_le_pow_right (n := 2) (by omega) (show f.toNat ≤ 2 by omega); omega) d_Co_inputsOf_30 ?_
    refine aw_tv (v' := ((2 ^ f.toNat : Nat) : Int)) (by rw [Nat.one_mul]) ?_
    refine aw_iload_n d_Co_inputsOf_31 rfl rfl ?_
    refine aw_ior (a := 2 ^ f.toNat) (b := (if s = -1 then 0 else 2 ^ s.toNat)) rfl rfl d_Co_inputsOf_32 ?_
    exact aw_iret d_Co_inputsOf_33 rfl ⟨rfl, rfl, rfl⟩
  · refine aw_iconst d_Co_inputsOf_10 (in_c rfl) ?_
    refine aw_tv (v' := (((if s = -1 then 0 else 2 ^ s.toNat) : Nat) : Int)) (by rw [if_pos h7]; rfl) ?_
    refine aw_goto (tgt := 22) d_Co_inputsOf_11 rfl ?_
    refine aw_istore_n (lst' := [_, _, _]) d_Co_inputsOf_22 rfl (Nat.le_of_ble_eq_true rfl) rfl ?_
    refine aw_iconst d_Co_inputsOf_23 (in_c rfl) ?_
    refine aw_aload_n d_Co_inputsOf_24 rfl rfl ?_
    refine aw_getR fd_Co_firsts lk_Co_15 (by omega) rfl d_Co_inputsOf_25 (hR _ _) ?_
    refine aw_iload_n d_Co_inputsOf_28 rfl rfl ?_
    refine aw_iald (n := l) (by omega) rfl rfl (by omega) d_Co_inputsOf_29 ?_
    refine aw_tv (v' := f) hf ?_
    refine aw_ishl (a := 1) (k0 := f.toNat) rfl (by omega) (by omega) (by have := Nat.pow_le_pow_right (n := 2) (by omega) (show f.toNat ≤ 2 by omega); omega) d_Co_inputsOf_30 ?_
    refine aw_tv (v' := ((2 ^ f.toNat : Nat) : Int)) (by rw [Nat.one_mul]) ?_
    refine aw_iload_n d_Co_inputsOf_31 rfl rfl ?_
    refine aw_ior (a := 2 ^ f.toNat) (b := (if s = -1 then 0 else 2 ^ s.toNat)) rfl rfl d_Co_inputsOf_32 ?_
    refine aw_pc (pc' := 33) rfl ?_
    exact aw_iret d_Co_inputsOf_33 rfl ⟨rfl, rfl, rfl⟩
set_option maxRecDepth 100000 in
theorem m_De_strangersOf {d : Nat} (hd : 1 ≤ d) {D : Nat} (hD : isD D) (hR : ∀ k j, mR μ k j = R0 pg k j) {k : Nat} (hk : mI μ D 7 = (k : Int)) (h6k : k ≤ 6) (hlt : ∀ j, j < k → 0 ≤ mI μ (D + 3) j ∧ mI μ (D + 3) j < 8) {F S : Nat → Int} (hFj : ∀ j, j < k → mI μ 6 (mI μ (D + 3) j).toNat = F j) (hSj : ∀ j, j < k → mI μ 7 (mI μ (D + 3) j).toNat = S j) (hoi : ∀ j, j < k → okI (F j) (S j)) {c : Nat} (hc : c < k) : AM G false d 0 0 y_De_strangersOf [aP D, aI (c : Int)] 94 μ (Qe (some (aI ((wb (fun j => decide (inp (F j) (S j) &&& inp (F c) (S c) = 0)) k : Nat) : Int))) 94 μ) := by
  refine am_of (n := 3) pf_De_strangersOf (Nat.le_of_ble_eq_true rfl) (by intro v hv; simp only [List.mem_cons, List.not_mem_nil, or_false] at hv; rcases hv with rfl | rfl <;> first | trivial | assumption | exact in_c rfl | exact bI_in _ | (show inR _; unfold inR; omega)) rfl ?_
  have key : ∀ (m : Nat) (i : Nat), k - i = m → i ≤ k → AW G false y_De_strangersOf d 0 0 (Qe (some (aI ((wb (fun j => decide (inp (F j) (S j) &&& inp (F c) (S c) = 0)) k : Nat) : Int))) 94 μ) 19 [some (aP D), some (aI (c : Int)), some (aI ((inp (F c) (S c) : Nat) : Int)), some (aI ((wb (fun j => decide (inp (F j) (S j) &&& inp (F c) (S c) = 0)) i : Nat) : Int)), some (aI (i : Int))] [] 94 μ := by
    intro m
    induction m using Nat.strongRecOn with | _ m ih =>
    intro i hm hi
    refine aw_iload d_De_strangersOf_19 rfl ?_
    refine aw_aload_n d_De_strangersOf_21 rfl rfl ?_
    refine aw_getI fd_De_count lk_De_35 (Nat.lt_of_le_of_lt (Nat.le_add_right _ 7) (ltD hD)) (shD0 hD) d_De_strangersOf_22 ?_
    refine aw_tv (v' := (k : Int)) hk ?_
    refine aw_icmp_ge (tgt := 60) d_De_strangersOf_25 rfl (fun h25 => ?_) (fun h25 => ?_)
    · refine aw_iload_n d_De_strangersOf_60 rfl rfl ?_
      exact aw_iret d_De_strangersOf_61 rfl ⟨by rw [show i = k by omega], rfl, rfl⟩
    · refine aw_aload_n d_De_strangersOf_28 rfl rfl ?_
      refine aw_getR fd_De_conditions lk_De_46 (Nat.lt_of_le_of_lt (Nat.le_add_right _ 7) (ltD hD)) (shD0 hD) d_De_strangersOf_29 ((hR _ _).trans (rD0 hD)) ?_
      refine aw_aload_n d_De_strangersOf_32 rfl rfl ?_
      refine aw_getR fd_De_letters lk_De_18 (Nat.lt_of_le_of_lt (Nat.le_add_right _ 7) (ltD hD)) (shD0 hD) d_De_strangersOf_33 ((hR _ _).trans (rD2 hD)) ?_
      refine aw_iload d_De_strangersOf_36 rfl ?_
      refine aw_iald (n := i) (by have := ltD hD; omega) (shD3 hD) rfl (by omega) d_De_strangersOf_38 ?_
      have hli := hlt i (by omega)
      refine aw_tv (v' := (((mI μ (D + 3) i).toNat : Nat) : Int)) (by omega) ?_
      refine aw_ve (as := [_]) rfl cv_De_88 (by omega) rfl rfl d_De_strangersOf_39 (Nat.le_of_ble_eq_true rfl) (d' := d - 1) (by omega) (m_Co_inputsOf (l := (mI μ (D + 3) i).toNat) (f := F i) (s := S i) (by omega) hR (by have := hlt i (by omega); omega) (hFj i (by omega)) (hSj i (by omega)) (hoi i (by omega))) ?_
      refine aw_iload_n d_De_strangersOf_42 rfl rfl ?_
      refine aw_iand (a := inp (F i) (S i)) (b := inp (F c) (S c)) rfl rfl d_De_strangersOf_43 ?_
      refine aw_if_ne (tgt := 54) d_De_strangersOf_44 rfl (fun h44 => ?_) (fun h44 => ?_)
      · refine aw_lc (lst' := [_, _, _, some (aI ((wb (fun j => decide (inp (F j) (S j) &&& inp (F c) (S c) = 0)) (i + 1) : Nat) : Int)), _]) (by (rw [wb_step, if_neg (by rw [decide_eq_false (by omega)]; decide)]) <;> rfl) ?_
        refine aw_iinc (lst' := [_, _, _, _, some (aI ((i + 1 : Nat) : Int))]) d_De_strangersOf_54 (Nat.le_of_ble_eq_true rfl) rfl (by unfold inR; omega) rfl ?_
        refine aw_goto (tgt := 19) d_De_strangersOf_57 rfl ?_
        exact ih (k - (i + 1)) (by omega) (i + 1) rfl (by omega)
      · refine aw_iload_n d_De_strangersOf_47 rfl rfl ?_
        refine aw_iconst d_De_strangersOf_48 (in_c rfl) ?_
        refine aw_iload d_De_strangersOf_49 rfl ?_
        have hp5 := Nat.pow_le_pow_right (n := 2) (by omega) (show i ≤ 5 by omega)
        refine aw_ishl (a := 1) (k0 := i) rfl rfl (by omega) (by omega) d_De_strangersOf_51 ?_
        refine aw_ior (a := wb (fun j => decide (inp (F j) (S j) &&& inp (F c) (S c) = 0)) i) (b := 1 * 2 ^ i) rfl rfl d_De_strangersOf_52 ?_
        refine aw_istore_n (lst' := [_, _, _, some (aI ((wb (fun j => decide (inp (F j) (S j) &&& inp (F c) (S c) = 0)) (i + 1) : Nat) : Int)), _]) d_De_strangersOf_53 rfl (Nat.le_of_ble_eq_true rfl) (by rw [wb_step, if_pos (decide_eq_true (by omega)), Nat.one_mul]; rfl) ?_
        refine aw_iinc (lst' := [_, _, _, _, some (aI ((i + 1 : Nat) : Int))]) d_De_strangersOf_54 (Nat.le_of_ble_eq_true rfl) rfl (by unfold inR; omega) rfl ?_
        refine aw_goto (tgt := 19) d_De_strangersOf_57 rfl ?_
        exact ih (k - (i + 1)) (by omega) (i + 1) rfl (by omega)
  refine aw_aload_n d_De_strangersOf_0 rfl rfl ?_
  refine aw_getR fd_De_conditions lk_De_46 (Nat.lt_of_le_of_lt (Nat.le_add_right _ 7) (ltD hD)) (shD0 hD) d_De_strangersOf_1 ((hR _ _).trans (rD0 hD)) ?_
  refine aw_aload_n d_De_strangersOf_4 rfl rfl ?_
  refine aw_getR fd_De_letters lk_De_18 (Nat.lt_of_le_of_lt (Nat.le_add_right _ 7) (ltD hD)) (shD0 hD) d_De_strangersOf_5 ((hR _ _).trans (rD2 hD)) ?_
  refine aw_iload_n d_De_strangersOf_8 rfl rfl ?_
  refine aw_iald (n := c) (by have := ltD hD; omega) (shD3 hD) rfl (by omega) d_De_strangersOf_9 ?_
  have hlc := hlt c (by omega)
  refine aw_tv (v' := (((mI μ (D + 3) c).toNat : Nat) : Int)) (by omega) ?_
  refine aw_ve (as := [_]) rfl cv_De_88 (by omega) rfl rfl d_De_strangersOf_10 (Nat.le_of_ble_eq_true rfl) (d' := d - 1) (by omega) (m_Co_inputsOf (l := (mI μ (D + 3) c).toNat) (f := F c) (s := S c) (by omega) hR (by have := hlt c (by omega); omega) (hFj c (by omega)) (hSj c (by omega)) (hoi c (by omega))) ?_
  refine aw_istore_n (lst' := [_, _, _, _, _]) d_De_strangersOf_13 rfl (Nat.le_of_ble_eq_true rfl) rfl ?_
  refine aw_iconst d_De_strangersOf_14 (in_c rfl) ?_
  refine aw_istore_n (lst' := [_, _, _, _, _]) d_De_strangersOf_15 rfl (Nat.le_of_ble_eq_true rfl) rfl ?_
  refine aw_iconst d_De_strangersOf_16 (in_c rfl) ?_
  refine aw_pc (pc' := 17) rfl ?_
  refine aw_istore (lst' := [_, _, _, _, _]) d_De_strangersOf_17 (Nat.le_of_ble_eq_true rfl) rfl ?_
  exact key (k - 0) 0 rfl (Nat.zero_le _)
end
