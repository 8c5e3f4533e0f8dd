/-! suite: class and reference -/
section
theorem aw_mm {G : aG} {x : Bool} {y : aY} {d bc bs : Nat} {Q : aQ → Nat → aM → Prop} {pc : Nat} {lst : List (Option aV)} {st : List aV} {nn : Nat} {μ μ' : aM} (h : μ = μ') (k : AW G x y d bc bs Q pc lst st nn μ') : AW G x y d bc bs Q pc lst st nn μ := h ▸ k
/-- the partners look at the decision alone -/
theorem ptF_cg {μ m : aM} {D : Nat} (hI : ∀ a b, D ≤ a → a ≤ D + 7 → mI m a b = mI μ a b) (hL : ∀ a b, D ≤ a → a ≤ D + 7 → mL m a b = mL μ a b) (k c : Nat) (q : Int) (w : Nat) : ptF m D k c q w = ptF μ D k c q w := by
  have e8 : mL m D 8 = mL μ D 8 := hL _ _ (by omega) (by omega)
  have e9 : mL m D 9 = mL μ D 9 := hL _ _ (by omega) (by omega)
  have e5 : ∀ j, mL m (D + 5) j = mL μ (D + 5) j := fun j => hL _ _ (by omega) (by omega)
  have e6 : ∀ j, mL m (D + 6) j = mL μ (D + 6) j := fun j => hL _ _ (by omega) (by omega)
  have e4 : ∀ j, mI m (D + 4) j = mI μ (D + 4) j := fun j => hI _ _ (by omega) (by omega)
  have eA : abF m D c q = abF μ D c q := by unfold abF; rw [e9, e5, e6]
  have eH : hdF m D c q = hdF μ D c q := by unfold hdF; rw [e4]
  have eP : ∀ j, pfF m D c q w j = pfF μ D c q w j := fun j => by
    induction j with
    | zero => rw [pfF, pfF, eA, e8]
    | succ j ih => rw [pfF, pfF, eH, e5, ih]
  unfold ptF
  rw [eA, eP]
theorem ptF_S {μ m : aM} (h : FrS μ m) {i : Nat} (hi : i < 4) (k c : Nat) (q : Int) (w : Nat) : ptF m (27 + 8 * i) k c q w = ptF μ (27 + 8 * i) k c q w :=
  ptF_cg (fun a b h1 h2 => h.1 a b (by omega) (by omega)) (fun a b h1 h2 => h.2.1 a b (by omega)) k c q w
theorem su_pair {μ m : aM} (h : FrS μ m) {i : Nat} (hi : i < 4) (k c : Nat) (q : Int) : pairS (fun v w => (mL m (27 + 8 * i) 9).getLsbD v && ((mL m (27 + 8 * i) 9) &&& ptF m (27 + 8 * i) k c q v).getLsbD w) (2 ^ k) = suP μ i k c q := by
  unfold suP
  rw [h.2.1 (27 + 8 * i) 9 (by omega)]
  refine pairS_ext (fun v w _ _ => ?_)
  rw [ptF_S h hi]
theorem su_sh {μ m : aM} (h : FrS μ m) {i : Nat} (hi : i < 4) (k c : Nat) (q : Int) (S : BitVec 64) : shW m (27 + 8 * i) k c q S = shW μ (27 + 8 * i) k c q S := by
  unfold shW
  rw [pairS_ext (fun v w _ _ => by rw [ptF_S h hi])]
theorem suA_c {m : aM} {w : Nat} (h : mI m 59 1 = (cS m : Int)) (h12 : cS m ≤ 12) : mI (suA m (cS m) w) 59 1 = (cS (suA m (cS m) w) : Int) ∧ cS (suA m (cS m) w) ≤ 12 := by
  unfold suA
  split
  · exact ⟨h, h12⟩
  · rename_i g
    have e : mI (wL (wI (wI m 60 (cS m) (w : Int)) 59 1 ((cS m : Int) + 1)) 59 2 (mL m 59 2 ||| ((1 : BitVec 64) <<< w))) 59 1 = (cS m : Int) + 1 := by rw [mI_wL, mI_wI, if_pos ⟨rfl, rfl⟩]
    have e2 : cS (wL (wI (wI m 60 (cS m) (w : Int)) 59 1 ((cS m : Int) + 1)) 59 2 (mL m 59 2 ||| ((1 : BitVec 64) <<< w))) = cS m + 1 := by
      show (mI _ 59 1).toNat = _
      rw [e]; omega
    rw [e, e2]
    have : ¬ 12 ≤ cS m := fun z => g (Or.inr z)
    exact ⟨by omega, by omega⟩
theorem suM_c (μ : aM) (i k : Nat) (q : Int) : ∀ j, mI (suM μ i k q j) 59 1 = (cS (suM μ i k q j) : Int) ∧ cS (suM μ i k q j) ≤ 12
  | 0 => by
    have e : mI (suM μ i k q 0) 59 1 = 0 := by show mI (wI μ 59 1 0) 59 1 = 0; rw [mI_wI, if_pos ⟨rfl, rfl⟩]
    have e2 : cS (suM μ i k q 0) = 0 := by unfold cS; rw [e]; rfl
    rw [e, e2]; exact ⟨rfl, by omega⟩
  | j + 1 => by
    obtain ⟨h1, h2⟩ := suM_c μ i k q j
    rw [suM]
    split
    · exact ⟨h1, h2⟩
    · obtain ⟨g1, g2⟩ := suA_c (w := (suP μ i k j q).toNat / 100) h1 h2
      exact suA_c g1 g2
theorem suP_or (μ : aM) (i k c : Nat) (q : Int) (h6 : k ≤ 6) : suP μ i k c q = -1 ∨ (suP μ i k c q = ((suP μ i k c q).toNat : Int) ∧ (suP μ i k c q).toNat / 100 < 64 ∧ (suP μ i k c q).toNat % 100 < 64) := by
  have hp : 2 ^ k ≤ 64 := Nat.pow_le_pow_right (n := 2) (by omega) h6
  unfold suP
  rcases pairS_ge (f := fun v w => (mL μ (27 + 8 * i) 9).getLsbD v && ((mL μ (27 + 8 * i) 9) &&& ptF μ (27 + 8 * i) k c q v).getLsbD w) (N := 2 ^ k) with e | ⟨v, w, h1, h2, -, e⟩
  · exact Or.inl e
  · right; rw [e]; refine ⟨by omega, by omega, by omega⟩
theorem moP_or (μ : aM) (i k c : Nat) (q : Int) (h6 : k ≤ 6) : (¬ 0 ≤ pairS (oW μ i k c q) (2 ^ k)) ∨ (pairS (oW μ i k c q) (2 ^ k) = ((pairS (oW μ i k c q) (2 ^ k)).toNat : Int) ∧ (pairS (oW μ i k c q) (2 ^ k)).toNat / 100 < 64 ∧ (pairS (oW μ i k c q) (2 ^ k)).toNat % 100 < 64) := by
  have hp : 2 ^ k ≤ 64 := Nat.pow_le_pow_right (n := 2) (by omega) h6
  rcases pairS_ge (f := oW μ i k c q) (N := 2 ^ k) with e | ⟨v, w, h1, h2, -, e⟩
  · left; omega
  · right; rw [e]; refine ⟨by omega, by omega, by omega⟩
theorem moA_c {m : aM} {n w : Nat} (h : mI m 67 28 = (n : Int)) (hws : ∀ p, p < n → 0 ≤ mI m 89 p ∧ mI m 89 p < 64) (hw : w < 64) : ∃ n', n' ≤ n + 1 ∧ mI (moA m n w) 67 28 = (n' : Int) ∧ ∀ p, p < n' → 0 ≤ mI (moA m n w) 89 p ∧ mI (moA m n w) 89 p < 64 := by
  unfold moA
  split
  · exact ⟨n, by omega, h, hws⟩
  · refine ⟨n + 1, by omega, by rw [mI_wI, if_pos ⟨rfl, rfl⟩]; omega, fun p hp => ?_⟩
    have e : mI (wI (wI m 89 n (w : Int)) 67 28 ((n : Int) + 1)) 89 p = if p = n then (w : Int) else mI m 89 p := by simp [mI_wI]
    rw [e]
    split
    · omega
    · exact hws p (by omega)
theorem moM_c (μ : aM) (i k : Nat) (q : Int) (h6 : k ≤ 6) : ∀ j : Nat, ∃ n : Nat, n ≤ 2 * j ∧ mI (moM μ i k q j) 67 28 = (n : Int) ∧ cM (moM μ i k q j) = n ∧ ∀ p, p < n → 0 ≤ mI (moM μ i k q j) 89 p ∧ mI (moM μ i k q j) 89 p < 64
  | 0 => ⟨0, by omega, by show mI (wI (wI μ 67 0 0) 67 28 0) 67 28 = _; rw [mI_wI]; rfl, by show (mI (wI (wI μ 67 0 0) 67 28 0) 67 28).toNat = _; rw [mI_wI]; rfl, fun p hp => absurd hp (by omega)⟩
  | j + 1 => by
    obtain ⟨n, h1, h2, h3, h4⟩ := moM_c μ i k q h6 j
    rw [moM]
    split
    · exact ⟨n, by omega, h2, h3, h4⟩
    · rename_i g
      rcases moP_or μ i k j q h6 with z | ⟨z1, z2, z3⟩
      · exact absurd (Or.inl z) g
      · unfold mo2
        obtain ⟨n1, g1, g2, g3⟩ := moA_c h2 h4 z2
        have c1 : cM (moA (moM μ i k q j) (cM (moM μ i k q j)) ((pairS (oW μ i k j q) (2 ^ k)).toNat / 100)) = n1 := by rw [h3]; unfold cM; rw [g2]; rfl
        rw [c1, h3]
        obtain ⟨n2, g4, g5, g6⟩ := moA_c g2 g3 z3
        exact ⟨n2, by omega, g5, by unfold cM; rw [g5]; rfl, g6⟩
variable {G : aG} {pg : Nat} {μ : aM}
set_option maxRecDepth 100000 in
theorem m_Su_fill {d : Nat} (hd : 6 ≤ d) (hR : ∀ k j, mR μ k j = R0 pg k j) {i : Nat} (h4 : i < 4) {k : Nat} (hk : mI μ (27 + 8 * i) 7 = (k : Int)) (h6 : k ≤ 6) {q : Int} (hq0 : 0 ≤ q) (hq2 : q ≤ 2) (hst : ∀ c, inR (mI μ (27 + 8 * i + 4) c))  : AM G false d 0 0 y_Su_fill [aP 59, aP (27 + 8 * i), aI q] 94 μ (Qe (some (aI (mI (suM μ i k q k) 59 1))) 94 (suM μ i k q k)) := by
  refine am_of (n := 2) pf_Su_fill (Nat.le_of_ble_eq_true rfl) (by intro v hv; simp only [List.mem_cons, List.not_mem_nil, or_false] at hv; rcases hv with rfl | rfl | rfl <;> first | trivial | assumption | exact in_c rfl | exact bI_in _ | (show inR _; unfold inR; omega)) rfl ?_
  have key : ∀ (m : Nat) (j : Nat) (o4 : Option aV), k - j = m → j ≤ k → AW G false y_Su_fill d 0 0 (Qe (some (aI (mI (suM μ i k q k) 59 1))) 94 (suM μ i k q k)) 12 [some (aP 59), some (aP (27 + 8 * i)), some (aI q), some (aI (j : Int)), o4] [] 94 (suM μ i k q j) := by
    intro m
    induction m using Nat.strongRecOn with | _ m ih =>
    intro j o4 hm hj
    have hF := suM_fr μ i k q j
    have hkj : mI (suM μ i k q j) (27 + 8 * i) 7 = (k : Int) := (hF.1 _ _ (by omega) (by omega)).trans hk
    have hRj : ∀ a b, mR (suM μ i k q j) a b = R0 pg a b := fun a b => (hF.2.2 a b).trans (hR a b)
    have hstj : ∀ c, inR (mI (suM μ i k q j) (27 + 8 * i + 4) c) := fun c => by rw [hF.1 _ _ (by omega) (by omega)]; exact hst c
    have hcj := suM_c μ i k q j
    refine aw_iload_n d_Su_fill_12 rfl rfl ?_
    refine aw_aload_n d_Su_fill_13 rfl rfl ?_
    refine aw_ve (as := []) rfl cv_Su_23 (by omega) (shD0 (isD_of h4)) rfl d_Su_fill_14 (Nat.le_of_ble_eq_true rfl) (d' := d - 1) (by omega) (m_De_size (by omega) (isD_of h4)) ?_
    refine aw_tv (v' := (k : Int)) hkj ?_
    refine aw_icmp_ge (tgt := 71) d_Su_fill_17 rfl (fun h17 => ?_) (fun h17 => ?_)
    · refine aw_aload_n d_Su_fill_71 rfl rfl ?_
      refine aw_getI fd_Su_count lk_Su_15 (by omega) rfl d_Su_fill_72 ?_
      exact aw_iret d_Su_fill_75 rfl ⟨by rw [show j = k by omega], rfl, by rw [show j = k by omega]⟩
    · refine aw_aload_n d_Su_fill_20 rfl rfl ?_
      refine aw_iload_n d_Su_fill_21 rfl rfl ?_
      refine aw_iload_n d_Su_fill_22 rfl rfl ?_
      refine aw_ve (as := [_, _]) rfl cv_Su_29 (by omega) (shD0 (isD_of h4)) rfl d_Su_fill_23 (Nat.le_of_ble_eq_true rfl) (d' := d - 1) (by omega) (m_De_pairFor (μ := (suM μ i k q j)) (by omega) (isD_of h4) hRj hkj h6 (by omega) hq0 hq2 (hstj _)) ?_
      refine aw_tv (v' := (suP μ i k j q)) (su_pair hF h4 k j q) ?_
      refine aw_istore (lst' := [_, _, _, _, _]) d_Su_fill_26 (Nat.le_of_ble_eq_true rfl) rfl ?_
      refine aw_iload d_Su_fill_28 rfl ?_
      refine aw_iconst d_Su_fill_30 (in_c rfl) ?_
      refine aw_icmp_eq (tgt := 65) d_Su_fill_31 rfl (fun h31 => ?_) (fun h31 => ?_)
      · refine aw_mm (μ' := (suM μ i k q (j + 1))) (by rw [suM, if_pos (Or.inl h31)]) ?_
        refine aw_iinc (lst' := [_, _, _, some (aI ((j + 1 : Nat) : Int)), _]) d_Su_fill_65 (Nat.le_of_ble_eq_true rfl) rfl (by unfold inR; omega) rfl ?_
        refine aw_goto (tgt := 12) d_Su_fill_68 rfl ?_
        exact ih (k - (j + 1)) (by omega) (j + 1) _ rfl (by omega)
      · refine aw_aload_n d_Su_fill_34 rfl rfl ?_
        refine aw_aload_n d_Su_fill_35 rfl rfl ?_
        refine aw_getL fd_Su_set lk_Su_19 (by omega) rfl d_Su_fill_36 ?_
        refine aw_iload_n d_Su_fill_39 rfl rfl ?_
        refine aw_iload_n d_Su_fill_40 rfl rfl ?_
        refine aw_ve (as := [_, _, _]) rfl cv_Su_33 (by omega) (shD0 (isD_of h4)) rfl d_Su_fill_41 (Nat.le_of_ble_eq_true rfl) (d' := d - 1) (by omega) (m_De_isShownWithin (μ := (suM μ i k q j)) (by omega) (isD_of h4) hRj hkj h6 (by omega) hq0 hq2 (hstj _)) ?_
        refine aw_tv (v' := bI (shW μ (27 + 8 * i) k j q (mL (suM μ i k q j) 59 2))) (congrArg bI (su_sh hF h4 k j q _)) ?_
        refine aw_if_ne (tgt := 65) d_Su_fill_44 rfl (fun h44 => ?_) (fun h44 => ?_)
        · replace h44 := bn h44
          refine aw_mm (μ' := (suM μ i k q (j + 1))) (by rw [suM, if_pos (Or.inr h44)]) ?_
          refine aw_iinc (lst' := [_, _, _, some (aI ((j + 1 : Nat) : Int)), _]) d_Su_fill_65 (Nat.le_of_ble_eq_true rfl) rfl (by unfold inR; omega) rfl ?_
          refine aw_goto (tgt := 12) d_Su_fill_68 rfl ?_
          exact ih (k - (j + 1)) (by omega) (j + 1) _ rfl (by omega)
        · replace h44 := bz h44
          refine aw_aload_n d_Su_fill_47 rfl rfl ?_
          refine aw_iload d_Su_fill_48 rfl ?_
          have hP := (suP_or μ i k j q h6).resolve_left h31
          refine aw_bipush (z := 100) d_Su_fill_50 (in_c rfl) rfl ?_
          refine aw_idiv (a := (suP μ i k j q).toNat) (b := 100) hP.1 rfl (by omega) d_Su_fill_52 ?_
          refine aw_ve (as := [_]) rfl cv_Su_37 (by omega) rfl rfl d_Su_fill_53 (Nat.le_of_ble_eq_true rfl) (d' := d - 1) (by omega) (m_Su_add (μ := (suM μ i k q j)) (c := cS (suM μ i k q j)) (by omega) hRj hP.2.1 hcj.1 hcj.2) ?_
          have hc2 := suA_c (w := (suP μ i k j q).toNat / 100) hcj.1 hcj.2
          have hR2 : ∀ a b, mR (suA (suM μ i k q j) (cS (suM μ i k q j)) ((suP μ i k j q).toNat / 100)) a b = R0 pg a b := fun a b => ((FrS_A _ _ _).2.2 a b).trans (hRj a b)
          refine aw_aload_n d_Su_fill_56 rfl rfl ?_
          refine aw_iload d_Su_fill_57 rfl ?_
          refine aw_bipush (z := 100) d_Su_fill_59 (in_c rfl) rfl ?_
          refine aw_irem (a := (suP μ i k j q).toNat) (b := 100) hP.1 rfl (by omega) d_Su_fill_61 ?_
          refine aw_ve (as := [_]) rfl cv_Su_37 (by omega) rfl rfl d_Su_fill_62 (Nat.le_of_ble_eq_true rfl) (d' := d - 1) (by omega) (m_Su_add (μ := suA (suM μ i k q j) (cS (suM μ i k q j)) ((suP μ i k j q).toNat / 100)) (c := cS (suA (suM μ i k q j) (cS (suM μ i k q j)) ((suP μ i k j q).toNat / 100))) (by omega) hR2 hP.2.2 hc2.1 hc2.2) ?_
          refine aw_mm (μ' := (suM μ i k q (j + 1))) (by rw [suM, if_neg (by rintro (z | z); exact h31 z; rw [h44] at z; exact absurd z (by decide))]; rfl) ?_
          refine aw_iinc (lst' := [_, _, _, some (aI ((j + 1 : Nat) : Int)), _]) d_Su_fill_65 (Nat.le_of_ble_eq_true rfl) rfl (by unfold inR; omega) rfl ?_
          refine aw_pc (pc' := 68) rfl ?_
          refine aw_goto (tgt := 12) d_Su_fill_68 rfl ?_
          exact ih (k - (j + 1)) (by omega) (j + 1) _ rfl (by omega)
  refine aw_aload_n d_Su_fill_0 rfl rfl ?_
  refine aw_iconst d_Su_fill_1 (in_c rfl) ?_
  refine aw_putI fd_Su_count lk_Su_15 (by omega) rfl d_Su_fill_2 (Or.inl rfl) ?_
  refine aw_aload_n d_Su_fill_5 rfl rfl ?_
  refine aw_lconst (b := 0) d_Su_fill_6 rfl ?_
  refine aw_putL fd_Su_set lk_Su_19 (by omega) rfl d_Su_fill_7 (Or.inl rfl) ?_
  refine aw_iconst d_Su_fill_10 (in_c rfl) ?_
  refine aw_istore_n (lst' := [_, _, _, _, _]) d_Su_fill_11 rfl (Nat.le_of_ble_eq_true rfl) rfl ?_
  refine aw_mm (μ' := suM μ i k q 0) rfl ?_
  exact key (k - 0) 0 none rfl (Nat.zero_le _)
set_option maxRecDepth 100000 in
theorem m_MC_suite {d : Nat} (hd : 8 ≤ d) {i : Nat} (hi : (i : Int) < mI μ 0 10) (h4 : mI μ 0 10 ≤ 4) {k : Nat} (hk : mI μ (27 + 8 * i) 7 = (k : Int)) (h6 : k ≤ 6) (hR : ∀ k j, mR μ k j = R0 pg k j) {q : Int} (hq : inR q) (hst : ∀ c, inR (mI μ (27 + 8 * i + 4) c)) : AM G false d 3 18 y_MC_suite [aP 0, aI (i : Int), aI q] 94 μ (fun r n9 m => n9 = 94 ∧ ((¬ (0 ≤ q ∧ q ≤ 2) ∧ r = .inr 1 ∧ m = μ) ∨ ((0 ≤ q ∧ q ≤ 2) ∧ r = .inl (some (aI (mI (suM μ i k q k) 59 1))) ∧ m = suM μ i k q k))) := by
  refine am_of (n := 1) pf_MC_suite (Nat.le_of_ble_eq_true rfl) (by intro v hv; simp only [List.mem_cons, List.not_mem_nil, or_false] at hv; rcases hv with rfl | rfl | rfl <;> first | trivial | assumption | exact in_c rfl | exact bI_in _ | (show inR _; unfold inR; omega)) rfl ?_
  refine aw_aload_n d_MC_suite_0 rfl rfl ?_
  refine aw_iload_n d_MC_suite_1 rfl rfl ?_
  refine aw_ve (as := [_]) rfl cv_MC_140 (by omega) rfl rfl d_MC_suite_2 (Nat.le_of_ble_eq_true rfl) (d' := d - 1) (by omega) (m_MC_decisionAt (by omega) hi h4 hR) ?_
  refine aw_astore_n (lst' := [_, _, _, _]) d_MC_suite_5 rfl (Nat.le_of_ble_eq_true rfl) rfl ?_
  refine aw_iload_n d_MC_suite_6 rfl rfl ?_
  refine aw_sor (as := [_]) rfl cs_MC_182 d_MC_suite_7 (Nat.le_of_ble_eq_true rfl) (d' := d - 1) (by omega) (by omega) (by omega) (m_MC_checkCriterion (by omega) hq) (by intro z hz; cases hz) (fun g2 => ⟨rfl, Or.inl ⟨g2, rfl, rfl⟩⟩) (fun g2 => ?_)
  refine aw_aload_n d_MC_suite_10 rfl rfl ?_
  refine aw_getR fd_MC_suite lk_MC_67 (by omega) rfl d_MC_suite_11 (hR _ _) ?_
  refine aw_aload_n d_MC_suite_14 rfl rfl ?_
  refine aw_iload_n d_MC_suite_15 rfl rfl ?_
  refine aw_ve (as := [_, _]) rfl cv_MC_189 (by omega) rfl rfl d_MC_suite_16 (Nat.le_of_ble_eq_true rfl) (d' := d - 1) (by omega) (m_Su_fill (by omega) hR (show i < 4 by omega) hk h6 g2.1 g2.2 hst) ?_
  refine aw_pc (pc' := 19) rfl ?_
  exact aw_iret d_MC_suite_19 rfl ⟨rfl, Or.inr ⟨g2, rfl, rfl⟩⟩
set_option maxRecDepth 100000 in
theorem g_Mo_suite {d : Nat} (hd : 4 ≤ d) {i : Nat} (hi : (i : Int) < mI μ 67 11) (h4 : mI μ 67 11 ≤ 4) {k : Nat} (hk : mI μ 78 i = (k : Int)) (h6 : k ≤ 6) (hse : ∀ j, j < 256 → 0 ≤ mI μ 83 j ∧ mI μ 83 j < 64) (hu : ∀ j, j < 6 → 0 ≤ mI μ 79 (6 * i + j) ∧ mI μ 79 (6 * i + j) < 8) (hR : ∀ k j, mR μ k j = R0 pg k j) {q : Int} (hq : inR q) : AM G false d 0 0 y_Mo_suite [aP 67, aI (i : Int), aI q] 94 μ (fun r n9 m => n9 = 94 ∧ ((¬ (0 ≤ q ∧ q ≤ 2) ∧ r = .inl (some (aI 0)) ∧ m = wI μ 67 0 2) ∨ ((0 ≤ q ∧ q ≤ 2) ∧ r = .inl (some (aI (mI (moM μ i k q k) 67 28))) ∧ m = moM μ i k q k))) := by
  refine am_of (n := 2) pf_Mo_suite (Nat.le_of_ble_eq_true rfl) (by intro v hv; simp only [List.mem_cons, List.not_mem_nil, or_false] at hv; rcases hv with rfl | rfl | rfl <;> first | trivial | assumption | exact in_c rfl | exact bI_in _ | (show inR _; unfold inR; omega)) rfl ?_
  have key : ∀ (m : Nat) (j : Nat) (o4 : Option aV), k - j = m → ((0 ≤ q ∧ q ≤ 2) ∧ j ≤ k) → AW G false y_Mo_suite d 0 0 (fun r n9 m => n9 = 94 ∧ ((¬ (0 ≤ q ∧ q ≤ 2) ∧ r = .inl (some (aI 0)) ∧ m = wI μ 67 0 2) ∨ ((0 ≤ q ∧ q ≤ 2) ∧ r = .inl (some (aI (mI (moM μ i k q k) 67 28))) ∧ m = moM μ i k q k))) 41 [some (aP 67), some (aI (i : Int)), some (aI q), some (aI (j : Int)), o4] [] 94 (moM μ i k q j) := by
    intro m
    induction m using Nat.strongRecOn with | _ m ih =>
    intro j o4 hm hj
    have hF := moM_fr μ i k q j
    have hne : ∀ a b, a ≠ 89 → a ≠ 67 → mI (moM μ i k q j) a b = mI μ a b := fun a b z1 z2 => by rw [hF.1 a b z1 (fun z => z2 z.1), mI_wI, if_neg (fun z => z2 z.1)]
    have hkj : mI (moM μ i k q j) 78 i = (k : Int) := (hne _ _ (by omega) (by omega)).trans hk
    have hsej : ∀ j', j' < 256 → 0 ≤ mI (moM μ i k q j) 83 j' ∧ mI (moM μ i k q j) 83 j' < 64 := fun j' z => by rw [hne _ _ (by omega) (by omega)]; exact hse j' z
    have huj : ∀ j', j' < 6 → 0 ≤ mI (moM μ i k q j) 79 (6 * i + j') ∧ mI (moM μ i k q j) 79 (6 * i + j') < 8 := fun j' z => by rw [hne _ _ (by omega) (by omega)]; exact hu j' z
    have hRj : ∀ a b, mR (moM μ i k q j) a b = R0 pg a b := fun a b => (hF.2.2 a b).trans (hR a b)
    have hoW : ∀ c, oW (moM μ i k q j) i k c q = oW μ i k c q := fun c => oW_fr hF
    obtain ⟨n, hn1, hn2, hn3, hn4⟩ := moM_c μ i k q h6 j
    refine aw_iload_n d_Mo_suite_41 rfl rfl ?_
    refine aw_aload_n d_Mo_suite_42 rfl rfl ?_
    refine aw_getR fd_Mo_many lk_Mo_41 (by omega) rfl d_Mo_suite_43 (hRj _ _) ?_
    refine aw_iload_n d_Mo_suite_46 rfl rfl ?_
    refine aw_iald (n := i) (by omega) rfl rfl (by omega) d_Mo_suite_47 ?_
    refine aw_tv (v' := (k : Int)) hkj ?_
    refine aw_icmp_ge (tgt := 99) d_Mo_suite_48 rfl (fun h48 => ?_) (fun h48 => ?_)
    · refine aw_aload_n d_Mo_suite_99 rfl rfl ?_
      refine aw_getI fd_Mo_suiteSize lk_Mo_198 (by omega) rfl d_Mo_suite_100 ?_
      exact aw_iret d_Mo_suite_103 rfl ⟨rfl, Or.inr ⟨hj.1, by rw [show j = k by omega], by rw [show j = k by omega]⟩⟩
    · refine aw_aload_n d_Mo_suite_51 rfl rfl ?_
      refine aw_iload_n d_Mo_suite_52 rfl rfl ?_
      refine aw_iload_n d_Mo_suite_53 rfl rfl ?_
      refine aw_iload_n d_Mo_suite_54 rfl rfl ?_
      refine aw_ve (as := [_, _, _]) rfl cv_Mo_194 (by omega) rfl rfl d_Mo_suite_55 (Nat.le_of_ble_eq_true rfl) (d' := d - 1) (by omega) (m_Mo_pairOf (μ := (moM μ i k q j)) (i := i) (k := k) (c := j) (q := q) (by omega) (by omega) hkj h6 (by omega) hj.1.1 hj.1.2 hsej huj hRj) ?_
      refine aw_tv (v' := (pairS (oW μ i k j q) (2 ^ k))) (by rw [hoW]) ?_
      refine aw_istore (lst' := [_, _, _, _, _]) d_Mo_suite_58 (Nat.le_of_ble_eq_true rfl) rfl ?_
      refine aw_iload d_Mo_suite_60 rfl ?_
      refine aw_if_lt (tgt := 93) d_Mo_suite_62 rfl (fun h62 => ?_) (fun h62 => ?_)
      · refine aw_mm (μ' := (moM μ i k q (j + 1))) (by rw [moM, if_pos (Or.inl (by omega))]) ?_
        refine aw_iinc (lst' := [_, _, _, some (aI ((j + 1 : Nat) : Int)), _]) d_Mo_suite_93 (Nat.le_of_ble_eq_true rfl) rfl (by unfold inR; omega) rfl ?_
        refine aw_goto (tgt := 41) d_Mo_suite_96 rfl ?_
        exact ih (k - (j + 1)) (by omega) (j + 1) _ rfl ⟨hj.1, by omega⟩
      · refine aw_aload_n d_Mo_suite_65 rfl rfl ?_
        refine aw_iload_n d_Mo_suite_66 rfl rfl ?_
        refine aw_iload_n d_Mo_suite_67 rfl rfl ?_
        refine aw_iload_n d_Mo_suite_68 rfl rfl ?_
        refine aw_ve (as := [_, _, _]) rfl cv_Mo_201 (by omega) rfl rfl d_Mo_suite_69 (Nat.le_of_ble_eq_true rfl) (d' := d - 1) (by omega) (m_Mo_isShown (μ := (moM μ i k q j)) (i := i) (k := k) (c := j) (q := q) (n := n) (by omega) (by omega) hkj h6 (by omega) hj.1.1 hj.1.2 hsej huj hn2 (by omega) hn4 hRj) ?_
        refine aw_if_ne (tgt := 93) d_Mo_suite_72 rfl (fun h72 => ?_) (fun h72 => ?_)
        · replace h72 := bn h72
          refine aw_mm (μ' := (moM μ i k q (j + 1))) (by rw [moM, hn3, if_pos (Or.inr h72)]) ?_
          refine aw_iinc (lst' := [_, _, _, some (aI ((j + 1 : Nat) : Int)), _]) d_Mo_suite_93 (Nat.le_of_ble_eq_true rfl) rfl (by unfold inR; omega) rfl ?_
          refine aw_goto (tgt := 41) d_Mo_suite_96 rfl ?_
          exact ih (k - (j + 1)) (by omega) (j + 1) _ rfl ⟨hj.1, by omega⟩
        · replace h72 := bz h72
          refine aw_aload_n d_Mo_suite_75 rfl rfl ?_
          refine aw_iload d_Mo_suite_76 rfl ?_
          have hP := (moP_or μ i k j q h6).resolve_left (fun z => z (by omega))
          refine aw_bipush (z := 100) d_Mo_suite_78 (in_c rfl) rfl ?_
          refine aw_idiv (a := (pairS (oW μ i k j q) (2 ^ k)).toNat) (b := 100) hP.1 rfl (by omega) d_Mo_suite_80 ?_
          refine aw_ve (as := [_]) rfl cv_Mo_204 (by omega) rfl rfl d_Mo_suite_81 (Nat.le_of_ble_eq_true rfl) (d' := d - 1) (by omega) (m_Mo_include (μ := (moM μ i k q j)) (s := n) (by omega) hRj hP.2.1 hn2 (by omega)) ?_
          obtain ⟨n1, e4, e5, e6⟩ := moA_c hn2 hn4 hP.2.1
          have e7 : cM (moA (moM μ i k q j) n ((pairS (oW μ i k j q) (2 ^ k)).toNat / 100)) = n1 := by unfold cM; rw [e5]; rfl
          have hR2 : ∀ a b, mR (moA (moM μ i k q j) n ((pairS (oW μ i k j q) (2 ^ k)).toNat / 100)) a b = R0 pg a b := fun a b => ((FrM_A _ _ _).2.2 a b).trans (hRj a b)
          refine aw_aload_n d_Mo_suite_84 rfl rfl ?_
          refine aw_iload d_Mo_suite_85 rfl ?_
          refine aw_bipush (z := 100) d_Mo_suite_87 (in_c rfl) rfl ?_
          refine aw_irem (a := (pairS (oW μ i k j q) (2 ^ k)).toNat) (b := 100) hP.1 rfl (by omega) d_Mo_suite_89 ?_
          refine aw_ve (as := [_]) rfl cv_Mo_204 (by omega) rfl rfl d_Mo_suite_90 (Nat.le_of_ble_eq_true rfl) (d' := d - 1) (by omega) (m_Mo_include (μ := moA (moM μ i k q j) n ((pairS (oW μ i k j q) (2 ^ k)).toNat / 100)) (s := n1) (by omega) hR2 hP.2.2 e5 (by omega)) ?_
          refine aw_mm (μ' := (moM μ i k q (j + 1))) (by rw [moM, hn3, if_neg (by rintro (z | z); omega; rw [h72] at z; exact absurd z (by decide))]; unfold mo2; rw [hn3, e7]) ?_
          refine aw_iinc (lst' := [_, _, _, some (aI ((j + 1 : Nat) : Int)), _]) d_Mo_suite_93 (Nat.le_of_ble_eq_true rfl) rfl (by unfold inR; omega) rfl ?_
          refine aw_pc (pc' := 96) rfl ?_
          refine aw_goto (tgt := 41) d_Mo_suite_96 rfl ?_
          exact ih (k - (j + 1)) (by omega) (j + 1) _ rfl ⟨hj.1, by omega⟩
  refine aw_aload_n d_Mo_suite_0 rfl rfl ?_
  refine aw_aload_n d_Mo_suite_1 rfl rfl ?_
  refine aw_iload_n d_Mo_suite_2 rfl rfl ?_
  refine aw_ve (as := [_]) rfl cv_Mo_159 (by omega) rfl rfl d_Mo_suite_3 (Nat.le_of_ble_eq_true rfl) (d' := d - 1) (by omega) (g_Mo_isDecision (by omega) hi h4) ?_
  refine aw_if_ne (tgt := 13) d_Mo_suite_6 rfl (fun h6 => ?_) (fun h6 => absurd h6 (by omega))
  refine aw_iconst d_Mo_suite_13 (in_c rfl) ?_
  refine aw_iload_n d_Mo_suite_14 rfl rfl ?_
  refine aw_se (as := [_]) rfl cs_Mo_191 d_Mo_suite_15 (Nat.le_of_ble_eq_true rfl) (d' := d - 1) (by omega) (m_Mo_isCriterion (by omega) hq) ?_
  refine aw_if_ne (tgt := 25) d_Mo_suite_18 rfl (fun h18 => ?_) (fun h18 => ?_)
  · replace h18 := ite_n h18
    refine aw_iconst d_Mo_suite_25 (in_c rfl) ?_
    refine aw_ve (as := [_, _]) rfl cv_Mo_96 (by omega) rfl rfl d_Mo_suite_26 (Nat.le_of_ble_eq_true rfl) (d' := d - 1) (by omega) (m_Mo_refused_0 (by omega)) ?_
    refine aw_if_eq (tgt := 34) d_Mo_suite_29 rfl (fun h29 => ?_) (fun h29 => absurd (by omega) h29)
    refine aw_aload_n d_Mo_suite_34 rfl rfl ?_
    refine aw_iconst d_Mo_suite_35 (in_c rfl) ?_
    refine aw_putI fd_Mo_suiteSize lk_Mo_198 (by omega) rfl d_Mo_suite_36 (Or.inl rfl) ?_
    refine aw_iconst d_Mo_suite_39 (in_c rfl) ?_
    refine aw_istore_n (lst' := [_, _, _, _, _]) d_Mo_suite_40 rfl (Nat.le_of_ble_eq_true rfl) rfl ?_
    refine aw_mm (μ' := moM μ i k q 0) rfl ?_
    exact key (k - 0) 0 none rfl ⟨h18, Nat.zero_le _⟩
  · replace h18 := ite_z h18
    refine aw_iconst d_Mo_suite_21 (in_c rfl) ?_
    refine aw_goto (tgt := 26) d_Mo_suite_22 rfl ?_
    refine aw_ve (as := [_, _]) rfl cv_Mo_96 (by omega) rfl rfl d_Mo_suite_26 (Nat.le_of_ble_eq_true rfl) (d' := d - 1) (by omega) (m_Mo_refused_2 (by omega)) ?_
    refine aw_if_eq (tgt := 34) d_Mo_suite_29 rfl (fun h29 => absurd h29 (by omega)) (fun h29 => ?_)
    refine aw_iconst d_Mo_suite_32 (in_c rfl) ?_
    exact aw_iret d_Mo_suite_33 rfl ⟨rfl, Or.inl ⟨h18, rfl, rfl⟩⟩
end
