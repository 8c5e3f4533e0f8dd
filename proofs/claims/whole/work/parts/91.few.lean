/-! least: the class -/
section
theorem isD_61 {D : Nat} (h : isD D) : D + 7 < 61 := by unfold isD at h; omega
variable {G : aG} {pg : Nat} {μ : aM}
set_option maxRecDepth 100000 in
theorem m_Fe_showsOne {d : Nat} (hd : 1 ≤ d) (hR : ∀ k j, mR μ k j = R0 pg k j) {N : Nat} (hN : mI μ 61 2 = (N : Int)) (hN16 : N ≤ 16) {S : BitVec 64} {c : Nat} (hc : c < 4) : AM G false d 0 0 y_Fe_showsOne [aP 61, aL S, aI (c : Int)] 94 μ (Qe (some (aI (bI (shO μ N S c)))) 94 μ) := by
  refine am_of (n := 3) pf_Fe_showsOne (Nat.le_of_ble_eq_true rfl) (by intro v hv; simp only [List.mem_cons, List.not_mem_nil, or_false] at hv; rcases hv with rfl | rfl | rfl <;> first | trivial | assumption | exact in_c rfl | exact bI_in _ | (show inR _; unfold inR; omega)) rfl ?_
  have key : ∀ (m : Nat) (w : Nat) (o5 o6 : Option aV), N - w = m → (w ≤ N ∧ sF (fun w => S.getLsbD w && decide (¬ (mL μ 62 (16 * c + w) &&& S) = 0)) (N - 0) 0 = sF (fun w => S.getLsbD w && decide (¬ (mL μ 62 (16 * c + w) &&& S) = 0)) (N - w) w) → AW G false y_Fe_showsOne d 0 0 (Qe (some (aI (bI (shO μ N S c)))) 94 μ) 3 [some (aP 61), some (aL S), none, some (aI (c : Int)), some (aI (w : Int)), o5, o6] [] 94 μ := by
    intro m
    induction m using Nat.strongRecOn with | _ m ih =>
    intro w o5 o6 hm hw
    refine aw_iload d_Fe_showsOne_3 rfl ?_
    refine aw_aload_n d_Fe_showsOne_5 rfl rfl ?_
    refine aw_getI fd_Fe_wordCount lk_Fe_19 (by omega) rfl d_Fe_showsOne_6 ?_
    refine aw_tv (v' := (N : Int)) hN ?_
    refine aw_icmp_ge (tgt := 52) d_Fe_showsOne_9 rfl (fun h9 => ?_) (fun h9 => ?_)
    · refine aw_iconst d_Fe_showsOne_52 (in_c rfl) ?_
      exact aw_zret d_Fe_showsOne_53 rfl rfl ⟨by rw [show shO μ N S c = false from by unfold shO; rw [hw.2, sF_end (by omega)]; rfl]; rfl, rfl, rfl⟩
    · refine aw_aload_n d_Fe_showsOne_12 rfl rfl ?_
      refine aw_getR fd_Fe_partners lk_Fe_9 (by omega) rfl d_Fe_showsOne_13 (hR _ _) ?_
      refine aw_iload_n d_Fe_showsOne_16 rfl rfl ?_
      refine aw_bipush (z := 16) d_Fe_showsOne_17 (in_c rfl) rfl ?_
      refine aw_imul d_Fe_showsOne_19 (by unfold inR; omega) ?_
      refine aw_iload d_Fe_showsOne_20 rfl ?_
      refine aw_iadd d_Fe_showsOne_22 (by unfold inR; omega) ?_
      refine aw_lald (n := 16 * c + w) (by omega) rfl (by omega) (by omega) d_Fe_showsOne_23 ?_
      refine aw_lstore (lst' := [_, _, _, _, _, _, _]) d_Fe_showsOne_24 (Nat.le_of_ble_eq_true rfl) rfl ?_
      refine aw_lload_n d_Fe_showsOne_26 rfl rfl ?_
      refine aw_iload d_Fe_showsOne_27 rfl ?_
      refine aw_pc (pc' := 29) rfl ?_
      refine aw_se (as := [_, _]) rfl cs_Fe_60 d_Fe_showsOne_29 (Nat.le_of_ble_eq_true rfl) (d' := d - 1) (by omega) (m_MC_contains (by omega) (by omega)) ?_
      refine aw_if_eq (tgt := 46) d_Fe_showsOne_32 rfl (fun h32 => ?_) (fun h32 => ?_)
      · replace h32 := ite_z h32
        refine aw_iinc (lst' := [_, _, _, _, some (aI ((w + 1 : Nat) : Int)), _, _]) d_Fe_showsOne_46 (Nat.le_of_ble_eq_true rfl) rfl (by unfold inR; omega) rfl ?_
        refine aw_goto (tgt := 3) d_Fe_showsOne_49 rfl ?_
        exact ih (N - (w + 1)) (by omega) (w + 1) _ _ rfl ⟨by omega, hw.2.trans (sF_miss (by omega) (by show (S.getLsbD w && _) = false; rw [show S.getLsbD w = false from by simpa using h32]; rfl))⟩
      · replace h32 := ite_n h32
        refine aw_lload d_Fe_showsOne_35 rfl ?_
        refine aw_lload_n d_Fe_showsOne_37 rfl rfl ?_
        refine aw_land d_Fe_showsOne_38 ?_
        refine aw_lconst (b := 0) d_Fe_showsOne_39 rfl ?_
        refine aw_lcmp d_Fe_showsOne_40 (fun z40 hz40 => ?_)
        refine aw_if_eq (tgt := 46) d_Fe_showsOne_41 rfl (fun h41 => ?_) (fun h41 => ?_)
        · refine aw_iinc (lst' := [_, _, _, _, some (aI ((w + 1 : Nat) : Int)), _, _]) d_Fe_showsOne_46 (Nat.le_of_ble_eq_true rfl) rfl (by unfold inR; omega) rfl ?_
          refine aw_goto (tgt := 3) d_Fe_showsOne_49 rfl ?_
          exact ih (N - (w + 1)) (by omega) (w + 1) _ _ rfl ⟨by omega, hw.2.trans (sF_miss (by omega) (by show (S.getLsbD w && _) = false; rw [decide_eq_false (show ¬ ¬ (mL μ 62 (16 * c + w) &&& S) = 0 from fun z => z (hz40.mp h41)), Bool.and_false]))⟩
        · refine aw_iconst d_Fe_showsOne_44 (in_c rfl) ?_
          exact aw_zret d_Fe_showsOne_45 rfl rfl ⟨by rw [show shO μ N S c = true from by unfold shO; rw [hw.2, sF_hit (by omega) (by show (S.getLsbD w && _) = true; rw [h32, decide_eq_true (show ¬ (mL μ 62 (16 * c + w) &&& S) = 0 from fun z => h41 (hz40.mpr z))]; rfl)]; rfl]; rfl, rfl, rfl⟩
  refine aw_iconst d_Fe_showsOne_0 (in_c rfl) ?_
  refine aw_istore (lst' := [_, _, _, _, _, _, _]) d_Fe_showsOne_1 (Nat.le_of_ble_eq_true rfl) rfl ?_
  exact key (N - 0) 0 none none rfl ⟨Nat.zero_le _, rfl⟩
set_option maxRecDepth 100000 in
theorem m_Fe_showsAll {d : Nat} (hd : 2 ≤ d) (hR : ∀ k j, mR μ k j = R0 pg k j) {N : Nat} (hN : mI μ 61 2 = (N : Int)) (hN16 : N ≤ 16) {k : Nat} (hK : mI μ 61 1 = (k : Int)) (hk4 : k ≤ 4) (hs : inR (mI μ 61 4)) {S : BitVec 64} : AM G false d 0 0 y_Fe_showsAll [aP 61, aL S] 94 μ (Qe (some (aI (bI (shA μ k N S)))) 94 μ) := by
  refine am_of (n := 1) pf_Fe_showsAll (Nat.le_of_ble_eq_true rfl) (by intro v hv; simp only [List.mem_cons, List.not_mem_nil, or_false] at hv; rcases hv with rfl | rfl <;> first | trivial | assumption | exact in_c rfl | exact bI_in _ | (show inR _; unfold inR; omega)) rfl ?_
  have key : ∀ (m : Nat) (c : Nat), k - c = m → (c ≤ k ∧ sF (fun c => decide (¬ ush (mI μ 61 4) c % 2 = 0) && !shO μ N S c) (k - 0) 0 = sF (fun c => decide (¬ ush (mI μ 61 4) c % 2 = 0) && !shO μ N S c) (k - c) c) → AW G false y_Fe_showsAll d 0 0 (Qe (some (aI (bI (shA μ k N S)))) 94 μ) 2 [some (aP 61), some (aL S), none, some (aI (c : Int))] [] 94 μ := by
    intro m
    induction m using Nat.strongRecOn with | _ m ih =>
    intro c hm hw
    refine aw_iload_n d_Fe_showsAll_2 rfl rfl ?_
    refine aw_aload_n d_Fe_showsAll_3 rfl rfl ?_
    refine aw_getI fd_Fe_conditionCount lk_Fe_15 (by omega) rfl d_Fe_showsAll_4 ?_
    refine aw_tv (v' := (k : Int)) hK ?_
    refine aw_icmp_ge (tgt := 38) d_Fe_showsAll_7 rfl (fun h7 => ?_) (fun h7 => ?_)
    · refine aw_iconst d_Fe_showsAll_38 (in_c rfl) ?_
      exact aw_zret d_Fe_showsAll_39 rfl rfl ⟨by rw [show shA μ k N S = true from by unfold shA; rw [hw.2, sF_end (by omega)]; rfl]; rfl, rfl, rfl⟩
    · refine aw_aload_n d_Fe_showsAll_10 rfl rfl ?_
      refine aw_getI fd_Fe_solved lk_Fe_26 (by omega) rfl d_Fe_showsAll_11 ?_
      refine aw_iload_n d_Fe_showsAll_14 rfl rfl ?_
      refine aw_se (as := [_, _]) rfl cs_Fe_64 d_Fe_showsAll_15 (Nat.le_of_ble_eq_true rfl) (d' := d - 1) (by omega) (m_MC_hasBit (by omega) hs (by omega)) ?_
      refine aw_if_eq (tgt := 32) d_Fe_showsAll_18 rfl (fun h18 => ?_) (fun h18 => ?_)
      · replace h18 := iti_z h18
        refine aw_iinc (lst' := [_, _, _, some (aI ((c + 1 : Nat) : Int))]) d_Fe_showsAll_32 (Nat.le_of_ble_eq_true rfl) rfl (by unfold inR; omega) rfl ?_
        refine aw_goto (tgt := 2) d_Fe_showsAll_35 rfl ?_
        exact ih (k - (c + 1)) (by omega) (c + 1) rfl ⟨by omega, hw.2.trans (sF_miss (by omega) (by show (decide _ && _) = false; rw [decide_eq_false (fun z => z h18)]; rfl))⟩
      · replace h18 := iti_n h18
        refine aw_aload_n d_Fe_showsAll_21 rfl rfl ?_
        refine aw_lload_n d_Fe_showsAll_22 rfl rfl ?_
        refine aw_iload_n d_Fe_showsAll_23 rfl rfl ?_
        refine aw_ve (as := [_, _]) rfl cv_Fe_68 (by omega) rfl rfl d_Fe_showsAll_24 (Nat.le_of_ble_eq_true rfl) (d' := d - 1) (by omega) (m_Fe_showsOne (by omega) hR hN hN16 (by omega)) ?_
        refine aw_if_ne (tgt := 32) d_Fe_showsAll_27 rfl (fun h27 => ?_) (fun h27 => ?_)
        · replace h27 := bn h27
          refine aw_iinc (lst' := [_, _, _, some (aI ((c + 1 : Nat) : Int))]) d_Fe_showsAll_32 (Nat.le_of_ble_eq_true rfl) rfl (by unfold inR; omega) rfl ?_
          refine aw_goto (tgt := 2) d_Fe_showsAll_35 rfl ?_
          exact ih (k - (c + 1)) (by omega) (c + 1) rfl ⟨by omega, hw.2.trans (sF_miss (by omega) (by show (decide _ && _) = false; rw [h27]; simp))⟩
        · replace h27 := bz h27
          refine aw_iconst d_Fe_showsAll_30 (in_c rfl) ?_
          exact aw_zret d_Fe_showsAll_31 rfl rfl ⟨by rw [show shA μ k N S = false from by unfold shA; rw [hw.2, sF_hit (by omega) (by show (decide _ && _) = true; rw [decide_eq_true h18, h27]; rfl)]; rfl]; rfl, rfl, rfl⟩
  refine aw_iconst d_Fe_showsAll_0 (in_c rfl) ?_
  refine aw_istore_n (lst' := [_, _, _, _]) d_Fe_showsAll_1 rfl (Nat.le_of_ble_eq_true rfl) rfl ?_
  exact key (k - 0) 0 rfl ⟨Nat.zero_le _, rfl⟩
set_option maxRecDepth 100000 in
theorem m_Fe_isEnough_0 {d : Nat} (hd : 3 ≤ d) (hR : ∀ k j, mR μ k j = R0 pg k j) {N : Nat} (hN : mI μ 61 2 = (N : Int)) (hN16 : N ≤ 16) {k : Nat} (hK : mI μ 61 1 = (k : Int)) (hk4 : k ≤ 4) (hs : inR (mI μ 61 4)) {F : BitVec 64} (hF : mL μ 61 3 = F) {S : BitVec 64} {a : Nat} (ha : a ≤ N) : AM G false d 0 0 y_Fe_isEnough [aP 61, aL S, aI (a : Int), aI 0] 94 μ (Qe (some (aI (bI (enB F N (shA μ k N) 0 S a)))) 94 μ) := by
  refine am_of (n := 1) pf_Fe_isEnough (Nat.le_of_ble_eq_true rfl) (by intro v hv; simp only [List.mem_cons, List.not_mem_nil, or_false] at hv; rcases hv with rfl | rfl | rfl | rfl <;> first | trivial | assumption | exact in_c rfl | exact bI_in _ | (show inR _; unfold inR; omega)) rfl ?_
  refine aw_iload d_Fe_isEnough_0 rfl ?_
  refine aw_if_ne (tgt := 11) d_Fe_isEnough_2 rfl (fun h2 => absurd h2 (fun z => z rfl)) (fun h2 => ?_)
  refine aw_aload_n d_Fe_isEnough_5 rfl rfl ?_
  refine aw_lload_n d_Fe_isEnough_6 rfl rfl ?_
  refine aw_ve (as := [_]) rfl cv_Fe_56 (by omega) rfl rfl d_Fe_isEnough_7 (Nat.le_of_ble_eq_true rfl) (d' := d - 1) (by omega) (m_Fe_showsAll (by omega) hR hN hN16 hK hk4 hs) ?_
  exact aw_zret d_Fe_isEnough_10 rfl (bI_nr _) ⟨rfl, rfl, rfl⟩
set_option maxRecDepth 100000 in
theorem m_Fe_isEnough_1 {d : Nat} (hd : 4 ≤ d) (hR : ∀ k j, mR μ k j = R0 pg k j) {N : Nat} (hN : mI μ 61 2 = (N : Int)) (hN16 : N ≤ 16) {k : Nat} (hK : mI μ 61 1 = (k : Int)) (hk4 : k ≤ 4) (hs : inR (mI μ 61 4)) {F : BitVec 64} (hF : mL μ 61 3 = F) {mo mo1 : Nat} (e1 : mo1 = mo + 1) (hmo : mo < 16) (ihE : ∀ d', mo + 3 ≤ d' → ∀ (S : BitVec 64) (a : Nat), a ≤ N → AM G false d' 0 0 y_Fe_isEnough [aP 61, aL S, aI (a : Int), aI (mo : Int)] 94 μ (Qe (some (aI (bI (enB F N (shA μ k N) mo S a)))) 94 μ)) (hd4 : mo + 4 ≤ d) {S : BitVec 64} {a : Nat} (ha : a ≤ N) : AM G false d 0 0 y_Fe_isEnough [aP 61, aL S, aI (a : Int), aI (mo1 : Int)] 94 μ (Qe (some (aI (bI (enB F N (shA μ k N) (mo + 1) S a)))) 94 μ) := by
  refine am_of (n := 1) pf_Fe_isEnough (Nat.le_of_ble_eq_true rfl) (by intro v hv; simp only [List.mem_cons, List.not_mem_nil, or_false] at hv; rcases hv with rfl | rfl | rfl | rfl <;> first | trivial | assumption | exact in_c rfl | exact bI_in _ | (show inR _; unfold inR; omega)) rfl ?_
  have key : ∀ (m : Nat) (w : Nat), N - w = m → (w ≤ N ∧ sF (fun w => F.getLsbD w && enB F N (shA μ k N) mo (S ||| ((1 : BitVec 64) <<< w)) (w + 1)) (N - a) a = sF (fun w => F.getLsbD w && enB F N (shA μ k N) mo (S ||| ((1 : BitVec 64) <<< w)) (w + 1)) (N - w) w) → AW G false y_Fe_isEnough d 0 0 (Qe (some (aI (bI (enB F N (shA μ k N) (mo + 1) S a)))) 94 μ) 14 [some (aP 61), some (aL S), none, some (aI (a : Int)), some (aI (mo1 : Int)), some (aI (w : Int))] [] 94 μ := by
    intro m
    induction m using Nat.strongRecOn with | _ m ih =>
    intro w hm hw
    refine aw_iload d_Fe_isEnough_14 rfl ?_
    refine aw_aload_n d_Fe_isEnough_16 rfl rfl ?_
    refine aw_getI fd_Fe_wordCount lk_Fe_19 (by omega) rfl d_Fe_isEnough_17 ?_
    refine aw_tv (v' := (N : Int)) hN ?_
    refine aw_icmp_ge (tgt := 64) d_Fe_isEnough_20 rfl (fun h20 => ?_) (fun h20 => ?_)
    · refine aw_iconst d_Fe_isEnough_64 (in_c rfl) ?_
      exact aw_zret d_Fe_isEnough_65 rfl rfl ⟨by rw [show enB F N (shA μ k N) (mo + 1) S a = false from by rw [enB, hw.2, sF_end (by omega)]; rfl]; rfl, rfl, rfl⟩
    · refine aw_aload_n d_Fe_isEnough_23 rfl rfl ?_
      refine aw_getL fd_Fe_feasibleWords lk_Fe_22 (by omega) rfl d_Fe_isEnough_24 ?_
      refine aw_tl (v' := F) hF ?_
      refine aw_iload d_Fe_isEnough_27 rfl ?_
      refine aw_se (as := [_, _]) rfl cs_Fe_60 d_Fe_isEnough_29 (Nat.le_of_ble_eq_true rfl) (d' := d - 1) (by omega) (m_MC_contains (by omega) (by omega)) ?_
      refine aw_if_eq (tgt := 58) d_Fe_isEnough_32 rfl (fun h32 => ?_) (fun h32 => ?_)
      · replace h32 := ite_z h32
        refine aw_iinc (lst' := [_, _, _, _, _, some (aI ((w + 1 : Nat) : Int))]) d_Fe_isEnough_58 (Nat.le_of_ble_eq_true rfl) rfl (by unfold inR; omega) rfl ?_
        refine aw_goto (tgt := 14) d_Fe_isEnough_61 rfl ?_
        exact ih (N - (w + 1)) (by omega) (w + 1) rfl ⟨by omega, hw.2.trans (sF_miss (by omega) (by show (F.getLsbD w && _) = false; rw [show F.getLsbD w = false from by simpa using h32]; rfl))⟩
      · replace h32 := ite_n h32
        refine aw_aload_n d_Fe_isEnough_35 rfl rfl ?_
        refine aw_lload_n d_Fe_isEnough_36 rfl rfl ?_
        refine aw_lconst (b := 1) d_Fe_isEnough_37 rfl ?_
        refine aw_iload d_Fe_isEnough_38 rfl ?_
        refine aw_lshl (k0 := w) rfl (by omega) d_Fe_isEnough_40 ?_
        refine aw_lor d_Fe_isEnough_41 ?_
        refine aw_iload d_Fe_isEnough_42 rfl ?_
        refine aw_iconst d_Fe_isEnough_44 (in_c rfl) ?_
        refine aw_iadd d_Fe_isEnough_45 (by unfold inR; omega) ?_
        refine aw_tv (v' := ((w + 1 : Nat) : Int)) rfl ?_
        refine aw_iload d_Fe_isEnough_46 rfl ?_
        refine aw_iconst d_Fe_isEnough_48 (in_c rfl) ?_
        refine aw_pc (pc' := 49) rfl ?_
        refine aw_isub d_Fe_isEnough_49 (by unfold inR; omega) ?_
        refine aw_tv (v' := (mo : Int)) (by omega) ?_
        refine aw_ve (as := [_, _, _]) rfl cv_Fe_48 (by omega) rfl rfl d_Fe_isEnough_50 (Nat.le_of_ble_eq_true rfl) (d' := d - 1) (by omega) (ihE (d - 1) (by omega) _ (w + 1) (by omega)) ?_
        refine aw_if_eq (tgt := 58) d_Fe_isEnough_53 rfl (fun h53 => ?_) (fun h53 => ?_)
        · replace h53 := bz h53
          refine aw_iinc (lst' := [_, _, _, _, _, some (aI ((w + 1 : Nat) : Int))]) d_Fe_isEnough_58 (Nat.le_of_ble_eq_true rfl) rfl (by unfold inR; omega) rfl ?_
          refine aw_goto (tgt := 14) d_Fe_isEnough_61 rfl ?_
          exact ih (N - (w + 1)) (by omega) (w + 1) rfl ⟨by omega, hw.2.trans (sF_miss (by omega) (by show (F.getLsbD w && _) = false; rw [h53, Bool.and_false]))⟩
        · replace h53 := bn h53
          refine aw_iconst d_Fe_isEnough_56 (in_c rfl) ?_
          exact aw_zret d_Fe_isEnough_57 rfl rfl ⟨by rw [show enB F N (shA μ k N) (mo + 1) S a = true from by rw [enB, hw.2, sF_hit (by omega) (by show (F.getLsbD w && _) = true; rw [h32, h53]; rfl)]; rfl]; rfl, rfl, rfl⟩
  refine aw_iload d_Fe_isEnough_0 rfl ?_
  refine aw_if_ne (tgt := 11) d_Fe_isEnough_2 rfl (fun h2 => ?_) (fun h2 => absurd h2 (by omega))
  refine aw_iload_n d_Fe_isEnough_11 rfl rfl ?_
  refine aw_istore (lst' := [_, _, _, _, _, _]) d_Fe_isEnough_12 (Nat.le_of_ble_eq_true rfl) rfl ?_
  exact key (N - a) a rfl ⟨ha, rfl⟩
theorem m_Fe_isEnough (hR : ∀ k j, mR μ k j = R0 pg k j) {N : Nat} (hN : mI μ 61 2 = (N : Int)) (hN16 : N ≤ 16) {k : Nat} (hK : mI μ 61 1 = (k : Int)) (hk4 : k ≤ 4) (hs : inR (mI μ 61 4)) {F : BitVec 64} (hF : mL μ 61 3 = F) : ∀ (mo : Nat), mo < 16 → ∀ d', mo + 3 ≤ d' → ∀ (S : BitVec 64) (a : Nat), a ≤ N → AM G false d' 0 0 y_Fe_isEnough [aP 61, aL S, aI (a : Int), aI (mo : Int)] 94 μ (Qe (some (aI (bI (enB F N (shA μ k N) mo S a)))) 94 μ)
  | 0, _, d', hd', S, a, ha => m_Fe_isEnough_0 (by omega) hR hN hN16 hK hk4 hs hF ha
  | mo + 1, hm, d', hd', S, a, ha => m_Fe_isEnough_1 (by omega) hR hN hN16 hK hk4 hs hF rfl (by omega) (m_Fe_isEnough hR hN hN16 hK hk4 hs hF mo (by omega)) (by omega) ha
set_option maxRecDepth 100000 in
theorem m_Fe_findPartners {d : Nat} (hd : 3 ≤ d) {D : Nat} (hD : isD D) (hR : ∀ k j, mR μ k j = R0 pg k j) {k : Nat} (hk : mI μ D 7 = (k : Int)) (hk4 : k ≤ 4) (hN : mI μ 61 2 = ((2 ^ k : Nat) : Int)) {s : Nat} (hs : mI μ 61 4 = (s : Int)) (hs16 : s < 16) {c : Nat} {q : Int} (hc : c < k) (hq0 : 0 ≤ q) (hq2 : q ≤ 2) (hst : inR (mI μ (D + 4) c)) : AM G false d 0 0 y_Fe_findPartners [aP 61, aP D, aI (c : Int), aI q] 94 μ (Qe none 94 (fpM D k c q μ (2 ^ k))) := by
  refine am_of (n := 3) pf_Fe_findPartners (Nat.le_of_ble_eq_true rfl) (by intro v hv; simp only [List.mem_cons, List.not_mem_nil, or_false] at hv; rcases hv with rfl | rfl | rfl | rfl <;> first | trivial | assumption | exact in_c rfl | exact bI_in _ | (show inR _; unfold inR; omega)) rfl ?_
  have hpw : 2 ^ k ≤ 16 := Nat.pow_le_pow_right (n := 2) (by omega) hk4
  have h61 := isD_61 hD
  have key : ∀ (m : Nat) (w : Nat) (o5 o6 : Option aV), 2 ^ k - w = m → w ≤ 2 ^ k → AW G false y_Fe_findPartners d 0 0 (Qe none 94 (fpM D k c q μ (2 ^ k))) 3 [some (aP 61), some (aP D), some (aI (c : Int)), some (aI q), some (aI (w : Int)), o5, o6] [] 94 (fpM D k c q μ w) := by
    intro m
    induction m using Nat.strongRecOn with | _ m ih =>
    intro w o5 o6 hm hw
    have hFr := fpM_fr D k c q μ w
    have hkw : mI (fpM D k c q μ w) D 7 = (k : Int) := (hFr.1 _ _ (by omega)).trans hk
    have hRw : ∀ a b, mR (fpM D k c q μ w) a b = R0 pg a b := fun a b => (hFr.2.2 a b).trans (hR a b)
    have hNw : mI (fpM D k c q μ w) 61 2 = ((2 ^ k : Nat) : Int) := ((fpM_in D k c q μ w).1 2 (by omega)).trans hN
    have hstw : inR (mI (fpM D k c q μ w) (D + 4) c) := by rw [hFr.1 _ _ (by omega)]; exact hst
    obtain ⟨-, -, t, ht1, ht2, -⟩ := fpM_has (D := D) (k := k) (c := c) (q := q) hs hs16 (by omega) w (by omega)
    refine aw_iload d_Fe_findPartners_3 rfl ?_
    refine aw_aload_n d_Fe_findPartners_5 rfl rfl ?_
    refine aw_getI fd_Fe_wordCount lk_Fe_19 (by omega) rfl d_Fe_findPartners_6 ?_
    refine aw_tv (v' := ((2 ^ k : Nat) : Int)) hNw ?_
    refine aw_icmp_ge (tgt := 61) d_Fe_findPartners_9 rfl (fun h9 => ?_) (fun h9 => ?_)
    · exact aw_vret d_Fe_findPartners_61 rfl ⟨rfl, rfl, by rw [show w = 2 ^ k by omega]⟩
    · refine aw_aload_n d_Fe_findPartners_12 rfl rfl ?_
      refine aw_iload d_Fe_findPartners_13 rfl ?_
      refine aw_iload_n d_Fe_findPartners_15 rfl rfl ?_
      refine aw_iload_n d_Fe_findPartners_16 rfl rfl ?_
      refine aw_ve (as := [_, _, _]) rfl cv_Fe_52 (by have := ltD hD; omega) (shD0 hD) rfl d_Fe_findPartners_17 (Nat.le_of_ble_eq_true rfl) (d' := d - 1) (by omega) (m_De_partnersOf (μ := (fpM D k c q μ w)) (by omega) hD hRw hkw (by omega) (by omega) hc hq0 hq2 hstw) ?_
      refine aw_tl (v' := ptF μ D k c q w) (ptF_fr hFr h61 k c q w) ?_
      refine aw_lstore (lst' := [_, _, _, _, _, _, _]) d_Fe_findPartners_20 (Nat.le_of_ble_eq_true rfl) rfl ?_
      refine aw_aload_n d_Fe_findPartners_22 rfl rfl ?_
      refine aw_getR fd_Fe_partners lk_Fe_9 (by omega) rfl d_Fe_findPartners_23 (hRw _ _) ?_
      refine aw_iload_n d_Fe_findPartners_26 rfl rfl ?_
      refine aw_bipush (z := 16) d_Fe_findPartners_27 (in_c rfl) rfl ?_
      refine aw_imul d_Fe_findPartners_29 (by unfold inR; omega) ?_
      refine aw_pc (pc' := 30) rfl ?_
      refine aw_iload d_Fe_findPartners_30 rfl ?_
      refine aw_iadd d_Fe_findPartners_32 (by unfold inR; omega) ?_
      refine aw_lload d_Fe_findPartners_33 rfl ?_
      refine aw_last (n := 16 * c + w) (by omega) rfl (by omega) (by omega) d_Fe_findPartners_35 ?_
      refine aw_lload d_Fe_findPartners_36 rfl ?_
      refine aw_lconst (b := 0) d_Fe_findPartners_38 rfl ?_
      refine aw_lcmp d_Fe_findPartners_39 (fun z39 hz39 => ?_)
      refine aw_if_eq (tgt := 55) d_Fe_findPartners_40 rfl (fun h40 => ?_) (fun h40 => ?_)
      · refine aw_mm (μ' := fpM D k c q μ (w + 1)) (by rw [fpM, if_pos (hz39.mp h40)]) ?_
        refine aw_iinc (lst' := [_, _, _, _, some (aI ((w + 1 : Nat) : Int)), _, _]) d_Fe_findPartners_55 (Nat.le_of_ble_eq_true rfl) rfl (by unfold inR; omega) rfl ?_
        refine aw_goto (tgt := 3) d_Fe_findPartners_58 rfl ?_
        exact ih (2 ^ k - (w + 1)) (by omega) (w + 1) _ _ rfl (by omega)
      · refine aw_aload_n d_Fe_findPartners_43 rfl rfl ?_
        refine aw_dup d_Fe_findPartners_44 rfl ?_
        refine aw_getI fd_Fe_solved lk_Fe_26 (by omega) rfl d_Fe_findPartners_45 ?_
        refine aw_tv (v' := (((mI (fpM D k c q μ w) 61 4).toNat : Nat) : Int)) (by rw [mI_wL, ht1]; rfl) ?_
        refine aw_iconst d_Fe_findPartners_48 (in_c rfl) ?_
        refine aw_iload_n d_Fe_findPartners_49 rfl rfl ?_
        refine aw_ishl (a := 1) (k0 := c) rfl rfl (by omega) (by have := Nat.pow_le_pow_right (n := 2) (by omega) (show c ≤ 3 by omega); omega) d_Fe_findPartners_50 ?_
        refine aw_ior (a := (mI (fpM D k c q μ w) 61 4).toNat) (b := 1 * 2 ^ c) rfl rfl d_Fe_findPartners_51 ?_
        refine aw_tv (v' := (((mI (fpM D k c q μ w) 61 4).toNat ||| 2 ^ c : Nat) : Int)) (by rw [Nat.one_mul]) ?_
        refine aw_putI fd_Fe_solved lk_Fe_26 (by omega) rfl d_Fe_findPartners_52 (Or.inl rfl) ?_
        refine aw_mm (μ' := fpM D k c q μ (w + 1)) (by rw [fpM, if_neg (fun z => h40 (hz39.mpr z))]) ?_
        refine aw_iinc (lst' := [_, _, _, _, some (aI ((w + 1 : Nat) : Int)), _, _]) d_Fe_findPartners_55 (Nat.le_of_ble_eq_true rfl) rfl (by unfold inR; omega) rfl ?_
        refine aw_goto (tgt := 3) d_Fe_findPartners_58 rfl ?_
        exact ih (2 ^ k - (w + 1)) (by omega) (w + 1) _ _ rfl (by omega)
  refine aw_iconst d_Fe_findPartners_0 (in_c rfl) ?_
  refine aw_istore (lst' := [_, _, _, _, _, _, _]) d_Fe_findPartners_1 (Nat.le_of_ble_eq_true rfl) rfl ?_
  refine aw_mm (μ' := fpM D k c q μ 0) rfl ?_
  exact key (2 ^ k - 0) 0 none none rfl (Nat.zero_le _)
set_option maxRecDepth 100000 in
theorem m_Fe_count {d : Nat} (hd : 20 ≤ d) {D : Nat} (hD : isD D) (hR : ∀ k j, mR μ k j = R0 pg k j) {k : Nat} (hk : mI μ D 7 = (k : Int)) (hk4 : k ≤ 4) {q : Int} (hq0 : 0 ≤ q) (hq2 : q ≤ 2) (hst : ∀ c, inR (mI μ (D + 4) c)) : AM G false d 0 0 y_Fe_count [aP 61, aP D, aI q] 94 μ (Qe (some (aI ((fw (mL μ D 9) (2 ^ k) (shA (feM μ D k q k) k (2 ^ k)) : Nat) : Int))) 94 (feM μ D k q k)) := by
  refine am_of (n := 1) pf_Fe_count (Nat.le_of_ble_eq_true rfl) (by intro v hv; simp only [List.mem_cons, List.not_mem_nil, or_false] at hv; rcases hv with rfl | rfl | rfl <;> first | trivial | assumption | exact in_c rfl | exact bI_in _ | (show inR _; unfold inR; omega)) rfl ?_
  have hpw : 2 ^ k ≤ 16 := Nat.pow_le_pow_right (n := 2) (by omega) hk4
  have h61 := isD_61 hD
  have hFk := feM_fr μ D k q k
  have hI := feM_in μ D k q k
  have hRk : ∀ a b, mR (feM μ D k q k) a b = R0 pg a b := fun a b => (hFk.2.2 a b).trans (hR a b)
  obtain ⟨-, t0, hs1, hs2, -⟩ := feM_has (μ := μ) (q := q) h61 hk4 k (Nat.le_refl _)
  have key2 : ∀ (m : Nat) (w : Nat), 2 ^ k - w = m → (w ≤ 2 ^ k ∧ sF (fun n => enB (mL μ D 9) (2 ^ k) (shA (feM μ D k q k) k (2 ^ k)) n 0 0) (2 ^ k - 0) 0 = sF (fun n => enB (mL μ D 9) (2 ^ k) (shA (feM μ D k q k) k (2 ^ k)) n 0 0) (2 ^ k - w) w) → AW G false y_Fe_count d 0 0 (Qe (some (aI ((fw (mL μ D 9) (2 ^ k) (shA (feM μ D k q k) k (2 ^ k)) : Nat) : Int))) 94 (feM μ D k q k)) 60 [some (aP 61), some (aP D), some (aI q), some (aI (w : Int))] [] 94 (feM μ D k q k) := by
    intro m
    induction m using Nat.strongRecOn with | _ m ih =>
    intro w hm hw
    refine aw_iload_n d_Fe_count_60 rfl rfl ?_
    refine aw_aload_n d_Fe_count_61 rfl rfl ?_
    refine aw_getI fd_Fe_wordCount lk_Fe_19 (by omega) rfl d_Fe_count_62 ?_
    refine aw_tv (v' := ((2 ^ k : Nat) : Int)) hI.2.1 ?_
    refine aw_icmp_ge (tgt := 86) d_Fe_count_65 rfl (fun h65 => ?_) (fun h65 => ?_)
    · refine aw_aload_n d_Fe_count_86 rfl rfl ?_
      refine aw_getI fd_Fe_wordCount lk_Fe_19 (by omega) rfl d_Fe_count_87 ?_
      refine aw_tv (v' := ((2 ^ k : Nat) : Int)) hI.2.1 ?_
      exact aw_iret d_Fe_count_90 rfl ⟨by rw [show fw (mL μ D 9) (2 ^ k) (shA (feM μ D k q k) k (2 ^ k)) = 2 ^ k from by unfold fw; rw [hw.2, sF_end (by omega)]; rfl], rfl, rfl⟩
    · refine aw_aload_n d_Fe_count_68 rfl rfl ?_
      refine aw_lconst (b := 0) d_Fe_count_69 rfl ?_
      refine aw_iconst d_Fe_count_70 (in_c rfl) ?_
      refine aw_tv (v' := ((0 : Nat) : Int)) rfl ?_
      refine aw_iload_n d_Fe_count_71 rfl rfl ?_
      refine aw_ve (as := [_, _, _]) rfl cv_Fe_48 (by omega) rfl rfl d_Fe_count_72 (Nat.le_of_ble_eq_true rfl) (d' := d - 1) (by omega) (m_Fe_isEnough (μ := (feM μ D k q k)) hRk hI.2.1 (by omega) hI.1 hk4 (by rw [hs1]; unfold inR; omega) hI.2.2 w (by omega) (d - 1) (by omega) 0 0 (Nat.zero_le _)) ?_
      refine aw_if_eq (tgt := 80) d_Fe_count_75 rfl (fun h75 => ?_) (fun h75 => ?_)
      · replace h75 := bz h75
        refine aw_iinc (lst' := [_, _, _, some (aI ((w + 1 : Nat) : Int))]) d_Fe_count_80 (Nat.le_of_ble_eq_true rfl) rfl (by unfold inR; omega) rfl ?_
        refine aw_goto (tgt := 60) d_Fe_count_83 rfl ?_
        exact ih (2 ^ k - (w + 1)) (by omega) (w + 1) rfl ⟨by omega, hw.2.trans (sF_miss (f := (fun n => enB (mL μ D 9) (2 ^ k) (shA (feM μ D k q k) k (2 ^ k)) n 0 0)) (by omega) h75)⟩
      · replace h75 := bn h75
        refine aw_iload_n d_Fe_count_78 rfl rfl ?_
        exact aw_iret d_Fe_count_79 rfl ⟨by rw [show fw (mL μ D 9) (2 ^ k) (shA (feM μ D k q k) k (2 ^ k)) = w from by unfold fw; rw [hw.2, sF_hit (f := (fun n => enB (mL μ D 9) (2 ^ k) (shA (feM μ D k q k) k (2 ^ k)) n 0 0)) (w := w) (by omega) h75]; rfl], rfl, rfl⟩
  have key1 : ∀ (m : Nat) (c : Nat), k - c = m → c ≤ k → AW G false y_Fe_count d 0 0 (Qe (some (aI ((fw (mL μ D 9) (2 ^ k) (shA (feM μ D k q k) k (2 ^ k)) : Nat) : Int))) 94 (feM μ D k q k)) 37 [some (aP 61), some (aP D), some (aI q), some (aI (c : Int))] [] 94 (feM μ D k q c) := by
    intro m
    induction m using Nat.strongRecOn with | _ m ih =>
    intro c hm hc
    have hFc := feM_fr μ D k q c
    have hIc := feM_in μ D k q c
    obtain ⟨-, t, ht1, ht2, -⟩ := feM_has (μ := μ) (q := q) h61 hk4 c hc
    have hkc : mI (feM μ D k q c) D 7 = (k : Int) := (hFc.1 _ _ (by omega)).trans hk
    have hRc : ∀ a b, mR (feM μ D k q c) a b = R0 pg a b := fun a b => (hFc.2.2 a b).trans (hR a b)
    have hstc : inR (mI (feM μ D k q c) (D + 4) c) := by rw [hFc.1 _ _ (by omega)]; exact hst c
    refine aw_iload_n d_Fe_count_37 rfl rfl ?_
    refine aw_aload_n d_Fe_count_38 rfl rfl ?_
    refine aw_getI fd_Fe_conditionCount lk_Fe_15 (by omega) rfl d_Fe_count_39 ?_
    refine aw_tv (v' := (k : Int)) hIc.1 ?_
    refine aw_icmp_ge (tgt := 58) d_Fe_count_42 rfl (fun h42 => ?_) (fun h42 => ?_)
    · refine aw_mm (μ' := (feM μ D k q k)) (by rw [show c = k by omega]) ?_
      refine aw_iconst d_Fe_count_58 (in_c rfl) ?_
      refine aw_istore_n (lst' := [_, _, _, _]) d_Fe_count_59 rfl (Nat.le_of_ble_eq_true rfl) rfl ?_
      exact key2 (2 ^ k - 0) 0 rfl ⟨Nat.zero_le _, rfl⟩
    · refine aw_aload_n d_Fe_count_45 rfl rfl ?_
      refine aw_aload_n d_Fe_count_46 rfl rfl ?_
      refine aw_iload_n d_Fe_count_47 rfl rfl ?_
      refine aw_iload_n d_Fe_count_48 rfl rfl ?_
      refine aw_ve (as := [_, _, _]) rfl cv_Fe_44 (by omega) rfl rfl d_Fe_count_49 (Nat.le_of_ble_eq_true rfl) (d' := d - 1) (by omega) (m_Fe_findPartners (μ := (feM μ D k q c)) (by omega) hD hRc hkc hk4 hIc.2.1 ht1 ht2 (by omega) hq0 hq2 hstc) ?_
      refine aw_mm (μ' := (feM μ D k q (c + 1))) rfl ?_
      refine aw_iinc (lst' := [_, _, _, some (aI ((c + 1 : Nat) : Int))]) d_Fe_count_52 (Nat.le_of_ble_eq_true rfl) rfl (by unfold inR; omega) rfl ?_
      refine aw_goto (tgt := 37) d_Fe_count_55 rfl ?_
      exact ih (k - (c + 1)) (by omega) (c + 1) rfl (by omega)
  refine aw_aload_n d_Fe_count_0 rfl rfl ?_
  refine aw_aload_n d_Fe_count_1 rfl rfl ?_
  refine aw_ve (as := []) rfl cv_Fe_29 (by have := ltD hD; omega) (shD0 hD) rfl d_Fe_count_2 (Nat.le_of_ble_eq_true rfl) (d' := d - 1) (by omega) (m_De_size (by omega) hD) ?_
  refine aw_tv (v' := (k : Int)) hk ?_
  refine aw_iconst d_Fe_count_5 (in_c rfl) ?_
  refine aw_se (as := [_, _]) rfl cs_Fe_35 d_Fe_count_6 (Nat.le_of_ble_eq_true rfl) (d' := d - 1) (by omega) (m_JM_min (by omega) (by unfold inR; omega) (in_c rfl)) ?_
  refine aw_tv (v' := (k : Int)) (if_pos (by omega)) ?_
  refine aw_putI fd_Fe_conditionCount lk_Fe_15 (by omega) rfl d_Fe_count_9 (Or.inl rfl) ?_
  refine aw_aload_n d_Fe_count_12 rfl rfl ?_
  refine aw_iconst d_Fe_count_13 (in_c rfl) ?_
  refine aw_aload_n d_Fe_count_14 rfl rfl ?_
  refine aw_getI fd_Fe_conditionCount lk_Fe_15 (by omega) rfl d_Fe_count_15 ?_
  refine aw_tv (v' := (k : Int)) rfl ?_
  refine aw_ishl (a := 1) (k0 := k) rfl rfl (by omega) (by omega) d_Fe_count_18 ?_
  refine aw_tv (v' := ((2 ^ k : Nat) : Int)) (by rw [Nat.one_mul]) ?_
  refine aw_pc (pc' := 19) rfl ?_
  refine aw_putI fd_Fe_wordCount lk_Fe_19 (by omega) rfl d_Fe_count_19 (Or.inl rfl) ?_
  refine aw_aload_n d_Fe_count_22 rfl rfl ?_
  refine aw_aload_n d_Fe_count_23 rfl rfl ?_
  refine aw_ve (as := []) rfl cv_Fe_41 (by have := ltD hD; omega) (shD0 hD) rfl d_Fe_count_24 (Nat.le_of_ble_eq_true rfl) (d' := d - 1) (by omega) (m_De_feasibleWords (by omega) hD) ?_
  refine aw_tl (v' := mL μ D 9) rfl ?_
  refine aw_putL fd_Fe_feasibleWords lk_Fe_22 (by omega) rfl d_Fe_count_27 (Or.inl rfl) ?_
  refine aw_aload_n d_Fe_count_30 rfl rfl ?_
  refine aw_iconst d_Fe_count_31 (in_c rfl) ?_
  refine aw_putI fd_Fe_solved lk_Fe_26 (by omega) rfl d_Fe_count_32 (Or.inl rfl) ?_
  refine aw_iconst d_Fe_count_35 (in_c rfl) ?_
  refine aw_istore_n (lst' := [_, _, _, _]) d_Fe_count_36 rfl (Nat.le_of_ble_eq_true rfl) rfl ?_
  refine aw_mm (μ' := feM μ D k q 0) rfl ?_
  exact key1 (k - 0) 0 rfl (Nat.zero_le _)
set_option maxRecDepth 100000 in
theorem m_MC_least {d : Nat} (hd : 22 ≤ d) {i : Nat} (hi : (i : Int) < mI μ 0 10) (h4 : mI μ 0 10 ≤ 4) {k : Nat} (hk : mI μ (27 + 8 * i) 7 = (k : Int)) (h6 : k ≤ 6) (hR : ∀ k j, mR μ k j = R0 pg k j) {q : Int} (hq : inR q) (hst : ∀ c, inR (mI μ (27 + 8 * i + 4) c)) : AM G false d 3 18 y_MC_least [aP 0, aI (i : Int), aI q] 94 μ (fun r n9 m => n9 = 94 ∧ ((¬ (0 ≤ q ∧ q ≤ 2) ∧ r = .inr 1 ∧ m = μ) ∨ ((0 ≤ q ∧ q ≤ 2) ∧ ¬ k ≤ 4 ∧ r = .inl (some (aI (-1))) ∧ m = μ) ∨ ((0 ≤ q ∧ q ≤ 2) ∧ k ≤ 4 ∧ r = .inl (some (aI ((fw (mL μ (27 + 8 * i) 9) (2 ^ k) (shA (feM μ (27 + 8 * i) k q k) k (2 ^ k)) : Nat) : Int))) ∧ m = (feM μ (27 + 8 * i) k q k)))) := by
  refine am_of (n := 1) pf_MC_least (Nat.le_of_ble_eq_true rfl) (by intro v hv; simp only [List.mem_cons, List.not_mem_nil, or_false] at hv; rcases hv with rfl | rfl | rfl <;> first | trivial | assumption | exact in_c rfl | exact bI_in _ | (show inR _; unfold inR; omega)) rfl ?_
  refine aw_aload_n d_MC_least_0 rfl rfl ?_
  refine aw_iload_n d_MC_least_1 rfl rfl ?_
  refine aw_ve (as := [_]) rfl cv_MC_140 (by omega) rfl rfl d_MC_least_2 (Nat.le_of_ble_eq_true rfl) (d' := d - 1) (by omega) (m_MC_decisionAt (by omega) hi h4 hR) ?_
  refine aw_astore_n (lst' := [_, _, _, _]) d_MC_least_5 rfl (Nat.le_of_ble_eq_true rfl) rfl ?_
  refine aw_iload_n d_MC_least_6 rfl rfl ?_
  refine aw_sor (as := [_]) rfl cs_MC_182 d_MC_least_7 (Nat.le_of_ble_eq_true rfl) (d' := d - 1) (by omega) (by omega) (by omega) (m_MC_checkCriterion (by omega) hq) (by intro z hz; cases hz) (fun g2 => ⟨rfl, Or.inl ⟨g2, rfl, rfl⟩⟩) (fun g2 => ?_)
  refine aw_aload_n d_MC_least_10 rfl rfl ?_
  refine aw_ve (as := []) rfl cv_MC_144 (by omega) (shD0 (isD_of (show i < 4 by omega))) rfl d_MC_least_11 (Nat.le_of_ble_eq_true rfl) (d' := d - 1) (by omega) (m_De_size (by omega) (isD_of (show i < 4 by omega))) ?_
  refine aw_tv (v' := (k : Int)) hk ?_
  refine aw_iconst d_MC_least_14 (in_c rfl) ?_
  refine aw_icmp_le (tgt := 22) d_MC_least_15 rfl (fun h15 => ?_) (fun h15 => ?_)
  · refine aw_aload_n d_MC_least_22 rfl rfl ?_
    refine aw_getR fd_MC_fewest lk_MC_74 (by omega) rfl d_MC_least_23 (hR _ _) ?_
    refine aw_aload_n d_MC_least_26 rfl rfl ?_
    refine aw_iload_n d_MC_least_27 rfl rfl ?_
    refine aw_ve (as := [_, _]) rfl cv_MC_196 (by omega) rfl rfl d_MC_least_28 (Nat.le_of_ble_eq_true rfl) (d' := d - 1) (by omega) (m_Fe_count (by omega) (isD_of (show i < 4 by omega)) hR hk (by omega) g2.1 g2.2 hst) ?_
    exact aw_iret d_MC_least_31 rfl ⟨rfl, Or.inr (Or.inr ⟨g2, by omega, rfl, rfl⟩)⟩
  · refine aw_iconst d_MC_least_18 (in_c rfl) ?_
    refine aw_goto (tgt := 31) d_MC_least_19 rfl ?_
    exact aw_iret d_MC_least_31 rfl ⟨rfl, Or.inr (Or.inl ⟨g2, by omega, rfl, rfl⟩)⟩
end
