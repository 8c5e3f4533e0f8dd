/-! the class: truths -/
section
theorem and_256 {s t : Nat} (h : s < 256) : s &&& t < 256 := Nat.lt_of_le_of_lt (Nat.and_le_left) h
/-- the rows of the tree, up to n nodes, as they may be -/
def okT (J L R : Nat → Int) (s n : Nat) : Prop := ∀ y, y < n → (0 ≤ J y ∧ J y ≤ 4) ∧ (J y = 4 → 0 ≤ L y ∧ L y < 8 ∧ cn s.testBit (L y).toNat < 6) ∧ (J y < 4 → 0 ≤ L y ∧ L y < (y : Int)) ∧ (J y < 3 → 0 ≤ R y ∧ R y < (y : Int))
theorem frP_s (J L R : Nat → Int) (nm : Nat → Nat) (T : Nat → BitVec 64) (sh : Bool) (D n k x : Nat) (m : aM) : frP J L R nm T sh D n (k + 1) x m = frS J L R nm T sh D n (x - k) (frP J L R nm T sh D n k x m) := by
  rw [frP_add]; rfl
theorem frS_fr (J L R : Nat → Int) (nm : Nat → Nat) (T : Nat → BitVec 64) (sh : Bool) {D n : Nat} (x : Nat) (m : aM) : (∀ a b, mI (frS J L R nm T sh D n x m) a b = mI m a b) ∧ (∀ a b, mR (frS J L R nm T sh D n x m) a b = mR m a b) ∧ (∀ a b, a ≠ 16 → a ≠ D + 5 → mL (frS J L R nm T sh D n x m) a b = mL m a b) := by
  have h0 : (∀ a b, mI (if x + 1 = n then wL m 16 x MO else m) a b = mI m a b) ∧ (∀ a b, mR (if x + 1 = n then wL m 16 x MO else m) a b = mR m a b) ∧ (∀ a b, a ≠ 16 → mL (if x + 1 = n then wL m 16 x MO else m) a b = mL m a b) := by
    split
    · exact ⟨fun _ _ => rfl, fun _ _ => rfl, fun a b h => by rw [mL_wL, if_neg (fun z => h z.1)]⟩
    · exact ⟨fun _ _ => rfl, fun _ _ => rfl, fun _ _ _ => rfl⟩
  unfold frS
  split
  · exact ⟨h0.1, h0.2.1, fun a b h1 h2 => by rw [mL_wL, if_neg (fun z => h2 z.1)]; exact h0.2.2 a b h1⟩
  · split
    · exact ⟨h0.1, h0.2.1, fun a b h1 h2 => by rw [mL_wL, if_neg (fun z => h1 z.1)]; exact h0.2.2 a b h1⟩
    · exact ⟨h0.1, h0.2.1, fun a b h1 h2 => by rw [mL_wL, if_neg (fun z => h1 z.1), mL_wL, if_neg (fun z => h1 z.1)]; exact h0.2.2 a b h1⟩
theorem frP_fr (J L R : Nat → Int) (nm : Nat → Nat) (T : Nat → BitVec 64) (sh : Bool) (D n : Nat) : ∀ k x m, (∀ a b, mI (frP J L R nm T sh D n k x m) a b = mI m a b) ∧ (∀ a b, mR (frP J L R nm T sh D n k x m) a b = mR m a b) ∧ (∀ a b, a ≠ 16 → a ≠ D + 5 → mL (frP J L R nm T sh D n k x m) a b = mL m a b)
  | 0, _, _ => ⟨fun _ _ => rfl, fun _ _ => rfl, fun _ _ _ _ => rfl⟩
  | k + 1, x, m => by
    obtain ⟨h1, h2, h3⟩ := frP_fr J L R nm T sh D n k (x - 1) (frS J L R nm T sh D n x m)
    obtain ⟨g1, g2, g3⟩ := frS_fr J L R nm T sh (D := D) (n := n) x m
    exact ⟨fun a b => (h1 a b).trans (g1 a b), fun a b => (h2 a b).trans (g2 a b), fun a b p q => (h3 a b p q).trans (g3 a b p q)⟩
variable {G : aG} {pg : Nat} {μ : aM}
set_option maxRecDepth 100000 in
theorem m_Tr_numberOf {d : Nat} (hd : 1 ≤ d) {s : Nat} (hs : mI μ 11 6 = (s : Int)) (hs8 : s < 256) {l : Nat} (hl : l < 8) : AM G false d 0 0 y_Tr_numberOf [aP 11, aI (l : Int)] 94 μ (Qe (some (aI ((cn s.testBit l : Nat) : Int))) 94 μ) := by
  refine am_of (n := 0) pf_Tr_numberOf (Nat.le_of_ble_eq_true rfl) (by intro v hv; simp only [List.mem_cons, List.not_mem_nil, or_false] at hv; rcases hv with rfl | rfl <;> first | trivial | assumption | exact in_c rfl | exact bI_in _ | (show inR _; unfold inR; omega)) rfl ?_
  refine aw_aload_n d_Tr_numberOf_0 rfl rfl ?_
  refine aw_getI fd_Tr_letters lk_Tr_32 (by omega) rfl d_Tr_numberOf_1 ?_
  refine aw_tv (v' := (s : Int)) hs ?_
  refine aw_iconst d_Tr_numberOf_4 (in_c rfl) ?_
  refine aw_iload_n d_Tr_numberOf_5 rfl rfl ?_
  have hp0 : 0 < 2 ^ l := Nat.pow_pos (by omega)
  have hp7 := Nat.pow_le_pow_right (n := 2) (by omega) (show l ≤ 7 by omega)
  refine aw_ishl (a := 1) (k0 := l) rfl rfl (by omega) (by omega) d_Tr_numberOf_6 ?_
  refine aw_tv (v' := ((2 ^ l : Nat) : Int)) (by rw [Nat.one_mul]) ?_
  refine aw_iconst d_Tr_numberOf_7 (in_c rfl) ?_
  refine aw_isub d_Tr_numberOf_8 (by unfold inR; omega) ?_
  refine aw_tv (v' := ((2 ^ l - 1 : Nat) : Int)) (by omega) ?_
  refine aw_iand (a := s) (b := 2 ^ l - 1) rfl rfl d_Tr_numberOf_9 ?_
  refine aw_se (as := [_]) rfl cs_Tr_52 d_Tr_numberOf_10 (Nat.le_of_ble_eq_true rfl) (d' := d - 1) (by omega) (m_JI_bitCount (by omega) (and_256 hs8)) ?_
  exact aw_iret d_Tr_numberOf_13 rfl ⟨by rw [cnt_low hs8 hl], rfl, rfl⟩
set_option maxRecDepth 100000 in
theorem m_Tr_truthOf_4 {d : Nat} (hd : 2 ≤ d) (hR : ∀ k j, mR μ k j = R0 pg k j) {s : Nat} (hs : mI μ 11 6 = (s : Int)) (hs8 : s < 256) {n : Nat} (hn40 : n ≤ 40) (ok : okT (mI μ 12) (mI μ 13) (mI μ 14) s n) {x : Nat} (hx : x < n) (hj : mI μ 12 x = 4) : AM G false d 0 0 y_Tr_truthOf [aP 11, aI (x : Int)] 94 μ (Qe (some (aL (trV (mI μ 12) (mI μ 13) (mI μ 14) (fun l => cn s.testBit l) μ x))) 94 μ) := by
  refine am_of (n := 2) pf_Tr_truthOf (Nat.le_of_ble_eq_true rfl) (by intro v hv; simp only [List.mem_cons, List.not_mem_nil, or_false] at hv; rcases hv with rfl | rfl <;> first | trivial | assumption | exact in_c rfl | exact bI_in _ | (show inR _; unfold inR; omega)) rfl ?_
  obtain ⟨o1, o2, o3, o4⟩ := ok x hx
  refine aw_aload_n d_Tr_truthOf_0 rfl rfl ?_
  refine aw_getR fd_Tr_joints lk_Tr_9 (by omega) rfl d_Tr_truthOf_1 (hR _ _) ?_
  refine aw_iload_n d_Tr_truthOf_4 rfl rfl ?_
  refine aw_iald (n := x) (by omega) rfl rfl (by omega) d_Tr_truthOf_5 ?_
  refine aw_iconst d_Tr_truthOf_6 (in_c rfl) ?_
  refine aw_icmp_ne (tgt := 25) d_Tr_truthOf_7 rfl (fun h7 => absurd h7 (by omega)) (fun h7 => ?_)
  refine aw_tw tw_Tr_43 d_Tr_truthOf_10 ?_
  refine aw_aload_n d_Tr_truthOf_13 rfl rfl ?_
  refine aw_aload_n d_Tr_truthOf_14 rfl rfl ?_
  refine aw_getR fd_Tr_lefts lk_Tr_15 (by omega) rfl d_Tr_truthOf_15 (hR _ _) ?_
  refine aw_iload_n d_Tr_truthOf_18 rfl rfl ?_
  refine aw_pc (pc' := 19) rfl ?_
  refine aw_iald (n := x) (by omega) rfl rfl (by omega) d_Tr_truthOf_19 ?_
  obtain ⟨l, hl⟩ : ∃ l : Nat, mI μ 13 x = (l : Int) := ⟨(mI μ 13 x).toNat, by omega⟩
  have hl8 : l < 8 := by omega
  have hc6 : cn s.testBit l < 6 := by have := (o2 hj).2.2; rw [hl] at this; exact this
  refine aw_tv (v' := (l : Int)) hl ?_
  refine aw_ve (as := [_]) rfl cv_Tr_46 (by omega) rfl rfl d_Tr_truthOf_20 (Nat.le_of_ble_eq_true rfl) (d' := d - 1) (by omega) (m_Tr_numberOf (by omega) hs hs8 hl8) ?_
  refine aw_twld (n := cn s.testBit l) rfl hc6 d_Tr_truthOf_23 ?_
  refine aw_tl (v' := tW (cn s.testBit l)) rfl ?_
  exact aw_lret d_Tr_truthOf_24 rfl ⟨by unfold trV; rw [if_pos hj, hl]; rfl, rfl, rfl⟩
set_option maxRecDepth 100000 in
theorem m_Tr_truthOf_3 {d : Nat} (hd : 2 ≤ d) (hR : ∀ k j, mR μ k j = R0 pg k j) {s : Nat} (hs : mI μ 11 6 = (s : Int)) (hs8 : s < 256) {n : Nat} (hn40 : n ≤ 40) (ok : okT (mI μ 12) (mI μ 13) (mI μ 14) s n) {x : Nat} (hx : x < n) (hj : mI μ 12 x = 3) : AM G false d 0 0 y_Tr_truthOf [aP 11, aI (x : Int)] 94 μ (Qe (some (aL (trV (mI μ 12) (mI μ 13) (mI μ 14) (fun l => cn s.testBit l) μ x))) 94 μ) := by
  refine am_of (n := 2) pf_Tr_truthOf (Nat.le_of_ble_eq_true rfl) (by intro v hv; simp only [List.mem_cons, List.not_mem_nil, or_false] at hv; rcases hv with rfl | rfl <;> first | trivial | assumption | exact in_c rfl | exact bI_in _ | (show inR _; unfold inR; omega)) rfl ?_
  obtain ⟨o1, o2, o3, o4⟩ := ok x hx
  refine aw_aload_n d_Tr_truthOf_0 rfl rfl ?_
  refine aw_getR fd_Tr_joints lk_Tr_9 (by omega) rfl d_Tr_truthOf_1 (hR _ _) ?_
  refine aw_iload_n d_Tr_truthOf_4 rfl rfl ?_
  refine aw_iald (n := x) (by omega) rfl rfl (by omega) d_Tr_truthOf_5 ?_
  refine aw_iconst d_Tr_truthOf_6 (in_c rfl) ?_
  refine aw_icmp_ne (tgt := 25) d_Tr_truthOf_7 rfl (fun h7 => ?_) (fun h7 => absurd h7 (by omega))
  refine aw_aload_n d_Tr_truthOf_25 rfl rfl ?_
  refine aw_getR fd_Tr_truths lk_Tr_21 (by omega) rfl d_Tr_truthOf_26 (hR _ _) ?_
  refine aw_aload_n d_Tr_truthOf_29 rfl rfl ?_
  refine aw_getR fd_Tr_lefts lk_Tr_15 (by omega) rfl d_Tr_truthOf_30 (hR _ _) ?_
  refine aw_iload_n d_Tr_truthOf_33 rfl rfl ?_
  refine aw_pc (pc' := 34) rfl ?_
  refine aw_iald (n := x) (by omega) rfl rfl (by omega) d_Tr_truthOf_34 ?_
  refine aw_tv (v' := (((mI μ 13 x).toNat : Nat) : Int)) (by omega) ?_
  refine aw_lald (n := (mI μ 13 x).toNat) (by omega) rfl rfl (by omega) d_Tr_truthOf_35 ?_
  refine aw_lstore_n (lst' := [_, _, _, _]) d_Tr_truthOf_36 rfl (Nat.le_of_ble_eq_true rfl) rfl ?_
  refine aw_aload_n d_Tr_truthOf_37 rfl rfl ?_
  refine aw_getR fd_Tr_joints lk_Tr_9 (by omega) rfl d_Tr_truthOf_38 (hR _ _) ?_
  refine aw_iload_n d_Tr_truthOf_41 rfl rfl ?_
  refine aw_iald (n := x) (by omega) rfl rfl (by omega) d_Tr_truthOf_42 ?_
  refine aw_tv (v' := 3) hj ?_
  refine aw_tabI (tgt := 68) d_Tr_truthOf_43 (by decide) (by decide) rfl rfl ?_
  refine aw_lload_n d_Tr_truthOf_68 rfl rfl ?_
  refine aw_ldc2 (b := MO) kc_Tr_50 rfl d_Tr_truthOf_69 ?_
  refine aw_lxor d_Tr_truthOf_72 ?_
  exact aw_lret d_Tr_truthOf_73 rfl ⟨by unfold trV; rw [if_neg (by omega), if_pos hj], rfl, rfl⟩
set_option maxRecDepth 100000 in
theorem m_Tr_truthOf_2 {d : Nat} (hd : 2 ≤ d) (hR : ∀ k j, mR μ k j = R0 pg k j) {s : Nat} (hs : mI μ 11 6 = (s : Int)) (hs8 : s < 256) {n : Nat} (hn40 : n ≤ 40) (ok : okT (mI μ 12) (mI μ 13) (mI μ 14) s n) {x : Nat} (hx : x < n) (hj : mI μ 12 x = 2) : AM G false d 0 0 y_Tr_truthOf [aP 11, aI (x : Int)] 94 μ (Qe (some (aL (trV (mI μ 12) (mI μ 13) (mI μ 14) (fun l => cn s.testBit l) μ x))) 94 μ) := by
  refine am_of (n := 2) pf_Tr_truthOf (Nat.le_of_ble_eq_true rfl) (by intro v hv; simp only [List.mem_cons, List.not_mem_nil, or_false] at hv; rcases hv with rfl | rfl <;> first | trivial | assumption | exact in_c rfl | exact bI_in _ | (show inR _; unfold inR; omega)) rfl ?_
  obtain ⟨o1, o2, o3, o4⟩ := ok x hx
  refine aw_aload_n d_Tr_truthOf_0 rfl rfl ?_
  refine aw_getR fd_Tr_joints lk_Tr_9 (by omega) rfl d_Tr_truthOf_1 (hR _ _) ?_
  refine aw_iload_n d_Tr_truthOf_4 rfl rfl ?_
  refine aw_iald (n := x) (by omega) rfl rfl (by omega) d_Tr_truthOf_5 ?_
  refine aw_iconst d_Tr_truthOf_6 (in_c rfl) ?_
  refine aw_icmp_ne (tgt := 25) d_Tr_truthOf_7 rfl (fun h7 => ?_) (fun h7 => absurd h7 (by omega))
  refine aw_aload_n d_Tr_truthOf_25 rfl rfl ?_
  refine aw_getR fd_Tr_truths lk_Tr_21 (by omega) rfl d_Tr_truthOf_26 (hR _ _) ?_
  refine aw_aload_n d_Tr_truthOf_29 rfl rfl ?_
  refine aw_getR fd_Tr_lefts lk_Tr_15 (by omega) rfl d_Tr_truthOf_30 (hR _ _) ?_
  refine aw_iload_n d_Tr_truthOf_33 rfl rfl ?_
  refine aw_pc (pc' := 34) rfl ?_
  refine aw_iald (n := x) (by omega) rfl rfl (by omega) d_Tr_truthOf_34 ?_
  refine aw_tv (v' := (((mI μ 13 x).toNat : Nat) : Int)) (by omega) ?_
  refine aw_lald (n := (mI μ 13 x).toNat) (by omega) rfl rfl (by omega) d_Tr_truthOf_35 ?_
  refine aw_lstore_n (lst' := [_, _, _, _]) d_Tr_truthOf_36 rfl (Nat.le_of_ble_eq_true rfl) rfl ?_
  refine aw_aload_n d_Tr_truthOf_37 rfl rfl ?_
  refine aw_getR fd_Tr_joints lk_Tr_9 (by omega) rfl d_Tr_truthOf_38 (hR _ _) ?_
  refine aw_iload_n d_Tr_truthOf_41 rfl rfl ?_
  refine aw_iald (n := x) (by omega) rfl rfl (by omega) d_Tr_truthOf_42 ?_
  refine aw_tv (v' := 2) hj ?_
  refine aw_tabI (tgt := 74) d_Tr_truthOf_43 (by decide) (by decide) rfl rfl ?_
  refine aw_lload_n d_Tr_truthOf_74 rfl rfl ?_
  refine aw_aload_n d_Tr_truthOf_75 rfl rfl ?_
  refine aw_getR fd_Tr_truths lk_Tr_21 (by omega) rfl d_Tr_truthOf_76 (hR _ _) ?_
  refine aw_aload_n d_Tr_truthOf_79 rfl rfl ?_
  refine aw_pc (pc' := 80) rfl ?_
  refine aw_getR fd_Tr_rights lk_Tr_18 (by omega) rfl d_Tr_truthOf_80 (hR _ _) ?_
  refine aw_iload_n d_Tr_truthOf_83 rfl rfl ?_
  refine aw_iald (n := x) (by omega) rfl rfl (by omega) d_Tr_truthOf_84 ?_
  refine aw_tv (v' := (((mI μ 14 x).toNat : Nat) : Int)) (by omega) ?_
  refine aw_lald (n := (mI μ 14 x).toNat) (by omega) rfl rfl (by omega) d_Tr_truthOf_85 ?_
  refine aw_land d_Tr_truthOf_86 ?_
  exact aw_lret d_Tr_truthOf_87 rfl ⟨by unfold trV; rw [if_neg (by omega), if_neg (by omega), if_pos hj], rfl, rfl⟩
set_option maxRecDepth 100000 in
theorem m_Tr_truthOf_1 {d : Nat} (hd : 2 ≤ d) (hR : ∀ k j, mR μ k j = R0 pg k j) {s : Nat} (hs : mI μ 11 6 = (s : Int)) (hs8 : s < 256) {n : Nat} (hn40 : n ≤ 40) (ok : okT (mI μ 12) (mI μ 13) (mI μ 14) s n) {x : Nat} (hx : x < n) (hj : mI μ 12 x = 1) : AM G false d 0 0 y_Tr_truthOf [aP 11, aI (x : Int)] 94 μ (Qe (some (aL (trV (mI μ 12) (mI μ 13) (mI μ 14) (fun l => cn s.testBit l) μ x))) 94 μ) := by
  refine am_of (n := 2) pf_Tr_truthOf (Nat.le_of_ble_eq_true rfl) (by intro v hv; simp only [List.mem_cons, List.not_mem_nil, or_false] at hv; rcases hv with rfl | rfl <;> first | trivial | assumption | exact in_c rfl | exact bI_in _ | (show inR _; unfold inR; omega)) rfl ?_
  obtain ⟨o1, o2, o3, o4⟩ := ok x hx
  refine aw_aload_n d_Tr_truthOf_0 rfl rfl ?_
  refine aw_getR fd_Tr_joints lk_Tr_9 (by omega) rfl d_Tr_truthOf_1 (hR _ _) ?_
  refine aw_iload_n d_Tr_truthOf_4 rfl rfl ?_
  refine aw_iald (n := x) (by omega) rfl rfl (by omega) d_Tr_truthOf_5 ?_
  refine aw_iconst d_Tr_truthOf_6 (in_c rfl) ?_
  refine aw_icmp_ne (tgt := 25) d_Tr_truthOf_7 rfl (fun h7 => ?_) (fun h7 => absurd h7 (by omega))
  refine aw_aload_n d_Tr_truthOf_25 rfl rfl ?_
  refine aw_getR fd_Tr_truths lk_Tr_21 (by omega) rfl d_Tr_truthOf_26 (hR _ _) ?_
  refine aw_aload_n d_Tr_truthOf_29 rfl rfl ?_
  refine aw_getR fd_Tr_lefts lk_Tr_15 (by omega) rfl d_Tr_truthOf_30 (hR _ _) ?_
  refine aw_iload_n d_Tr_truthOf_33 rfl rfl ?_
  refine aw_pc (pc' := 34) rfl ?_
  refine aw_iald (n := x) (by omega) rfl rfl (by omega) d_Tr_truthOf_34 ?_
  refine aw_tv (v' := (((mI μ 13 x).toNat : Nat) : Int)) (by omega) ?_
  refine aw_lald (n := (mI μ 13 x).toNat) (by omega) rfl rfl (by omega) d_Tr_truthOf_35 ?_
  refine aw_lstore_n (lst' := [_, _, _, _]) d_Tr_truthOf_36 rfl (Nat.le_of_ble_eq_true rfl) rfl ?_
  refine aw_aload_n d_Tr_truthOf_37 rfl rfl ?_
  refine aw_getR fd_Tr_joints lk_Tr_9 (by omega) rfl d_Tr_truthOf_38 (hR _ _) ?_
  refine aw_iload_n d_Tr_truthOf_41 rfl rfl ?_
  refine aw_iald (n := x) (by omega) rfl rfl (by omega) d_Tr_truthOf_42 ?_
  refine aw_tv (v' := 1) hj ?_
  refine aw_tabI (tgt := 88) d_Tr_truthOf_43 (by decide) (by decide) rfl rfl ?_
  refine aw_lload_n d_Tr_truthOf_88 rfl rfl ?_
  refine aw_aload_n d_Tr_truthOf_89 rfl rfl ?_
  refine aw_getR fd_Tr_truths lk_Tr_21 (by omega) rfl d_Tr_truthOf_90 (hR _ _) ?_
  refine aw_aload_n d_Tr_truthOf_93 rfl rfl ?_
  refine aw_pc (pc' := 94) rfl ?_
  refine aw_getR fd_Tr_rights lk_Tr_18 (by omega) rfl d_Tr_truthOf_94 (hR _ _) ?_
  refine aw_iload_n d_Tr_truthOf_97 rfl rfl ?_
  refine aw_iald (n := x) (by omega) rfl rfl (by omega) d_Tr_truthOf_98 ?_
  refine aw_tv (v' := (((mI μ 14 x).toNat : Nat) : Int)) (by omega) ?_
  refine aw_lald (n := (mI μ 14 x).toNat) (by omega) rfl rfl (by omega) d_Tr_truthOf_99 ?_
  refine aw_lxor d_Tr_truthOf_100 ?_
  exact aw_lret d_Tr_truthOf_101 rfl ⟨by unfold trV; rw [if_neg (by omega), if_neg (by omega), if_neg (by omega), if_pos hj], rfl, rfl⟩
set_option maxRecDepth 100000 in
theorem m_Tr_truthOf_0 {d : Nat} (hd : 2 ≤ d) (hR : ∀ k j, mR μ k j = R0 pg k j) {s : Nat} (hs : mI μ 11 6 = (s : Int)) (hs8 : s < 256) {n : Nat} (hn40 : n ≤ 40) (ok : okT (mI μ 12) (mI μ 13) (mI μ 14) s n) {x : Nat} (hx : x < n) (hj : mI μ 12 x = 0) : AM G false d 0 0 y_Tr_truthOf [aP 11, aI (x : Int)] 94 μ (Qe (some (aL (trV (mI μ 12) (mI μ 13) (mI μ 14) (fun l => cn s.testBit l) μ x))) 94 μ) := by
  refine am_of (n := 2) pf_Tr_truthOf (Nat.le_of_ble_eq_true rfl) (by intro v hv; simp only [List.mem_cons, List.not_mem_nil, or_false] at hv; rcases hv with rfl | rfl <;> first | trivial | assumption | exact in_c rfl | exact bI_in _ | (show inR _; unfold inR; omega)) rfl ?_
  obtain ⟨o1, o2, o3, o4⟩ := ok x hx
  refine aw_aload_n d_Tr_truthOf_0 rfl rfl ?_
  refine aw_getR fd_Tr_joints lk_Tr_9 (by omega) rfl d_Tr_truthOf_1 (hR _ _) ?_
  refine aw_iload_n d_Tr_truthOf_4 rfl rfl ?_
  refine aw_iald (n := x) (by omega) rfl rfl (by omega) d_Tr_truthOf_5 ?_
  refine aw_iconst d_Tr_truthOf_6 (in_c rfl) ?_
  refine aw_icmp_ne (tgt := 25) d_Tr_truthOf_7 rfl (fun h7 => ?_) (fun h7 => absurd h7 (by omega))
  refine aw_aload_n d_Tr_truthOf_25 rfl rfl ?_
  refine aw_getR fd_Tr_truths lk_Tr_21 (by omega) rfl d_Tr_truthOf_26 (hR _ _) ?_
  refine aw_aload_n d_Tr_truthOf_29 rfl rfl ?_
  refine aw_getR fd_Tr_lefts lk_Tr_15 (by omega) rfl d_Tr_truthOf_30 (hR _ _) ?_
  refine aw_iload_n d_Tr_truthOf_33 rfl rfl ?_
  refine aw_pc (pc' := 34) rfl ?_
  refine aw_iald (n := x) (by omega) rfl rfl (by omega) d_Tr_truthOf_34 ?_
  refine aw_tv (v' := (((mI μ 13 x).toNat : Nat) : Int)) (by omega) ?_
  refine aw_lald (n := (mI μ 13 x).toNat) (by omega) rfl rfl (by omega) d_Tr_truthOf_35 ?_
  refine aw_lstore_n (lst' := [_, _, _, _]) d_Tr_truthOf_36 rfl (Nat.le_of_ble_eq_true rfl) rfl ?_
  refine aw_aload_n d_Tr_truthOf_37 rfl rfl ?_
  refine aw_getR fd_Tr_joints lk_Tr_9 (by omega) rfl d_Tr_truthOf_38 (hR _ _) ?_
  refine aw_iload_n d_Tr_truthOf_41 rfl rfl ?_
  refine aw_iald (n := x) (by omega) rfl rfl (by omega) d_Tr_truthOf_42 ?_
  refine aw_tv (v' := 0) hj ?_
  refine aw_tabO (tgt := 102) d_Tr_truthOf_43 (by decide) rfl ?_
  refine aw_lload_n d_Tr_truthOf_102 rfl rfl ?_
  refine aw_aload_n d_Tr_truthOf_103 rfl rfl ?_
  refine aw_getR fd_Tr_truths lk_Tr_21 (by omega) rfl d_Tr_truthOf_104 (hR _ _) ?_
  refine aw_aload_n d_Tr_truthOf_107 rfl rfl ?_
  refine aw_pc (pc' := 108) rfl ?_
  refine aw_getR fd_Tr_rights lk_Tr_18 (by omega) rfl d_Tr_truthOf_108 (hR _ _) ?_
  refine aw_iload_n d_Tr_truthOf_111 rfl rfl ?_
  refine aw_iald (n := x) (by omega) rfl rfl (by omega) d_Tr_truthOf_112 ?_
  refine aw_tv (v' := (((mI μ 14 x).toNat : Nat) : Int)) (by omega) ?_
  refine aw_lald (n := (mI μ 14 x).toNat) (by omega) rfl rfl (by omega) d_Tr_truthOf_113 ?_
  refine aw_lor d_Tr_truthOf_114 ?_
  exact aw_lret d_Tr_truthOf_115 rfl ⟨by unfold trV; rw [if_neg (by omega), if_neg (by omega), if_neg (by omega), if_neg (by omega)], rfl, rfl⟩
theorem m_Tr_truthOf {d : Nat} (hd : 2 ≤ d) (hR : ∀ k j, mR μ k j = R0 pg k j) {s : Nat} (hs : mI μ 11 6 = (s : Int)) (hs8 : s < 256) {n : Nat} (hn40 : n ≤ 40) (ok : okT (mI μ 12) (mI μ 13) (mI μ 14) s n) {x : Nat} (hx : x < n) : AM G false d 0 0 y_Tr_truthOf [aP 11, aI (x : Int)] 94 μ (Qe (some (aL (trV (mI μ 12) (mI μ 13) (mI μ 14) (fun l => cn s.testBit l) μ x))) 94 μ) := by
  obtain ⟨o1, -⟩ := ok x hx
  rcases (show mI μ 12 x = 4 ∨ mI μ 12 x = 3 ∨ mI μ 12 x = 2 ∨ mI μ 12 x = 1 ∨ mI μ 12 x = 0 by omega) with h | h | h | h | h
  · exact m_Tr_truthOf_4 hd hR hs hs8 hn40 ok hx h
  · exact m_Tr_truthOf_3 hd hR hs hs8 hn40 ok hx h
  · exact m_Tr_truthOf_2 hd hR hs hs8 hn40 ok hx h
  · exact m_Tr_truthOf_1 hd hR hs hs8 hn40 ok hx h
  · exact m_Tr_truthOf_0 hd hR hs hs8 hn40 ok hx h
set_option maxRecDepth 100000 in
theorem m_Tr_findTruths {d : Nat} (hd : 3 ≤ d) (hR : ∀ k j, mR μ k j = R0 pg k j) {s : Nat} (hs : mI μ 11 6 = (s : Int)) (hs8 : s < 256) {n : Nat} (hn : mI μ 11 5 = (n : Int)) (hn0 : 0 < n) (hn40 : n ≤ 40) (ok : okT (mI μ 12) (mI μ 13) (mI μ 14) s n)  : AM G false d 0 0 y_Tr_findTruths [aP 11] 94 μ (Qe (some (aL (mL (ftM (mI μ 12) (mI μ 13) (mI μ 14) (fun l => cn s.testBit l) μ n) 15 (n - 1)))) 94 (ftM (mI μ 12) (mI μ 13) (mI μ 14) (fun l => cn s.testBit l) μ n)) := by
  refine am_of (n := 1) pf_Tr_findTruths (Nat.le_of_ble_eq_true rfl) (by intro v hv; simp only [List.mem_cons, List.not_mem_nil, or_false] at hv; rcases hv with rfl <;> first | trivial | assumption | exact in_c rfl | exact bI_in _ | (show inR _; unfold inR; omega)) rfl ?_
  have key : ∀ (m : Nat) (x : Nat), n - x = m → x ≤ n → AW G false y_Tr_findTruths d 0 0 (Qe (some (aL (mL (ftM (mI μ 12) (mI μ 13) (mI μ 14) (fun l => cn s.testBit l) μ n) 15 (n - 1)))) 94 (ftM (mI μ 12) (mI μ 13) (mI μ 14) (fun l => cn s.testBit l) μ n)) 2 [some (aP 11), some (aI (x : Int))] [] 94 (ftM (mI μ 12) (mI μ 13) (mI μ 14) (fun l => cn s.testBit l) μ x) := by
    intro m
    induction m using Nat.strongRecOn with | _ m ih =>
    intro x hm hx
    obtain ⟨f1, f2, f3⟩ := ftM_fr (J := mI μ 12) (L := mI μ 13) (R := mI μ 14) (nm := (fun l => cn s.testBit l)) μ x
    have hRx : ∀ a b, mR (ftM (mI μ 12) (mI μ 13) (mI μ 14) (fun l => cn s.testBit l) μ x) a b = R0 pg a b := fun a b => (f3 a b).trans (hR a b)
    have e12 : mI (ftM (mI μ 12) (mI μ 13) (mI μ 14) (fun l => cn s.testBit l) μ x) 12 = mI μ 12 := funext fun b => f1 12 b
    have e13 : mI (ftM (mI μ 12) (mI μ 13) (mI μ 14) (fun l => cn s.testBit l) μ x) 13 = mI μ 13 := funext fun b => f1 13 b
    have e14 : mI (ftM (mI μ 12) (mI μ 13) (mI μ 14) (fun l => cn s.testBit l) μ x) 14 = mI μ 14 := funext fun b => f1 14 b
    have hnx : mI (ftM (mI μ 12) (mI μ 13) (mI μ 14) (fun l => cn s.testBit l) μ x) 11 5 = (n : Int) := (f1 _ _).trans hn
    refine aw_iload_n d_Tr_findTruths_2 rfl rfl ?_
    refine aw_aload_n d_Tr_findTruths_3 rfl rfl ?_
    refine aw_getI fd_Tr_count lk_Tr_28 (by omega) rfl d_Tr_findTruths_4 ?_
    refine aw_tv (v' := (n : Int)) hnx ?_
    refine aw_icmp_ge (tgt := 27) d_Tr_findTruths_7 rfl (fun h7 => ?_) (fun h7 => ?_)
    · refine aw_aload_n d_Tr_findTruths_27 rfl rfl ?_
      refine aw_getI fd_Tr_count lk_Tr_28 (by omega) rfl d_Tr_findTruths_28 ?_
      refine aw_tv (v' := (n : Int)) hnx ?_
      refine aw_if_ne (tgt := 38) d_Tr_findTruths_31 rfl (fun h31 => ?_) (fun h31 => absurd h31 (by omega))
      refine aw_aload_n d_Tr_findTruths_38 rfl rfl ?_
      refine aw_getR fd_Tr_truths lk_Tr_21 (by omega) rfl d_Tr_findTruths_39 (hRx _ _) ?_
      refine aw_aload_n d_Tr_findTruths_42 rfl rfl ?_
      refine aw_getI fd_Tr_count lk_Tr_28 (by omega) rfl d_Tr_findTruths_43 ?_
      refine aw_tv (v' := (n : Int)) hnx ?_
      refine aw_iconst d_Tr_findTruths_46 (in_c rfl) ?_
      refine aw_isub d_Tr_findTruths_47 (by unfold inR; omega) ?_
      refine aw_tv (v' := ((n - 1 : Nat) : Int)) (by omega) ?_
      refine aw_lald (n := n - 1) (by omega) rfl rfl (by omega) d_Tr_findTruths_48 ?_
      exact aw_lret d_Tr_findTruths_49 rfl ⟨by rw [show x = n by omega], rfl, by rw [show x = n by omega]⟩
    · refine aw_aload_n d_Tr_findTruths_10 rfl rfl ?_
      refine aw_getR fd_Tr_truths lk_Tr_21 (by omega) rfl d_Tr_findTruths_11 (hRx _ _) ?_
      refine aw_iload_n d_Tr_findTruths_14 rfl rfl ?_
      refine aw_aload_n d_Tr_findTruths_15 rfl rfl ?_
      refine aw_iload_n d_Tr_findTruths_16 rfl rfl ?_
      refine aw_ve (as := [_]) rfl cv_Tr_39 (by omega) rfl rfl d_Tr_findTruths_17 (Nat.le_of_ble_eq_true rfl) (d' := d - 1) (by omega) (m_Tr_truthOf (μ := (ftM (mI μ 12) (mI μ 13) (mI μ 14) (fun l => cn s.testBit l) μ x)) (s := s) (n := n) (x := x) (by omega) hRx ((f1 _ _).trans hs) hs8 hn40 (by rw [e12, e13, e14]; exact ok) (by omega)) ?_
      refine aw_tl (v' := trV (mI μ 12) (mI μ 13) (mI μ 14) (fun l => cn s.testBit l) (ftM (mI μ 12) (mI μ 13) (mI μ 14) (fun l => cn s.testBit l) μ x) x) (by rw [e12, e13, e14]) ?_
      refine aw_last (n := x) (by omega) rfl rfl (by omega) d_Tr_findTruths_20 ?_
      refine aw_mm (μ' := (ftM (mI μ 12) (mI μ 13) (mI μ 14) (fun l => cn s.testBit l) μ (x + 1))) rfl ?_
      refine aw_iinc (lst' := [_, some (aI ((x + 1 : Nat) : Int))]) d_Tr_findTruths_21 (Nat.le_of_ble_eq_true rfl) rfl (by unfold inR; omega) rfl ?_
      refine aw_goto (tgt := 2) d_Tr_findTruths_24 rfl ?_
      exact ih (n - (x + 1)) (by omega) (x + 1) rfl (by omega)
  refine aw_iconst d_Tr_findTruths_0 (in_c rfl) ?_
  refine aw_istore_n (lst' := [_, _]) d_Tr_findTruths_1 rfl (Nat.le_of_ble_eq_true rfl) rfl ?_
  refine aw_mm (μ' := (ftM (mI μ 12) (mI μ 13) (mI μ 14) (fun l => cn s.testBit l) μ 0)) rfl ?_
  exact key (n - 0) 0 rfl (Nat.zero_le _)
set_option maxRecDepth 100000 in
theorem m_Tr_undecided_2 {d : Nat} (hd : 0 ≤ d) (hR : ∀ k j, mR μ k j = R0 pg k j) {s : Nat} (hs : mI μ 11 6 = (s : Int)) (hs8 : s < 256) {n : Nat} (hn40 : n ≤ 40) (ok : okT (mI μ 12) (mI μ 13) (mI μ 14) s n) {x : Nat} (hx : x < n) (hj : mI μ 12 x = 2) : AM G false d 0 0 y_Tr_undecided [aP 11, aI (x : Int)] 94 μ (Qe (some (aL (opn (mI μ 12) (mI μ 13) (mL μ 15) true x))) 94 μ) := by
  refine am_of (n := 2) pf_Tr_undecided (Nat.le_of_ble_eq_true rfl) (by intro v hv; simp only [List.mem_cons, List.not_mem_nil, or_false] at hv; rcases hv with rfl | rfl <;> first | trivial | assumption | exact in_c rfl | exact bI_in _ | (show inR _; unfold inR; omega)) rfl ?_
  obtain ⟨o1, o2, o3, o4⟩ := ok x hx
  refine aw_aload_n d_Tr_undecided_0 rfl rfl ?_
  refine aw_getR fd_Tr_truths lk_Tr_21 (by omega) rfl d_Tr_undecided_1 (hR _ _) ?_
  refine aw_aload_n d_Tr_undecided_4 rfl rfl ?_
  refine aw_getR fd_Tr_lefts lk_Tr_15 (by omega) rfl d_Tr_undecided_5 (hR _ _) ?_
  refine aw_iload_n d_Tr_undecided_8 rfl rfl ?_
  refine aw_iald (n := x) (by omega) rfl rfl (by omega) d_Tr_undecided_9 ?_
  refine aw_tv (v' := (((mI μ 13 x).toNat : Nat) : Int)) (by omega) ?_
  refine aw_lald (n := (mI μ 13 x).toNat) (by omega) rfl rfl (by omega) d_Tr_undecided_10 ?_
  refine aw_lstore_n (lst' := [_, _, _, _]) d_Tr_undecided_11 rfl (Nat.le_of_ble_eq_true rfl) rfl ?_
  refine aw_aload_n d_Tr_undecided_12 rfl rfl ?_
  refine aw_getR fd_Tr_joints lk_Tr_9 (by omega) rfl d_Tr_undecided_13 (hR _ _) ?_
  refine aw_iload_n d_Tr_undecided_16 rfl rfl ?_
  refine aw_pc (pc' := 17) rfl ?_
  refine aw_iald (n := x) (by omega) rfl rfl (by omega) d_Tr_undecided_17 ?_
  refine aw_tv (v' := 2) hj ?_
  refine aw_look (tgt := 44) d_Tr_undecided_18 rfl rfl rfl ?_
  refine aw_lload_n d_Tr_undecided_44 rfl rfl ?_
  exact aw_lret d_Tr_undecided_45 rfl ⟨by unfold opn; rw [if_neg (by decide), if_pos hj], rfl, rfl⟩
set_option maxRecDepth 100000 in
theorem m_Tr_undecided_0 {d : Nat} (hd : 0 ≤ d) (hR : ∀ k j, mR μ k j = R0 pg k j) {s : Nat} (hs : mI μ 11 6 = (s : Int)) (hs8 : s < 256) {n : Nat} (hn40 : n ≤ 40) (ok : okT (mI μ 12) (mI μ 13) (mI μ 14) s n) {x : Nat} (hx : x < n) (hj : mI μ 12 x = 0) : AM G false d 0 0 y_Tr_undecided [aP 11, aI (x : Int)] 94 μ (Qe (some (aL (opn (mI μ 12) (mI μ 13) (mL μ 15) true x))) 94 μ) := by
  refine am_of (n := 2) pf_Tr_undecided (Nat.le_of_ble_eq_true rfl) (by intro v hv; simp only [List.mem_cons, List.not_mem_nil, or_false] at hv; rcases hv with rfl | rfl <;> first | trivial | assumption | exact in_c rfl | exact bI_in _ | (show inR _; unfold inR; omega)) rfl ?_
  obtain ⟨o1, o2, o3, o4⟩ := ok x hx
  refine aw_aload_n d_Tr_undecided_0 rfl rfl ?_
  refine aw_getR fd_Tr_truths lk_Tr_21 (by omega) rfl d_Tr_undecided_1 (hR _ _) ?_
  refine aw_aload_n d_Tr_undecided_4 rfl rfl ?_
  refine aw_getR fd_Tr_lefts lk_Tr_15 (by omega) rfl d_Tr_undecided_5 (hR _ _) ?_
  refine aw_iload_n d_Tr_undecided_8 rfl rfl ?_
  refine aw_iald (n := x) (by omega) rfl rfl (by omega) d_Tr_undecided_9 ?_
  refine aw_tv (v' := (((mI μ 13 x).toNat : Nat) : Int)) (by omega) ?_
  refine aw_lald (n := (mI μ 13 x).toNat) (by omega) rfl rfl (by omega) d_Tr_undecided_10 ?_
  refine aw_lstore_n (lst' := [_, _, _, _]) d_Tr_undecided_11 rfl (Nat.le_of_ble_eq_true rfl) rfl ?_
  refine aw_aload_n d_Tr_undecided_12 rfl rfl ?_
  refine aw_getR fd_Tr_joints lk_Tr_9 (by omega) rfl d_Tr_undecided_13 (hR _ _) ?_
  refine aw_iload_n d_Tr_undecided_16 rfl rfl ?_
  refine aw_pc (pc' := 17) rfl ?_
  refine aw_iald (n := x) (by omega) rfl rfl (by omega) d_Tr_undecided_17 ?_
  refine aw_tv (v' := 0) hj ?_
  refine aw_look (tgt := 46) d_Tr_undecided_18 rfl rfl rfl ?_
  refine aw_lload_n d_Tr_undecided_46 rfl rfl ?_
  refine aw_ldc2 (b := MO) kc_Tr_50 rfl d_Tr_undecided_47 ?_
  refine aw_lxor d_Tr_undecided_50 ?_
  exact aw_lret d_Tr_undecided_51 rfl ⟨by unfold opn; rw [if_neg (by decide), if_neg (by omega), if_pos hj], rfl, rfl⟩
set_option maxRecDepth 100000 in
theorem m_Tr_undecided_1 {d : Nat} (hd : 0 ≤ d) (hR : ∀ k j, mR μ k j = R0 pg k j) {s : Nat} (hs : mI μ 11 6 = (s : Int)) (hs8 : s < 256) {n : Nat} (hn40 : n ≤ 40) (ok : okT (mI μ 12) (mI μ 13) (mI μ 14) s n) {x : Nat} (hx : x < n) (hj : mI μ 12 x = 1) : AM G false d 0 0 y_Tr_undecided [aP 11, aI (x : Int)] 94 μ (Qe (some (aL (opn (mI μ 12) (mI μ 13) (mL μ 15) true x))) 94 μ) := by
  refine am_of (n := 2) pf_Tr_undecided (Nat.le_of_ble_eq_true rfl) (by intro v hv; simp only [List.mem_cons, List.not_mem_nil, or_false] at hv; rcases hv with rfl | rfl <;> first | trivial | assumption | exact in_c rfl | exact bI_in _ | (show inR _; unfold inR; omega)) rfl ?_
  obtain ⟨o1, o2, o3, o4⟩ := ok x hx
  refine aw_aload_n d_Tr_undecided_0 rfl rfl ?_
  refine aw_getR fd_Tr_truths lk_Tr_21 (by omega) rfl d_Tr_undecided_1 (hR _ _) ?_
  refine aw_aload_n d_Tr_undecided_4 rfl rfl ?_
  refine aw_getR fd_Tr_lefts lk_Tr_15 (by omega) rfl d_Tr_undecided_5 (hR _ _) ?_
  refine aw_iload_n d_Tr_undecided_8 rfl rfl ?_
  refine aw_iald (n := x) (by omega) rfl rfl (by omega) d_Tr_undecided_9 ?_
  refine aw_tv (v' := (((mI μ 13 x).toNat : Nat) : Int)) (by omega) ?_
  refine aw_lald (n := (mI μ 13 x).toNat) (by omega) rfl rfl (by omega) d_Tr_undecided_10 ?_
  refine aw_lstore_n (lst' := [_, _, _, _]) d_Tr_undecided_11 rfl (Nat.le_of_ble_eq_true rfl) rfl ?_
  refine aw_aload_n d_Tr_undecided_12 rfl rfl ?_
  refine aw_getR fd_Tr_joints lk_Tr_9 (by omega) rfl d_Tr_undecided_13 (hR _ _) ?_
  refine aw_iload_n d_Tr_undecided_16 rfl rfl ?_
  refine aw_pc (pc' := 17) rfl ?_
  refine aw_iald (n := x) (by omega) rfl rfl (by omega) d_Tr_undecided_17 ?_
  refine aw_tv (v' := 1) hj ?_
  refine aw_look (tgt := 52) d_Tr_undecided_18 rfl rfl rfl ?_
  refine aw_ldc2 (b := MO) kc_Tr_50 rfl d_Tr_undecided_52 ?_
  exact aw_lret d_Tr_undecided_55 rfl ⟨by unfold opn; rw [if_neg (by decide), if_neg (by omega), if_neg (by omega)], rfl, rfl⟩
theorem m_Tr_undecided {d : Nat} (hd : 0 ≤ d) (hR : ∀ k j, mR μ k j = R0 pg k j) {s : Nat} (hs : mI μ 11 6 = (s : Int)) (hs8 : s < 256) {n : Nat} (hn40 : n ≤ 40) (ok : okT (mI μ 12) (mI μ 13) (mI μ 14) s n) {x : Nat} (hx : x < n) (hj : mI μ 12 x < 3) : AM G false d 0 0 y_Tr_undecided [aP 11, aI (x : Int)] 94 μ (Qe (some (aL (opn (mI μ 12) (mI μ 13) (mL μ 15) true x))) 94 μ) := by
  obtain ⟨o1, -⟩ := ok x hx
  rcases (show mI μ 12 x = 2 ∨ mI μ 12 x = 0 ∨ mI μ 12 x = 1 by omega) with h | h | h
  · exact m_Tr_undecided_2 hd hR hs hs8 hn40 ok hx h
  · exact m_Tr_undecided_0 hd hR hs hs8 hn40 ok hx h
  · exact m_Tr_undecided_1 hd hR hs hs8 hn40 ok hx h
set_option maxRecDepth 100000 in
theorem m_Tr_reachParts {d : Nat} (hd : 1 ≤ d) (hR : ∀ k j, mR μ k j = R0 pg k j) {s : Nat} (hs : mI μ 11 6 = (s : Int)) (hs8 : s < 256) {n : Nat} (hn40 : n ≤ 40) (ok : okT (mI μ 12) (mI μ 13) (mI μ 14) s n) {x : Nat} (hx : x < n) {sh : Bool} (hj : mI μ 12 x < 4) : AM G false d 0 0 y_Tr_reachParts [aP 11, aI (x : Int), aI (bI sh)] 94 μ (Qe none 94 (if mI μ 12 x = 3 then wL μ 16 (mI μ 13 x).toNat (mL μ 16 x) else wL (wL μ 16 (mI μ 13 x).toNat (mL μ 16 x)) 16 (mI μ 14 x).toNat (mL μ 16 x &&& (opn (mI μ 12) (mI μ 13) (mL μ 15) sh x)))) := by
  refine am_of (n := 2) pf_Tr_reachParts (Nat.le_of_ble_eq_true rfl) (by intro v hv; simp only [List.mem_cons, List.not_mem_nil, or_false] at hv; rcases hv with rfl | rfl | rfl <;> first | trivial | assumption | exact in_c rfl | exact bI_in _ | (show inR _; unfold inR; omega)) rfl ?_
  obtain ⟨o1, o2, o3, o4⟩ := ok x hx
  refine aw_aload_n d_Tr_reachParts_0 rfl rfl ?_
  refine aw_getR fd_Tr_reached lk_Tr_25 (by omega) rfl d_Tr_reachParts_1 (hR _ _) ?_
  refine aw_aload_n d_Tr_reachParts_4 rfl rfl ?_
  refine aw_getR fd_Tr_lefts lk_Tr_15 (by omega) rfl d_Tr_reachParts_5 (hR _ _) ?_
  refine aw_iload_n d_Tr_reachParts_8 rfl rfl ?_
  refine aw_iald (n := x) (by omega) rfl rfl (by omega) d_Tr_reachParts_9 ?_
  refine aw_tv (v' := (((mI μ 13 x).toNat : Nat) : Int)) (by omega) ?_
  refine aw_aload_n d_Tr_reachParts_10 rfl rfl ?_
  refine aw_getR fd_Tr_reached lk_Tr_25 (by omega) rfl d_Tr_reachParts_11 (hR _ _) ?_
  refine aw_iload_n d_Tr_reachParts_14 rfl rfl ?_
  refine aw_lald (n := x) (by omega) rfl rfl (by omega) d_Tr_reachParts_15 ?_
  refine aw_last (n := (mI μ 13 x).toNat) (by omega) rfl rfl (by omega) d_Tr_reachParts_16 ?_
  refine aw_pc (pc' := 17) rfl ?_
  refine aw_aload_n d_Tr_reachParts_17 rfl rfl ?_
  refine aw_getR fd_Tr_joints lk_Tr_9 (by omega) rfl d_Tr_reachParts_18 (hR _ _) ?_
  refine aw_iload_n d_Tr_reachParts_21 rfl rfl ?_
  refine aw_iald (n := x) (by omega) rfl rfl (by omega) d_Tr_reachParts_22 ?_
  refine aw_tv (v' := mI μ 12 x) rfl ?_
  refine aw_iconst d_Tr_reachParts_23 (in_c rfl) ?_
  refine aw_icmp_eq (tgt := 62) d_Tr_reachParts_24 rfl (fun h24 => ?_) (fun h24 => ?_)
  · exact aw_vret d_Tr_reachParts_62 rfl ⟨rfl, rfl, by rw [if_pos h24]⟩
  · refine aw_iload_n d_Tr_reachParts_27 rfl rfl ?_
    refine aw_if_eq (tgt := 39) d_Tr_reachParts_28 rfl (fun h28 => ?_) (fun h28 => ?_)
    · replace h28 := bz h28
      refine aw_ldc2 (b := MO) kc_Tr_50 rfl d_Tr_reachParts_39 ?_
      refine aw_tl (v' := (opn (mI μ 12) (mI μ 13) (mL μ 15) sh x)) (by rw [h28]; rfl) ?_
      refine aw_lstore_n (lst' := [_, _, _, _, _]) d_Tr_reachParts_42 rfl (Nat.le_of_ble_eq_true rfl) rfl ?_
      refine aw_aload_n d_Tr_reachParts_43 rfl rfl ?_
      refine aw_getR fd_Tr_reached lk_Tr_25 (by omega) rfl d_Tr_reachParts_44 (hR _ _) ?_
      refine aw_aload_n d_Tr_reachParts_47 rfl rfl ?_
      refine aw_getR fd_Tr_rights lk_Tr_18 (by omega) rfl d_Tr_reachParts_48 (hR _ _) ?_
      refine aw_iload_n d_Tr_reachParts_51 rfl rfl ?_
      refine aw_iald (n := x) (by omega) rfl rfl (by omega) d_Tr_reachParts_52 ?_
      refine aw_tv (v' := (((mI μ 14 x).toNat : Nat) : Int)) (by show mI μ 14 x = _; omega) ?_
      refine aw_aload_n d_Tr_reachParts_53 rfl rfl ?_
      refine aw_getR fd_Tr_reached lk_Tr_25 (by omega) rfl d_Tr_reachParts_54 (hR _ _) ?_
      refine aw_iload_n d_Tr_reachParts_57 rfl rfl ?_
      refine aw_pc (pc' := 58) rfl ?_
      refine aw_lald (n := x) (by omega) rfl rfl (by omega) d_Tr_reachParts_58 ?_
      refine aw_tl (v' := mL μ 16 x) (by rw [mL_wL, if_neg (by omega)]) ?_
      refine aw_lload_n d_Tr_reachParts_59 rfl rfl ?_
      refine aw_land d_Tr_reachParts_60 ?_
      refine aw_last (n := (mI μ 14 x).toNat) (by omega) rfl rfl (by omega) d_Tr_reachParts_61 ?_
      exact aw_vret d_Tr_reachParts_62 rfl ⟨rfl, rfl, by rw [if_neg h24]⟩
    · replace h28 := bn h28
      refine aw_aload_n d_Tr_reachParts_31 rfl rfl ?_
      refine aw_iload_n d_Tr_reachParts_32 rfl rfl ?_
      refine aw_ve (as := [_]) rfl cv_Tr_61 (by omega) rfl rfl d_Tr_reachParts_33 (Nat.le_of_ble_eq_true rfl) (d' := d - 1) (by omega) (m_Tr_undecided (μ := (wL μ 16 (mI μ 13 x).toNat (mL μ 16 x))) (s := s) (n := n) (x := x) (by omega) (fun a b => hR a b) (by exact hs) hs8 hn40 (by exact ok) hx (by show mI μ 12 x < 3; omega)) ?_
      refine aw_tl (v' := (opn (mI μ 12) (mI μ 13) (mL μ 15) sh x)) (by rw [h28]; rfl) ?_
      refine aw_goto (tgt := 42) d_Tr_reachParts_36 rfl ?_
      refine aw_lstore_n (lst' := [_, _, _, _, _]) d_Tr_reachParts_42 rfl (Nat.le_of_ble_eq_true rfl) rfl ?_
      refine aw_aload_n d_Tr_reachParts_43 rfl rfl ?_
      refine aw_getR fd_Tr_reached lk_Tr_25 (by omega) rfl d_Tr_reachParts_44 (hR _ _) ?_
      refine aw_aload_n d_Tr_reachParts_47 rfl rfl ?_
      refine aw_getR fd_Tr_rights lk_Tr_18 (by omega) rfl d_Tr_reachParts_48 (hR _ _) ?_
      refine aw_iload_n d_Tr_reachParts_51 rfl rfl ?_
      refine aw_iald (n := x) (by omega) rfl rfl (by omega) d_Tr_reachParts_52 ?_
      refine aw_tv (v' := (((mI μ 14 x).toNat : Nat) : Int)) (by show mI μ 14 x = _; omega) ?_
      refine aw_pc (pc' := 53) rfl ?_
      refine aw_aload_n d_Tr_reachParts_53 rfl rfl ?_
      refine aw_getR fd_Tr_reached lk_Tr_25 (by omega) rfl d_Tr_reachParts_54 (hR _ _) ?_
      refine aw_iload_n d_Tr_reachParts_57 rfl rfl ?_
      refine aw_lald (n := x) (by omega) rfl rfl (by omega) d_Tr_reachParts_58 ?_
      refine aw_tl (v' := mL μ 16 x) (by rw [mL_wL, if_neg (by omega)]) ?_
      refine aw_lload_n d_Tr_reachParts_59 rfl rfl ?_
      refine aw_land d_Tr_reachParts_60 ?_
      refine aw_last (n := (mI μ 14 x).toNat) (by omega) rfl rfl (by omega) d_Tr_reachParts_61 ?_
      exact aw_vret d_Tr_reachParts_62 rfl ⟨rfl, rfl, by rw [if_neg h24]⟩
end
