/-! the class reads the whole -/
section
def FrD (μ m : aM) : Prop := (∀ a b, a ≠ 11 → a ≠ 12 → a ≠ 13 → a ≠ 14 → a ≠ 17 → mI m a b = mI μ a b) ∧ (∀ a b, mL m a b = mL μ a b) ∧ (∀ a b, mR m a b = mR μ a b)
theorem FrD_T {c : Nat} {μ m l : aM} (h : FrD μ m) (g : FrT c m l) : FrD μ l := ⟨fun a b h1 h2 h3 h4 h5 => (g.1 a b h2 h3 h4 (fun z => h5 z.1) (fun z => h1 z.1)).trans (h.1 a b h1 h2 h3 h4 h5), fun a b => (g.2.2.1 a b).trans (h.2.1 a b), fun a b => (g.2.2.2 a b).trans (h.2.2 a b)⟩
theorem FrD_0 (μ : aM) (z : Int) : FrD μ (wI (wI (wI (wI (wI μ 17 2 z) 17 3 0) 17 4 (-1)) 11 5 0) 11 6 0) :=
  ⟨fun a b h1 _ _ _ h5 => by rw [mI_wI, if_neg (fun q => h1 q.1), mI_wI, if_neg (fun q => h1 q.1), mI_wI, if_neg (fun q => h5 q.1), mI_wI, if_neg (fun q => h5 q.1), mI_wI, if_neg (fun q => h5 q.1)], fun _ _ => rfl, fun _ _ => rfl⟩
variable {G : aG} {pg : Nat} {μ : aM}
set_option maxRecDepth 100000 in
theorem m_Re_readJoined_3 {d : Nat} (hd : 1 ≤ d) (hR : ∀ k j, mR μ k j = R0 pg k j) {t : Nat → Int} {n md : Nat} (hn40 : n ≤ 40) (hmd : md ≤ 8) (hRd : Rd t n md μ) {p e0 s c : Nat} (he6 : e0 ≤ 6) (hS : RdS t md μ p e0 s c) (hp : p ≤ n) (hO : (∀ (dd : Nat) (μ : aM) (p s c : Nat), 6 * (6 - e0) + 8 ≤ dd → (∀ a b, mR μ a b = R0 pg a b) → Rd t n md μ → RdS t md μ p e0 s c → p ≤ n → AM G false dd 0 0 y_Re_readOne [aP 17, aI (e0 : Int)] 94 μ (Qn (RdP t n md 3 e0 p c μ)))) (hdd : 6 * (6 - e0) + 9 ≤ d) : AM G false d 0 0 y_Re_readJoined [aP 17, aI 3, aI (e0 : Int)] 94 μ (Qn (RdP t n md 3 e0 p c μ)) := by
  refine am_of (n := 2) pf_Re_readJoined (Nat.le_of_ble_eq_true rfl) (by intro v hv; simp only [List.mem_cons, List.not_mem_nil, or_false] at hv; rcases hv with rfl | rfl | rfl <;> first | trivial | assumption | exact in_c rfl | exact bI_in _ | (show inR _; unfold inR; omega)) rfl ?_
  obtain ⟨hS1, hS2, hS3, hS4, hS5, hS6⟩ := hS
  have hin := au_in hmd hS6
  have hin1 : 1 ≤ e0 := hin.1
  have hin2 : e0 ≤ 6 := hin.2.1
  have hin3 : s < 256 := hin.2.2.1
  have hch := atC_in hRd p
  refine aw_iload_n d_Re_readJoined_0 rfl rfl ?_
  refine aw_iconst d_Re_readJoined_1 (in_c rfl) ?_
  refine aw_icmp_ne (tgt := 11) d_Re_readJoined_2 rfl (fun h2 => absurd h2 (fun z => z rfl)) (fun h2 => ?_)
  refine aw_aload_n d_Re_readJoined_5 rfl rfl ?_
  refine aw_iload_n d_Re_readJoined_6 rfl rfl ?_
  refine aw_vn (as := [_]) rfl cv_Re_44 (by omega) rfl rfl d_Re_readJoined_7 (Nat.le_of_ble_eq_true rfl) (d' := d - 1) (by omega) (hO (d - 1) μ p s c (by omega) hR hRd ⟨hS1, hS2, hS3, hS4, hS5, hS6⟩ hp) ?_
  rintro v n1 μ1 ⟨rfl, z, rfl, hF1, hP1⟩
  exact aw_iret d_Re_readJoined_10 rfl ⟨rfl, z, rfl, hF1, hP1⟩
set_option maxRecDepth 100000 in
theorem m_Re_readJoined_v {d : Nat} (hd : 5 ≤ d) (hR : ∀ k j, mR μ k j = R0 pg k j) {t : Nat → Int} {n md : Nat} (hn40 : n ≤ 40) (hmd : md ≤ 8) (hRd : Rd t n md μ) {p e0 s c : Nat} (he6 : e0 ≤ 6) (hS : RdS t md μ p e0 s c) (hp : p ≤ n) {v : Nat} (hv : v < 3) (hJ : (∀ (dd : Nat) (μ : aM) (p s c : Nat), 6 * (6 - e0) + (3 - (v + 1)) + 9 ≤ dd → (∀ a b, mR μ a b = R0 pg a b) → Rd t n md μ → RdS t md μ p e0 s c → p ≤ n → AM G false dd 0 0 y_Re_readJoined [aP 17, aI ((v + 1 : Nat) : Int), aI (e0 : Int)] 94 μ (Qn (RdP t n md (v + 1) e0 p c μ)))) (hdd : 6 * (6 - e0) + (3 - v) + 9 ≤ d) : AM G false d 0 0 y_Re_readJoined [aP 17, aI (v : Int), aI (e0 : Int)] 94 μ (Qn (RdP t n md v e0 p c μ)) := by
  refine am_of (n := 2) pf_Re_readJoined (Nat.le_of_ble_eq_true rfl) (by intro v hv; simp only [List.mem_cons, List.not_mem_nil, or_false] at hv; rcases hv with rfl | rfl | rfl <;> first | trivial | assumption | exact in_c rfl | exact bI_in _ | (show inR _; unfold inR; omega)) rfl ?_
  obtain ⟨hS1, hS2, hS3, hS4, hS5, hS6⟩ := hS
  have hin := au_in hmd hS6
  have hin1 : 1 ≤ e0 := hin.1
  have hin2 : e0 ≤ 6 := hin.2.1
  have hin3 : s < 256 := hin.2.2.1
  have hch := atC_in hRd p
  have key : ∀ (m : Nat) (z : Int) (μ2 : aM) (o4 : Option aV), (if mI μ2 17 4 = -1 then n + 2 - (mI μ2 17 3).toNat else 0) = m → (FrT 0 μ μ2 ∧ ((FrT c μ μ2 ∧ RdO2 t n md v (v + 1) e0 p c z μ2) ∨ RdF t n md e0 z μ2)) → AW G false y_Re_readJoined d 0 0 (Qn (RdP t n md v e0 p c μ)) 20 [some (aP 17), some (aI (v : Int)), some (aI (e0 : Int)), some (aI z), o4] [] 94 μ2 := by
    intro m
    induction m using Nat.strongRecOn with | _ m ih =>
    intro z μ2 o4 hm hw
    have hR2 : ∀ a b, mR μ2 a b = R0 pg a b := fun a b => (hw.1.2.2.2 a b).trans (hR a b)
    have hRd2 : Rd t n md μ2 := hRd.fr hw.1
    refine aw_aload_n d_Re_readJoined_20 rfl rfl ?_
    refine aw_getI fd_Re_fault lk_Re_18 (by omega) rfl d_Re_readJoined_21 ?_
    refine aw_iconst d_Re_readJoined_24 (in_c rfl) ?_
    refine aw_icmp_ne (tgt := 97) d_Re_readJoined_25 rfl (fun h25 => ?_) (fun h25 => ?_)
    · refine aw_iload_n d_Re_readJoined_97 rfl rfl ?_
      exact aw_iret d_Re_readJoined_98 rfl ⟨rfl, z, rfl, hw.1, Or.inr (hw.2.resolve_left (fun g => h25 (RdOk_nf g.2)))⟩
    · refine aw_aload_n d_Re_readJoined_28 rfl rfl ?_
      obtain ⟨hFc, q, x, s1, f1, k1, k2, k3, k4, k5, k6, k7, k8, k9, k10⟩ := hw.2.resolve_right (fun g => RdF_nf g h25)
      have hb9 := Seg_b k9
      refine aw_getI fd_Re_place lk_Re_15 (by omega) rfl d_Re_readJoined_29 ?_
      refine aw_tv (v' := (q : Int)) k4 ?_
      refine aw_aload_n d_Re_readJoined_32 rfl rfl ?_
      refine aw_getR fd_Re_text lk_Re_21 (by omega) rfl d_Re_readJoined_33 (hR2 _ _) ?_
      refine aw_ve (as := []) rfl cv_Re_38 (by omega) rfl rfl d_Re_readJoined_36 (Nat.le_of_ble_eq_true rfl) (d' := d - 1) (by omega) (m_Li_size (μ := μ2) (k := 9) (by omega) (by omega) rfl rfl (hR2 _ _)) ?_
      refine aw_tv (v' := (n : Int)) hRd2.1 ?_
      refine aw_icmp_ge (tgt := 97) d_Re_readJoined_39 rfl (fun h39 => ?_) (fun h39 => ?_)
      · refine aw_iload_n d_Re_readJoined_97 rfl rfl ?_
        exact aw_iret d_Re_readJoined_98 rfl ⟨rfl, z, rfl, hw.1, Or.inl ⟨hFc, q, x, s1, f1, k1, k2, k3, k4, k5, k6, k7, k8, k9, fun u u1 u2 => Or.inl (by omega)⟩⟩
      · refine aw_aload_n d_Re_readJoined_42 rfl rfl ?_
        have hqn : q < n := by omega
        have hqc := atC_in hRd2 q
        refine aw_getR fd_Re_text lk_Re_21 (by omega) rfl d_Re_readJoined_43 (hR2 _ _) ?_
        refine aw_aload_n d_Re_readJoined_46 rfl rfl ?_
        refine aw_getI fd_Re_place lk_Re_15 (by omega) rfl d_Re_readJoined_47 ?_
        refine aw_tv (v' := (q : Int)) k4 ?_
        refine aw_ve (as := [_]) rfl cv_Re_48 (by omega) rfl rfl d_Re_readJoined_50 (Nat.le_of_ble_eq_true rfl) (d' := d - 1) (by omega) (m_Li_at (μ := μ2) (k := 9) (by omega) (by omega) rfl rfl (hR2 _ _) (by unfold inR; omega) (by rw [hRd2.1]; omega) hRd2.2.2.2) ?_
        refine aw_tv (v' := atC t n q) (at_eq hRd2 q) ?_
        refine aw_ldcS (k := 2) (Or.inl ⟨rfl, rfl, rfl⟩) d_Re_readJoined_53 ?_
        refine aw_iload_n d_Re_readJoined_55 rfl rfl ?_
        refine aw_vo (as := [_]) (k := 2) rfl (Or.inl rfl) rfl cv_Re_54 d_Re_readJoined_56 (Nat.le_of_ble_eq_true rfl) (d' := d - 1) (by omega) (m_jS_charAt (j := v) (by omega) (Or.inl rfl) (by omega)) ?_
        refine aw_tv (v' := sgn v) rfl ?_
        refine aw_icmp_ne (tgt := 97) d_Re_readJoined_59 rfl (fun h59 => ?_) (fun h59 => ?_)
        · refine aw_iload_n d_Re_readJoined_97 rfl rfl ?_
          exact aw_iret d_Re_readJoined_98 rfl ⟨rfl, z, rfl, hw.1, Or.inl ⟨hFc, q, x, s1, f1, k1, k2, k3, k4, k5, k6, k7, k8, k9, fun u u1 u2 => by by_cases e : u = v; (subst e; exact Or.inr (by rw [← atC_lt (t := t) hqn]; exact h59)); exact k10 u (by omega) u2⟩⟩
        · refine aw_aload_n d_Re_readJoined_62 rfl rfl ?_
          have htq : t q = sgn v := by rw [← atC_lt (t := t) hqn]; exact h59
          refine aw_dup d_Re_readJoined_63 rfl ?_
          refine aw_getI fd_Re_place lk_Re_15 (by omega) rfl d_Re_readJoined_64 ?_
          refine aw_tv (v' := (q : Int)) k4 ?_
          refine aw_iconst d_Re_readJoined_67 (in_c rfl) ?_
          refine aw_iadd d_Re_readJoined_68 (by unfold inR; omega) ?_
          refine aw_putI fd_Re_place lk_Re_15 (by omega) rfl d_Re_readJoined_69 (Or.inl rfl) ?_
          refine aw_aload_n d_Re_readJoined_72 rfl rfl ?_
          refine aw_iload_n d_Re_readJoined_73 rfl rfl ?_
          refine aw_iconst d_Re_readJoined_74 (in_c rfl) ?_
          refine aw_iadd d_Re_readJoined_75 (by unfold inR; omega) ?_
          refine aw_tv (v' := ((v + 1 : Nat) : Int)) (by omega) ?_
          refine aw_iload_n d_Re_readJoined_76 rfl rfl ?_
          refine aw_pc (pc' := 77) rfl ?_
          refine aw_vn (as := [_, _]) rfl cv_Re_34 (by omega) rfl rfl d_Re_readJoined_77 (Nat.le_of_ble_eq_true rfl) (d' := d - 1) (by omega) (hJ (d - 1) (wI μ2 17 3 ((q : Int) + 1)) (q + 1) s1 (x + 1) (by omega) (fun a b => hR2 a b) (hRd2.fr (FrT_w (c := 0) μ2 _ (Or.inl ⟨rfl, Or.inl rfl⟩))) ⟨by rw [mI_wI, if_pos ⟨rfl, rfl⟩]; omega, k5, k6, k7, by omega, au_sgn k8 hv htq⟩ (by omega)) ?_
          rintro v' n1 μ4 ⟨rfl, z4, rfl, hF4, hP4⟩
          have hR4 : ∀ a b, mR μ4 a b = R0 pg a b := fun a b => (hF4.2.2.2 a b).trans (hR2 a b)
          obtain ⟨k, hk, hk40, hz4⟩ : ∃ k : Nat, mI μ4 11 5 = (k : Int) ∧ k ≤ 40 ∧ inR z4 := by
            rcases hP4 with ⟨-, q', x', s1', f1', j1, j2, j3, j4, j5, j6, j7, j8, j9, j10⟩ | ⟨q', j1, j2, j3, j4, j5⟩
            · have := Seg_b j9; exact ⟨x' + 1, j6, by omega, by unfold inR; omega⟩
            · exact ⟨(mI μ4 11 5).toNat, by omega, by omega, by unfold inR; omega⟩
          refine aw_istore (lst' := [_, _, _, _, _]) d_Re_readJoined_80 (Nat.le_of_ble_eq_true rfl) rfl ?_
          refine aw_aload_n d_Re_readJoined_82 rfl rfl ?_
          refine aw_getR fd_Re_tree lk_Re_25 (by omega) rfl d_Re_readJoined_83 (hR4 _ _) ?_
          refine aw_iload_n d_Re_readJoined_86 rfl rfl ?_
          refine aw_iload_n d_Re_readJoined_87 rfl rfl ?_
          refine aw_iload d_Re_readJoined_88 rfl ?_
          refine aw_vn (as := [_, _, _]) rfl cv_Re_59 (by omega) rfl rfl d_Re_readJoined_90 (Nat.le_of_ble_eq_true rfl) (d' := d - 1) (by omega) (g_Tr_add (μ := μ4) (c := k) (j := (v : Int)) (l := z) (r := z4) (by omega) hR4 hk hk40 (by unfold inR; omega) (by rw [k3]; unfold inR; omega) hz4) ?_
          rintro v' n1 μ5 ⟨rfl, z5, rfl, hA⟩
          have hF5 : FrT 0 μ4 μ5 := by
            rcases hA with ⟨a1, a2, rfl⟩ | ⟨a1, a2, rfl⟩
            · exact FrT_ad (Nat.zero_le _) _ _ _ _
            · exact FrT.refl _ _
          refine aw_istore_n (lst' := [_, _, _, _, _]) d_Re_readJoined_93 rfl (Nat.le_of_ble_eq_true rfl) rfl ?_
          refine aw_goto (tgt := 20) d_Re_readJoined_94 rfl ?_
          have hB := bin_step (s := s1) hn40 hv hS5 k1 k9 htq hFc (FrT_w (c := x + 1) μ2 ((q : Int) + 1) (Or.inl ⟨rfl, Or.inl rfl⟩)) hk hP4 (by rw [k3] at hA; exact hA)
          exact ih _ (by rw [← hm, if_pos k5, k4]; by_cases h9 : mI μ5 17 4 = -1; (rw [if_pos h9]; have := hB.2 h9; omega); (rw [if_neg h9]; omega)) z5 μ5 _ rfl ⟨((hw.1.trans (FrT_w μ2 _ (Or.inl ⟨rfl, Or.inl rfl⟩)) (Nat.le_refl _)).trans hF4 (Nat.le_refl _)).trans hF5 (Nat.le_refl _), hB.1⟩
  refine aw_iload_n d_Re_readJoined_0 rfl rfl ?_
  refine aw_iconst d_Re_readJoined_1 (in_c rfl) ?_
  refine aw_icmp_ne (tgt := 11) d_Re_readJoined_2 rfl (fun h2 => ?_) (fun h2 => absurd h2 (by omega))
  refine aw_aload_n d_Re_readJoined_11 rfl rfl ?_
  refine aw_iload_n d_Re_readJoined_12 rfl rfl ?_
  refine aw_iconst d_Re_readJoined_13 (in_c rfl) ?_
  refine aw_iadd d_Re_readJoined_14 (by unfold inR; omega) ?_
  refine aw_tv (v' := ((v + 1 : Nat) : Int)) (by omega) ?_
  refine aw_iload_n d_Re_readJoined_15 rfl rfl ?_
  refine aw_vn (as := [_, _]) rfl cv_Re_34 (by omega) rfl rfl d_Re_readJoined_16 (Nat.le_of_ble_eq_true rfl) (d' := d - 1) (by omega) (hJ (d - 1) μ p s c (by omega) hR hRd ⟨hS1, hS2, hS3, hS4, hS5, hS6⟩ hp) ?_
  rintro v' n1 μ1 ⟨rfl, z, rfl, hF1, hP1⟩
  refine aw_istore_n (lst' := [_, _, _, _, _]) d_Re_readJoined_19 rfl (Nat.le_of_ble_eq_true rfl) rfl ?_
  exact key _ z μ1 none rfl ⟨hF1, hP1.imp (fun g => ⟨g.1, RdO2_up hv g.2⟩) id⟩
theorem rd_J {t : Nat → Int} {n md : Nat} (hn40 : n ≤ 40) (hmd : md ≤ 8) : ∀ (k e0 : Nat), e0 + k = 6 → 1 ≤ e0 → (∀ (dd : Nat) (μ : aM) (p s c : Nat), 6 * (6 - e0) + 12 ≤ dd → (∀ a b, mR μ a b = R0 pg a b) → Rd t n md μ → RdS t md μ p e0 s c → p ≤ n → AM G false dd 0 0 y_Re_readJoined [aP 17, aI ((0 : Nat) : Int), aI (e0 : Int)] 94 μ (Qn (RdP t n md 0 e0 p c μ)))
  | k, e0, hk, h1 => by
    have hI : (∀ (dd : Nat) (μ : aM) (p s c : Nat), 6 * (6 - e0) + 7 ≤ dd → (∀ a b, mR μ a b = R0 pg a b) → Rd t n md μ → RdS t md μ p e0 s c → p ≤ n → p < n → t p = 40 → AM G false dd 0 0 y_Re_readInner [aP 17, aI (e0 : Int)] 94 μ (Qn (RdP t n md 3 e0 p c μ))) := by
      intro dd μ p s c hdd hR hRd hS hp hpn h40
      refine m_Re_readInner (by omega) hR hn40 hmd hRd (by omega) hS hp hpn h40 (fun h6 => ?_) hdd
      match k, hk with
      | 0, hk => omega
      | k + 1, hk => exact rd_J hn40 hmd k (e0 + 1) (by omega) (by omega)
    have hO : (∀ (dd : Nat) (μ : aM) (p s c : Nat), 6 * (6 - e0) + 8 ≤ dd → (∀ a b, mR μ a b = R0 pg a b) → Rd t n md μ → RdS t md μ p e0 s c → p ≤ n → AM G false dd 0 0 y_Re_readOne [aP 17, aI (e0 : Int)] 94 μ (Qn (RdP t n md 3 e0 p c μ))) := fun dd μ p s c hdd hR hRd hS hp => m_Re_readOne (by omega) hR hn40 hmd hRd (by omega) hS hp hI hdd
    have h3 : (∀ (dd : Nat) (μ : aM) (p s c : Nat), 6 * (6 - e0) + (3 - (2 + 1)) + 9 ≤ dd → (∀ a b, mR μ a b = R0 pg a b) → Rd t n md μ → RdS t md μ p e0 s c → p ≤ n → AM G false dd 0 0 y_Re_readJoined [aP 17, aI ((2 + 1 : Nat) : Int), aI (e0 : Int)] 94 μ (Qn (RdP t n md (2 + 1) e0 p c μ))) := fun dd μ p s c hdd hR hRd hS hp => m_Re_readJoined_3 (by omega) hR hn40 hmd hRd (by omega) hS hp hO (by omega)
    have h2 : (∀ (dd : Nat) (μ : aM) (p s c : Nat), 6 * (6 - e0) + (3 - (1 + 1)) + 9 ≤ dd → (∀ a b, mR μ a b = R0 pg a b) → Rd t n md μ → RdS t md μ p e0 s c → p ≤ n → AM G false dd 0 0 y_Re_readJoined [aP 17, aI ((1 + 1 : Nat) : Int), aI (e0 : Int)] 94 μ (Qn (RdP t n md (1 + 1) e0 p c μ))) := fun dd μ p s c hdd hR hRd hS hp => m_Re_readJoined_v (v := 2) (by omega) hR hn40 hmd hRd (by omega) hS hp (by omega) h3 (by omega)
    have h1' : (∀ (dd : Nat) (μ : aM) (p s c : Nat), 6 * (6 - e0) + (3 - (0 + 1)) + 9 ≤ dd → (∀ a b, mR μ a b = R0 pg a b) → Rd t n md μ → RdS t md μ p e0 s c → p ≤ n → AM G false dd 0 0 y_Re_readJoined [aP 17, aI ((0 + 1 : Nat) : Int), aI (e0 : Int)] 94 μ (Qn (RdP t n md (0 + 1) e0 p c μ))) := fun dd μ p s c hdd hR hRd hS hp => m_Re_readJoined_v (v := 1) (by omega) hR hn40 hmd hRd (by omega) hS hp (by omega) h2 (by omega)
    exact fun dd μ p s c hdd hR hRd hS hp => m_Re_readJoined_v (v := 0) (by omega) hR hn40 hmd hRd (by omega) hS hp (by omega) h1' (by omega)
set_option maxRecDepth 100000 in
theorem m_Re_read {d : Nat} (hd : 46 ≤ d) (hR : ∀ k j, mR μ k j = R0 pg k j) {t : Nat → Int} {n md : Nat} (hn40 : n ≤ 40) (hmd : md ≤ 8) (h91 : mI μ 9 1 = (n : Int)) (htx : ∀ p, p < n → mI μ 10 p = t p) (hcx : ∀ j, 0 ≤ mI μ 10 j ∧ mI μ 10 j < 65536) : AM G false d 0 0 y_Re_read [aP 17, aI (md : Int)] 94 μ (Qn (fun r n9 m => n9 = 94 ∧ FrD μ m ∧ ((∃ q : Nat, Flt t md n q ∧ r = some (aI (q : Int))) ∨ (∃ x s f : Nat, r = some (aI (-1)) ∧ au t md n = some (false, 1, s) ∧ Seg t (mI m 12) (mI m 13) (mI m 14) f 0 1 0 n 0 x ∧ mI m 11 5 = ((x + 1 : Nat) : Int) ∧ mI m 11 6 = (s : Int))))) := by
  refine am_of (n := 0) pf_Re_read (Nat.le_of_ble_eq_true rfl) (by intro v hv; simp only [List.mem_cons, List.not_mem_nil, or_false] at hv; rcases hv with rfl | rfl <;> first | trivial | assumption | exact in_c rfl | exact bI_in _ | (show inR _; unfold inR; omega)) rfl ?_
  refine aw_aload_n d_Re_read_0 rfl rfl ?_
  refine aw_iload_n d_Re_read_1 rfl rfl ?_
  refine aw_putI fd_Re_known lk_Re_9 (by omega) rfl d_Re_read_2 (Or.inl rfl) ?_
  refine aw_aload_n d_Re_read_5 rfl rfl ?_
  refine aw_iconst d_Re_read_6 (in_c rfl) ?_
  refine aw_putI fd_Re_place lk_Re_15 (by omega) rfl d_Re_read_7 (Or.inl rfl) ?_
  refine aw_aload_n d_Re_read_10 rfl rfl ?_
  refine aw_iconst d_Re_read_11 (in_c rfl) ?_
  refine aw_putI fd_Re_fault lk_Re_18 (by omega) rfl d_Re_read_12 (Or.inl rfl) ?_
  refine aw_aload_n d_Re_read_15 rfl rfl ?_
  refine aw_getR fd_Re_tree lk_Re_25 (by omega) rfl d_Re_read_16 (hR _ _) ?_
  refine aw_pc (pc' := 19) rfl ?_
  refine aw_ve (as := []) rfl cv_Re_29 (by omega) rfl rfl d_Re_read_19 (Nat.le_of_ble_eq_true rfl) (d' := d - 1) (by omega) (m_Tr_clear (by omega)) ?_
  refine aw_aload_n d_Re_read_22 rfl rfl ?_
  refine aw_iconst d_Re_read_23 (in_c rfl) ?_
  refine aw_tv (v' := ((0 : Nat) : Int)) rfl ?_
  refine aw_iconst d_Re_read_24 (in_c rfl) ?_
  refine aw_tv (v' := ((1 : Nat) : Int)) rfl ?_
  have hFD := FrD_0 μ (md : Int)
  have hRd0 : Rd t n md (wI (wI (wI (wI (wI μ 17 2 (md : Int)) 17 3 0) 17 4 (-1)) 11 5 0) 11 6 0) := ⟨h91, rfl, htx, hcx⟩
  refine aw_vn (as := [_, _]) rfl cv_Re_34 (by omega) rfl rfl d_Re_read_25 (Nat.le_of_ble_eq_true rfl) (d' := d - 1) (by omega) (rd_J hn40 hmd 5 1 rfl (Nat.le_refl _) (d - 1) (wI (wI (wI (wI (wI μ 17 2 (md : Int)) 17 3 0) 17 4 (-1)) 11 5 0) 11 6 0) 0 0 0 (by omega) (fun a b => hR a b) hRd0 ⟨rfl, rfl, rfl, rfl, Nat.le_refl _, rfl⟩ (Nat.zero_le _)) ?_
  rintro v n1 μ1 ⟨rfl, z, rfl, hF1, hP1⟩
  have hRd1 : Rd t n md μ1 := hRd0.fr hF1
  have hR1 : ∀ a b, mR μ1 a b = R0 pg a b := fun a b => (hF1.2.2.2 a b).trans (hR a b)
  refine aw_pop d_Re_read_28 rfl ?_
  refine aw_aload_n d_Re_read_29 rfl rfl ?_
  refine aw_getI fd_Re_fault lk_Re_18 (by omega) rfl d_Re_read_30 ?_
  refine aw_iconst d_Re_read_33 (in_c rfl) ?_
  refine aw_icmp_ne (tgt := 59) d_Re_read_34 rfl (fun h34 => ?_) (fun h34 => ?_)
  · refine aw_aload_n d_Re_read_59 rfl rfl ?_
    refine aw_getI fd_Re_fault lk_Re_18 (by omega) rfl d_Re_read_60 ?_
    exact aw_iret d_Re_read_63 rfl ⟨rfl, FrD_T hFD hF1, Or.inl (by obtain ⟨q, j1, j2, -⟩ := hP1.resolve_left (fun g => h34 (RdOk_nf (RdOk_2 g.2))); exact ⟨q, j1, by rw [j2]⟩)⟩
  · refine aw_aload_n d_Re_read_37 rfl rfl ?_
    obtain ⟨hFc, q, x, s1, f1, k1, k2, k3, k4, k5, k6, k7, k8, k9, k10⟩ := hP1.resolve_right (fun g => RdF_nf g h34)
    refine aw_getI fd_Re_place lk_Re_15 (by omega) rfl d_Re_read_38 ?_
    refine aw_tv (v' := (q : Int)) k4 ?_
    refine aw_aload_n d_Re_read_41 rfl rfl ?_
    refine aw_getR fd_Re_text lk_Re_21 (by omega) rfl d_Re_read_42 (hR1 _ _) ?_
    refine aw_ve (as := []) rfl cv_Re_38 (by omega) rfl rfl d_Re_read_45 (Nat.le_of_ble_eq_true rfl) (d' := d - 1) (by omega) (m_Li_size (μ := μ1) (k := 9) (by omega) (by omega) rfl rfl (hR1 _ _)) ?_
    refine aw_tv (v' := (n : Int)) hRd1.1 ?_
    refine aw_icmp_ge (tgt := 59) d_Re_read_48 rfl (fun h48 => ?_) (fun h48 => ?_)
    · refine aw_aload_n d_Re_read_59 rfl rfl ?_
      refine aw_getI fd_Re_fault lk_Re_18 (by omega) rfl d_Re_read_60 ?_
      exact aw_iret d_Re_read_63 rfl ⟨rfl, FrD_T hFD hF1, Or.inr ⟨x, s1, f1, by rw [k5], by rw [← show q = n by omega]; exact k8, by rw [← show q = n by omega]; exact k9, k6, k7⟩⟩
    · refine aw_aload_n d_Re_read_51 rfl rfl ?_
      refine aw_aload_n d_Re_read_52 rfl rfl ?_
      refine aw_getI fd_Re_place lk_Re_15 (by omega) rfl d_Re_read_53 ?_
      refine aw_tv (v' := (q : Int)) k4 ?_
      refine aw_putI fd_Re_fault lk_Re_18 (by omega) rfl d_Re_read_56 (Or.inl rfl) ?_
      refine aw_aload_n d_Re_read_59 rfl rfl ?_
      refine aw_getI fd_Re_fault lk_Re_18 (by omega) rfl d_Re_read_60 ?_
      exact aw_iret d_Re_read_63 rfl ⟨rfl, FrD_T (FrD_T hFD hF1) (FrT_w (c := 0) μ1 _ (Or.inl ⟨rfl, Or.inr rfl⟩)), Or.inl ⟨q, flt_end k8 (by omega) (fun u hu => k10 u (Nat.zero_le _) hu), by rw [mI_wI, if_pos ⟨rfl, rfl⟩]⟩⟩
end
