/-! the class reads brackets and nots -/
section
def RdO2 (t : Nat → Int) (n md v w d p c : Nat) (z : Int) (m : aM) : Prop := ∃ q x s f : Nat, p < q ∧ q ≤ n ∧ z = (x : Int) ∧ mI m 17 3 = (q : Int) ∧ mI m 17 4 = -1 ∧ mI m 11 5 = ((x + 1 : Nat) : Int) ∧ mI m 11 6 = (s : Int) ∧ au t md q = some (false, d, s) ∧ Seg t (mI m 12) (mI m 13) (mI m 14) f v d p q c x ∧ (∀ u, w ≤ u → u < 3 → q = n ∨ ¬ t q = sgn u)
theorem RdO2_up {t : Nat → Int} {n md v d p c : Nat} {z : Int} {m : aM} (hv : v < 3) (h : RdOk t n md (v + 1) d p c z m) : RdO2 t n md v (v + 1) d p c z m := by
  obtain ⟨q, x, s, f, h1, h2, h3, h4, h5, h6, h7, h8, h9, h10⟩ := h
  exact ⟨q, x, s, f + 1, h1, h2, h3, h4, h5, h6, h7, h8, Or.inl ⟨hv, h9⟩, h10⟩
theorem RdOk_nf {t : Nat → Int} {n md v w d p c : Nat} {z : Int} {m : aM} (h : RdO2 t n md v w d p c z m) : mI m 17 4 = -1 := by obtain ⟨_, _, _, _, _, _, _, _, h, _⟩ := h; exact h
theorem RdF_nf {t : Nat → Int} {n md d : Nat} {z : Int} {m : aM} (h : RdF t n md d z m) : ¬ mI m 17 4 = -1 := by obtain ⟨q, _, h, _⟩ := h; omega
theorem RdOk_2 {t : Nat → Int} {n md v d p c : Nat} {z : Int} {m : aM} (h : RdOk t n md v d p c z m) : RdO2 t n md v v d p c z m := h
/-- a not more -/
theorem not_step {t : Nat → Int} {n md d a c k : Nat} {z z' : Int} {μ m m' : aM} (hn : n ≤ 40) (hca : c ≤ a) (ht : t a = 33) (hk : mI m 11 5 = (k : Int)) (h : (FrT c μ m ∧ RdOk t n md 3 d (a + 1) c z m) ∨ RdF t n md d z m)
    (ha : (k < 40 ∧ z' = (k : Int) ∧ m' = adM m k 3 z (-1)) ∨ (k = 40 ∧ z' = -1 ∧ m' = m)) : (FrT c μ m' ∧ RdOk t n md 3 d a c z' m') ∨ RdF t n md d z' m' := by
  rcases h with ⟨hFr, q, x, s, f, h1, h2, h3, h4, h5, h6, h7, h8, h9, h10⟩ | ⟨q, h1, h2, h3, h4, h5⟩
  · have hb := Seg_b h9
    have hkx : k = x + 1 := by omega
    rcases ha with ⟨a1, a2, rfl⟩ | ⟨a1, -⟩
    · subst hkx
      left
      refine ⟨hFr.trans (FrT_ad (by omega) m _ _ _) (Nat.le_refl _), q, x + 1, s, f + 1, by omega, h2, a2, (ad_fix _ _ _ _ _).1.trans h4, (ad_fix _ _ _ _ _).2.1.trans h5, (ad_new _ _ _ _ _).2.2.2.trans (by omega), (ad_fix _ _ _ _ _).2.2.trans h7, h8, Or.inr (Or.inr (Or.inl ⟨rfl, ht, x, rfl, (ad_new _ _ _ _ _).1, (ad_new _ _ _ _ _).2.1.trans h3, ?_⟩)), fun u u1 u2 => by omega⟩
      exact seg_fr (FrT_ad (Nat.le_refl _) m _ _ _) (by omega) h9
    · omega
  · right
    rcases ha with ⟨a1, a2, rfl⟩ | ⟨a1, a2, rfl⟩
    · refine ⟨q, h1, (ad_fix _ _ _ _ _).2.1.trans h2, ?_, ?_, by omega⟩
      · rw [(ad_fix m k 3 z (-1)).1]; exact h3
      · rw [(ad_new m k 3 z (-1)).2.2.2]; omega
    · exact ⟨q, h1, h2, h3, h4, by omega⟩
/-- a sign and what stands behind it -/
theorem bin_step {t : Nat → Int} {n md d p c v q x s f k : Nat} {z' z2 : Int} {μ m mp m1 m2 : aM} (hn : n ≤ 40) (hv : v < 3) (hcp : c ≤ p) (hpq : p < q) (hs : Seg t (mI m 12) (mI m 13) (mI m 14) f v d p q c x) (ht : t q = sgn v) (hFm : FrT c μ m) (hmp : FrT (x + 1) m mp) (hk : mI m1 11 5 = (k : Int))
    (h : (FrT (x + 1) mp m1 ∧ RdOk t n md (v + 1) d (q + 1) (x + 1) z' m1) ∨ RdF t n md d z' m1) (ha : (k < 40 ∧ z2 = (k : Int) ∧ m2 = adM m1 k (v : Int) (x : Int) z') ∨ (k = 40 ∧ z2 = -1 ∧ m2 = m1)) :
    ((FrT c μ m2 ∧ RdO2 t n md v (v + 1) d p c z2 m2) ∨ RdF t n md d z2 m2) ∧ (mI m2 17 4 = -1 → q < (mI m2 17 3).toNat ∧ (mI m2 17 3).toNat ≤ n) := by
  have hb0 := Seg_b hs
  rcases h with ⟨hFr, q', y, s', f', h1, h2, h3, h4, h5, h6, h7, h8, h9, h10⟩ | ⟨q', h1, h2, h3, h4, h5⟩
  · have hb := Seg_b h9
    have hkx : k = y + 1 := by omega
    rcases ha with ⟨a1, a2, rfl⟩ | ⟨a1, -⟩
    · subst hkx
      have e3 : mI (adM m1 (y + 1) (v : Int) (x : Int) z') 17 3 = (q' : Int) := (ad_fix _ _ _ _ _).1.trans h4
      have hF : FrT (x + 1) m m1 := hmp.trans hFr (Nat.le_refl _)
      refine ⟨Or.inl ⟨(hFm.trans hF (by omega)).trans (FrT_ad (by omega) m1 _ _ _) (Nat.le_refl _), q', y + 1, s', max f f' + 1, by omega, h2, a2, e3, (ad_fix _ _ _ _ _).2.1.trans h5, (ad_new _ _ _ _ _).2.2.2.trans (by omega), (ad_fix _ _ _ _ _).2.2.trans h7, h8, Or.inr (Or.inl ⟨hv, q, x, y, rfl, (ad_new _ _ _ _ _).1, (ad_new _ _ _ _ _).2.2.1.trans h3, (ad_new _ _ _ _ _).2.1, ?_, ht, ?_⟩), h10⟩, fun _ => by rw [e3]; omega⟩
      · exact Seg_mono (Nat.le_max_left _ _) (seg_fr (FrT_ad (c := y + 1) (Nat.le_refl _) m1 _ _ _) (by omega) (seg_fr hF (by omega) hs))
      · exact Seg_mono (Nat.le_max_right _ _) (seg_fr (FrT_ad (c := y + 1) (Nat.le_refl _) m1 _ _ _) (by omega) h9)
    · omega
  · rcases ha with ⟨a1, a2, rfl⟩ | ⟨a1, a2, rfl⟩
    · have e4 := (ad_fix m1 k (v : Int) (x : Int) z').2.1
      refine ⟨Or.inr ⟨q', h1, e4.trans h2, ?_, ?_, by omega⟩, fun z => by rw [e4] at z; omega⟩
      · rw [(ad_fix m1 k (v : Int) (x : Int) z').1]; exact h3
      · rw [(ad_new m1 k (v : Int) (x : Int) z').2.2.2]; omega
    · exact ⟨Or.inr ⟨q', h1, h2, h3, h4, by omega⟩, fun z => by omega⟩
variable {G : aG} {pg : Nat} {μ : aM}
set_option maxRecDepth 100000 in
theorem g_Tr_add {d : Nat} (hd : 0 ≤ d) (hR : ∀ k j, mR μ k j = R0 pg k j) {c : Nat} (hc : mI μ 11 5 = (c : Int)) (hc40 : c ≤ 40) {j l r : Int} (hj : inR j) (hl : inR l) (hr : inR r) : AM G false d 0 0 y_Tr_add [aP 11, aI j, aI l, aI r] 94 μ (Qn (fun o n9 m => n9 = 94 ∧ ∃ z, o = some (aI z) ∧ ((c < 40 ∧ z = (c : Int) ∧ m = adM μ c j l r) ∨ (c = 40 ∧ z = -1 ∧ m = μ)))) := by
  refine am_of (n := 0) pf_Tr_add (Nat.le_of_ble_eq_true rfl) (by intro v hv; simp only [List.mem_cons, List.not_mem_nil, or_false] at hv; rcases hv with rfl | rfl | rfl | rfl <;> first | trivial | assumption | exact in_c rfl | exact bI_in _ | (show inR _; unfold inR; omega)) rfl ?_
  refine aw_aload_n d_Tr_add_0 rfl rfl ?_
  refine aw_getI fd_Tr_count lk_Tr_28 (by omega) rfl d_Tr_add_1 ?_
  refine aw_tv (v' := (c : Int)) (by exact hc) ?_
  refine aw_bipush (z := 40) d_Tr_add_4 (in_c rfl) rfl ?_
  refine aw_icmp_ne (tgt := 11) d_Tr_add_6 rfl (fun h6 => ?_) (fun h6 => ?_)
  · refine aw_aload_n d_Tr_add_11 rfl rfl ?_
    refine aw_getR fd_Tr_joints lk_Tr_9 (by omega) rfl d_Tr_add_12 (hR _ _) ?_
    refine aw_aload_n d_Tr_add_15 rfl rfl ?_
    refine aw_getI fd_Tr_count lk_Tr_28 (by omega) rfl d_Tr_add_16 ?_
    refine aw_tv (v' := (c : Int)) (by exact hc) ?_
    refine aw_iload_n d_Tr_add_19 rfl rfl ?_
    refine aw_iast (n := c) (by omega) rfl rfl (by omega) d_Tr_add_20 ?_
    refine aw_aload_n d_Tr_add_21 rfl rfl ?_
    refine aw_getR fd_Tr_lefts lk_Tr_15 (by omega) rfl d_Tr_add_22 (hR _ _) ?_
    refine aw_aload_n d_Tr_add_25 rfl rfl ?_
    refine aw_getI fd_Tr_count lk_Tr_28 (by omega) rfl d_Tr_add_26 ?_
    refine aw_tv (v' := (c : Int)) (by exact hc) ?_
    refine aw_iload_n d_Tr_add_29 rfl rfl ?_
    refine aw_pc (pc' := 30) rfl ?_
    refine aw_iast (n := c) (by omega) rfl rfl (by omega) d_Tr_add_30 ?_
    refine aw_aload_n d_Tr_add_31 rfl rfl ?_
    refine aw_getR fd_Tr_rights lk_Tr_18 (by omega) rfl d_Tr_add_32 (hR _ _) ?_
    refine aw_aload_n d_Tr_add_35 rfl rfl ?_
    refine aw_getI fd_Tr_count lk_Tr_28 (by omega) rfl d_Tr_add_36 ?_
    refine aw_tv (v' := (c : Int)) (by exact hc) ?_
    refine aw_iload_n d_Tr_add_39 rfl rfl ?_
    refine aw_iast (n := c) (by omega) rfl rfl (by omega) d_Tr_add_40 ?_
    refine aw_aload_n d_Tr_add_41 rfl rfl ?_
    refine aw_dup d_Tr_add_42 rfl ?_
    refine aw_getI fd_Tr_count lk_Tr_28 (by omega) rfl d_Tr_add_43 ?_
    refine aw_tv (v' := (c : Int)) (by exact hc) ?_
    refine aw_iconst d_Tr_add_46 (in_c rfl) ?_
    refine aw_iadd d_Tr_add_47 (by unfold inR; omega) ?_
    refine aw_pc (pc' := 48) rfl ?_
    refine aw_putI fd_Tr_count lk_Tr_28 (by omega) rfl d_Tr_add_48 (Or.inl rfl) ?_
    refine aw_aload_n d_Tr_add_51 rfl rfl ?_
    refine aw_getI fd_Tr_count lk_Tr_28 (by omega) rfl d_Tr_add_52 ?_
    refine aw_tv (v' := (c : Int) + 1) rfl ?_
    refine aw_iconst d_Tr_add_55 (in_c rfl) ?_
    refine aw_isub d_Tr_add_56 (by unfold inR; omega) ?_
    refine aw_tv (v' := (c : Int)) (by omega) ?_
    exact aw_iret d_Tr_add_57 rfl ⟨rfl, c, rfl, Or.inl ⟨by omega, rfl, rfl⟩⟩
  · refine aw_iconst d_Tr_add_9 (in_c rfl) ?_
    exact aw_iret d_Tr_add_10 rfl ⟨rfl, -1, rfl, Or.inr ⟨by omega, rfl, rfl⟩⟩
set_option maxRecDepth 100000 in
theorem m_Re_readInner {d : Nat} (hd : 1 ≤ d) (hR : ∀ k j, mR μ k j = R0 pg k j) {t : Nat → Int} {n md : Nat} (hn40 : n ≤ 40) (hmd : md ≤ 8) (hRd : Rd t n md μ) {p e0 s c : Nat} (he6 : e0 ≤ 6) (hS : RdS t md μ p e0 s c) (hp : p ≤ n) (hpn : p < n) (h40p : t p = 40) (hJ : e0 < 6 → (∀ (dd : Nat) (μ : aM) (p s c : Nat), 6 * (6 - (e0 + 1)) + 12 ≤ dd → (∀ a b, mR μ a b = R0 pg a b) → Rd t n md μ → RdS t md μ p (e0 + 1) s c → p ≤ n → AM G false dd 0 0 y_Re_readJoined [aP 17, aI ((0 : Nat) : Int), aI ((e0 + 1 : Nat) : Int)] 94 μ (Qn (RdP t n md 0 (e0 + 1) p c μ)))) (hdd : 6 * (6 - e0) + 7 ≤ d) : AM G false d 0 0 y_Re_readInner [aP 17, aI (e0 : Int)] 94 μ (Qn (RdP t n md 3 e0 p c μ)) := by
  refine am_of (n := 1) pf_Re_readInner (Nat.le_of_ble_eq_true rfl) (by intro v hv; simp only [List.mem_cons, List.not_mem_nil, or_false] at hv; rcases hv with rfl | rfl <;> first | trivial | assumption | exact in_c rfl | exact bI_in _ | (show inR _; unfold inR; omega)) rfl ?_
  obtain ⟨hS1, hS2, hS3, hS4, hS5, hS6⟩ := hS
  have hin := au_in hmd hS6
  have hin1 : 1 ≤ e0 := hin.1
  have hin2 : e0 ≤ 6 := hin.2.1
  have hin3 : s < 256 := hin.2.2.1
  have hch := atC_in hRd p
  refine aw_iload_n d_Re_readInner_0 rfl rfl ?_
  refine aw_bipush (z := 6) d_Re_readInner_1 (in_c rfl) rfl ?_
  refine aw_icmp_ne (tgt := 16) d_Re_readInner_3 rfl (fun h3 => ?_) (fun h3 => ?_)
  · refine aw_aload_n d_Re_readInner_16 rfl rfl ?_
    refine aw_dup d_Re_readInner_17 rfl ?_
    refine aw_getI fd_Re_place lk_Re_15 (by omega) rfl d_Re_readInner_18 ?_
    refine aw_tv (v' := (p : Int)) hS1 ?_
    refine aw_iconst d_Re_readInner_21 (in_c rfl) ?_
    refine aw_iadd d_Re_readInner_22 (by unfold inR; omega) ?_
    refine aw_putI fd_Re_place lk_Re_15 (by omega) rfl d_Re_readInner_23 (Or.inl rfl) ?_
    refine aw_aload_n d_Re_readInner_26 rfl rfl ?_
    refine aw_iconst d_Re_readInner_27 (in_c rfl) ?_
    refine aw_tv (v' := ((0 : Nat) : Int)) rfl ?_
    refine aw_iload_n d_Re_readInner_28 rfl rfl ?_
    refine aw_iconst d_Re_readInner_29 (in_c rfl) ?_
    refine aw_iadd d_Re_readInner_30 (by unfold inR; omega) ?_
    refine aw_tv (v' := ((e0 + 1 : Nat) : Int)) (by omega) ?_
    have hF0 : FrT c μ (wI μ 17 3 ((p : Int) + 1)) := FrT_w μ _ (Or.inl ⟨rfl, Or.inl rfl⟩)
    refine aw_pc (pc' := 31) rfl ?_
    refine aw_vn (as := [_, _]) rfl cv_Re_34 (by omega) rfl rfl d_Re_readInner_31 (Nat.le_of_ble_eq_true rfl) (d' := d - 1) (by omega) (hJ (by omega) (d - 1) (wI μ 17 3 ((p : Int) + 1)) (p + 1) s c (by omega) (fun a b => hR a b) (hRd.fr hF0) ⟨by rw [mI_wI, if_pos ⟨rfl, rfl⟩]; omega, hS2, hS3, hS4, by omega, au_40 hS6 h40p (by omega)⟩ (by omega)) ?_
    rintro v n1 μ1 ⟨rfl, z, rfl, hF1, hP1⟩
    have hRd1 : Rd t n md μ1 := hRd.fr (hF0.z.trans hF1 (Nat.le_refl _))
    have hR1 : ∀ a b, mR μ1 a b = R0 pg a b := fun a b => (hF1.2.2.2 a b).trans (hR a b)
    refine aw_istore_n (lst' := [_, _, _]) d_Re_readInner_34 rfl (Nat.le_of_ble_eq_true rfl) rfl ?_
    refine aw_aload_n d_Re_readInner_35 rfl rfl ?_
    refine aw_getI fd_Re_fault lk_Re_18 (by omega) rfl d_Re_readInner_36 ?_
    refine aw_iconst d_Re_readInner_39 (in_c rfl) ?_
    refine aw_icmp_ne (tgt := 67) d_Re_readInner_40 rfl (fun h40 => ?_) (fun h40 => ?_)
    · obtain ⟨q, k1, k2, k3, k4, k5⟩ := hP1.resolve_left (fun g => h40 (RdOk_nf (RdOk_2 g.2)))
      refine aw_aload_n d_Re_readInner_67 rfl rfl ?_
      refine aw_dup d_Re_readInner_68 rfl ?_
      refine aw_getI fd_Re_place lk_Re_15 (by omega) rfl d_Re_readInner_69 ?_
      refine aw_iconst d_Re_readInner_72 (in_c rfl) ?_
      refine aw_iadd d_Re_readInner_73 (by unfold inR; omega) ?_
      refine aw_putI fd_Re_place lk_Re_15 (by omega) rfl d_Re_readInner_74 (Or.inl rfl) ?_
      refine aw_iload_n d_Re_readInner_77 rfl rfl ?_
      exact aw_iret d_Re_readInner_78 rfl ⟨rfl, z, rfl, (hF0.z.trans hF1 (Nat.le_refl _)).trans (FrT_w μ1 _ (Or.inl ⟨rfl, Or.inl rfl⟩)) (Nat.le_refl _), Or.inr ⟨q, k1, by rw [mI_wI, if_neg (by omega)]; exact k2, by rw [mI_wI, if_pos ⟨rfl, rfl⟩]; omega, by rw [mI_wI, if_neg (by omega)]; exact k4, k5⟩⟩
    · refine aw_aload_n d_Re_readInner_43 rfl rfl ?_
      obtain ⟨hFc, q, x, s1, f1, k1, k2, k3, k4, k5, k6, k7, k8, k9, k10⟩ := hP1.resolve_right (fun g => RdF_nf g h40)
      have hb9 := Seg_b k9
      refine aw_getR fd_Re_text lk_Re_21 (by omega) rfl d_Re_readInner_44 (hR1 _ _) ?_
      refine aw_aload_n d_Re_readInner_47 rfl rfl ?_
      refine aw_getI fd_Re_place lk_Re_15 (by omega) rfl d_Re_readInner_48 ?_
      refine aw_tv (v' := (q : Int)) k4 ?_
      refine aw_ve (as := [_]) rfl cv_Re_48 (by omega) rfl rfl d_Re_readInner_51 (Nat.le_of_ble_eq_true rfl) (d' := d - 1) (by omega) (m_Li_at (μ := μ1) (k := 9) (by omega) (by omega) rfl rfl (hR1 _ _) (by unfold inR; omega) (by rw [hRd1.1]; omega) hRd1.2.2.2) ?_
      refine aw_tv (v' := atC t n q) (at_eq hRd1 q) ?_
      have hqc := atC_in hRd1 q
      refine aw_bipush (z := 41) d_Re_readInner_54 (in_c rfl) rfl ?_
      refine aw_icmp_eq (tgt := 67) d_Re_readInner_56 rfl (fun h56 => ?_) (fun h56 => ?_)
      · refine aw_aload_n d_Re_readInner_67 rfl rfl ?_
        refine aw_dup d_Re_readInner_68 rfl ?_
        refine aw_getI fd_Re_place lk_Re_15 (by omega) rfl d_Re_readInner_69 ?_
        refine aw_tv (v' := (q : Int)) (by exact k4) ?_
        refine aw_iconst d_Re_readInner_72 (in_c rfl) ?_
        refine aw_iadd d_Re_readInner_73 (by unfold inR; omega) ?_
        refine aw_putI fd_Re_place lk_Re_15 (by omega) rfl d_Re_readInner_74 (Or.inl rfl) ?_
        refine aw_iload_n d_Re_readInner_77 rfl rfl ?_
        have hqn : q < n := Decidable.byContradiction (fun g => by have := atC_ge (t := t) g; omega)
        exact aw_iret d_Re_readInner_78 rfl ⟨rfl, z, rfl, (hF0.z.trans hF1 (Nat.le_refl _)).trans (FrT_w μ1 _ (Or.inl ⟨rfl, Or.inl rfl⟩)) (Nat.le_refl _), Or.inl ⟨(hF0.trans hFc (Nat.le_refl _)).trans (FrT_w μ1 _ (Or.inl ⟨rfl, Or.inl rfl⟩)) (Nat.le_refl _), q + 1, x, s1, f1 + 1, by omega, by omega, k3, by rw [mI_wI, if_pos ⟨rfl, rfl⟩]; omega, by rw [mI_wI, if_neg (by omega)]; exact k5, by rw [mI_wI, if_neg (by omega)]; exact k6, by rw [mI_wI, if_neg (by omega)]; exact k7, au_41 k8 (by rw [← atC_lt (t := t) hqn]; exact h56) hin1, Or.inr (Or.inr (Or.inr (Or.inl ⟨rfl, h40p, by omega, q, rfl, by rw [← atC_lt (t := t) hqn]; exact h56, seg_fr (FrT_w (c := x + 1) μ1 _ (Or.inl ⟨rfl, Or.inl rfl⟩)) (by omega) k9⟩))), fun u u1 u2 => by omega⟩⟩
      · refine aw_aload_n d_Re_readInner_59 rfl rfl ?_
        refine aw_aload_n d_Re_readInner_60 rfl rfl ?_
        refine aw_getI fd_Re_place lk_Re_15 (by omega) rfl d_Re_readInner_61 ?_
        refine aw_tv (v' := (q : Int)) k4 ?_
        refine aw_putI fd_Re_fault lk_Re_18 (by omega) rfl d_Re_readInner_64 (Or.inl rfl) ?_
        refine aw_aload_n d_Re_readInner_67 rfl rfl ?_
        refine aw_dup d_Re_readInner_68 rfl ?_
        refine aw_getI fd_Re_place lk_Re_15 (by omega) rfl d_Re_readInner_69 ?_
        refine aw_tv (v' := (q : Int)) (by exact k4) ?_
        refine aw_iconst d_Re_readInner_72 (in_c rfl) ?_
        refine aw_iadd d_Re_readInner_73 (by unfold inR; omega) ?_
        refine aw_putI fd_Re_place lk_Re_15 (by omega) rfl d_Re_readInner_74 (Or.inl rfl) ?_
        refine aw_iload_n d_Re_readInner_77 rfl rfl ?_
        refine aw_pc (pc' := 78) rfl ?_
        exact aw_iret d_Re_readInner_78 rfl ⟨rfl, z, rfl, ((hF0.z.trans hF1 (Nat.le_refl _)).trans (FrT_w μ1 _ (Or.inl ⟨rfl, Or.inr rfl⟩)) (Nat.le_refl _)).trans (FrT_w _ _ (Or.inl ⟨rfl, Or.inl rfl⟩)) (Nat.le_refl _), Or.inr ⟨q, flt_open k8 k2 hin1 ((Nat.lt_or_ge q n).elim (fun g => Or.inr ⟨by rw [← atC_lt (t := t) g]; exact h56, fun u hu => (k10 u (Nat.zero_le _) hu).resolve_left (by omega)⟩) (fun g => Or.inl (by omega))), by rw [mI_wI, if_neg (by omega), mI_wI, if_pos ⟨rfl, rfl⟩], by rw [mI_wI, if_pos ⟨rfl, rfl⟩]; omega, by rw [mI_wI, if_neg (by omega), mI_wI, if_neg (by omega), k6]; omega, by omega⟩⟩
  · refine aw_aload_n d_Re_readInner_6 rfl rfl ?_
    refine aw_aload_n d_Re_readInner_7 rfl rfl ?_
    refine aw_getI fd_Re_place lk_Re_15 (by omega) rfl d_Re_readInner_8 ?_
    refine aw_tv (v' := (p : Int)) hS1 ?_
    refine aw_putI fd_Re_fault lk_Re_18 (by omega) rfl d_Re_readInner_11 (Or.inl rfl) ?_
    refine aw_iconst d_Re_readInner_14 (in_c rfl) ?_
    exact aw_iret d_Re_readInner_15 rfl ⟨rfl, -1, rfl, FrT_w μ _ (Or.inl ⟨rfl, Or.inr rfl⟩), Or.inr ⟨p, flt_deep (by have := hS6; rw [show e0 = 6 by omega] at this; exact this) hpn h40p, by rw [mI_wI, if_pos ⟨rfl, rfl⟩], by rw [mI_wI, if_neg (by omega), hS1]; omega, by rw [mI_wI, if_neg (by omega), hS3]; omega, by omega⟩⟩
set_option maxRecDepth 100000 in
theorem m_Re_readOne {d : Nat} (hd : 6 ≤ d) (hR : ∀ k j, mR μ k j = R0 pg k j) {t : Nat → Int} {n md : Nat} (hn40 : n ≤ 40) (hmd : md ≤ 8) (hRd : Rd t n md μ) {p e0 s c : Nat} (he6 : e0 ≤ 6) (hS : RdS t md μ p e0 s c) (hp : p ≤ n) (hI : (∀ (dd : Nat) (μ : aM) (p s c : Nat), 6 * (6 - e0) + 7 ≤ dd → (∀ a b, mR μ a b = R0 pg a b) → Rd t n md μ → RdS t md μ p e0 s c → p ≤ n → p < n → t p = 40 → AM G false dd 0 0 y_Re_readInner [aP 17, aI (e0 : Int)] 94 μ (Qn (RdP t n md 3 e0 p c μ)))) (hdd : 6 * (6 - e0) + 8 ≤ d) : AM G false d 0 0 y_Re_readOne [aP 17, aI (e0 : Int)] 94 μ (Qn (RdP t n md 3 e0 p c μ)) := by
  refine am_of (n := 3) pf_Re_readOne (Nat.le_of_ble_eq_true rfl) (by intro v hv; simp only [List.mem_cons, List.not_mem_nil, or_false] at hv; rcases hv with rfl | rfl <;> first | trivial | assumption | exact in_c rfl | exact bI_in _ | (show inR _; unfold inR; omega)) rfl ?_
  obtain ⟨hS1, hS2, hS3, hS4, hS5, hS6⟩ := hS
  have hin := au_in hmd hS6
  have hin1 : 1 ≤ e0 := hin.1
  have hin2 : e0 ≤ 6 := hin.2.1
  have hin3 : s < 256 := hin.2.2.1
  have hch := atC_in hRd p
  have key2 : ∀ (m : Nat) (N j : Nat) (z : Int) (μ3 : aM), N - j = m → (j ≤ N ∧ p + N ≤ n ∧ (∀ u, u < N → t (p + u) = 33) ∧ FrT 0 μ μ3 ∧ ((FrT c μ μ3 ∧ RdOk t n md 3 e0 (p + N - j) c z μ3) ∨ RdF t n md e0 z μ3)) → AW G false y_Re_readOne d 0 0 (Qn (RdP t n md 3 e0 p c μ)) 84 [some (aP 17), some (aI (e0 : Int)), some (aI (N : Int)), some (aI z), some (aI (j : Int))] [] 94 μ3 := by
    intro m
    induction m using Nat.strongRecOn with | _ m ih =>
    intro N j z μ3 hm hj
    have hR3 : ∀ a b, mR μ3 a b = R0 pg a b := fun a b => (hj.2.2.2.1.2.2.2 a b).trans (hR a b)
    obtain ⟨k, hk, hk40, hz⟩ : ∃ k : Nat, mI μ3 11 5 = (k : Int) ∧ k ≤ 40 ∧ inR z := by
      rcases hj.2.2.2.2 with ⟨-, q, x, s1, f1, k1, k2, k3, k4, k5, k6, k7, k8, k9, k10⟩ | ⟨q, k1, k2, k3, k4, k5⟩
      · have := Seg_b k9; exact ⟨x + 1, k6, by omega, by unfold inR; omega⟩
      · exact ⟨(mI μ3 11 5).toNat, by omega, by omega, by unfold inR; omega⟩
    refine aw_iload d_Re_readOne_84 rfl ?_
    refine aw_iload_n d_Re_readOne_86 rfl rfl ?_
    refine aw_icmp_ge (tgt := 107) d_Re_readOne_87 rfl (fun h87 => ?_) (fun h87 => ?_)
    · refine aw_iload_n d_Re_readOne_107 rfl rfl ?_
      exact aw_iret d_Re_readOne_108 rfl ⟨rfl, z, rfl, hj.2.2.2.1, by have := hj.2.2.2.2; rw [show p + N - j = p by omega] at this; exact this⟩
    · refine aw_aload_n d_Re_readOne_90 rfl rfl ?_
      refine aw_getR fd_Re_tree lk_Re_25 (by omega) rfl d_Re_readOne_91 (hR3 _ _) ?_
      refine aw_iconst d_Re_readOne_94 (in_c rfl) ?_
      refine aw_iload_n d_Re_readOne_95 rfl rfl ?_
      refine aw_iconst d_Re_readOne_96 (in_c rfl) ?_
      refine aw_vn (as := [_, _, _]) rfl cv_Re_59 (by omega) rfl rfl d_Re_readOne_97 (Nat.le_of_ble_eq_true rfl) (d' := d - 1) (by omega) (g_Tr_add (μ := μ3) (c := k) (j := 3) (l := z) (r := -1) (by omega) hR3 hk hk40 (in_c rfl) hz (in_c rfl)) ?_
      rintro v n1 μ4 ⟨rfl, z2, rfl, hA⟩
      have hF4 : FrT 0 μ3 μ4 := by
        rcases hA with ⟨a1, a2, rfl⟩ | ⟨a1, a2, rfl⟩
        · exact FrT_ad (Nat.zero_le _) _ _ _ _
        · exact FrT.refl _ _
      refine aw_istore_n (lst' := [_, _, _, _, _]) d_Re_readOne_100 rfl (Nat.le_of_ble_eq_true rfl) rfl ?_
      refine aw_iinc (lst' := [_, _, _, _, some (aI (((j + 1 : Nat) : Int)))]) d_Re_readOne_101 (Nat.le_of_ble_eq_true rfl) rfl (by unfold inR; omega) rfl ?_
      refine aw_goto (tgt := 84) d_Re_readOne_104 rfl ?_
      exact ih (N - (j + 1)) (by omega) N (j + 1) z2 μ4 rfl ⟨by omega, hj.2.1, hj.2.2.1, hj.2.2.2.1.trans hF4 (Nat.le_refl _), not_step hn40 (by omega) (by have := hj.2.2.1 (N - (j + 1)) (by omega); rw [show p + (N - (j + 1)) = p + N - (j + 1) by omega] at this; exact this) hk (by rw [show p + N - (j + 1) + 1 = p + N - j by omega]; exact hj.2.2.2.2) hA⟩
  have key : ∀ (m : Nat) (i : Nat) (μ2 : aM), n - (p + i) = m → (p + i ≤ n ∧ FrT c μ μ2 ∧ RdS t md μ2 (p + i) e0 s c ∧ 0 ≤ i ∧ (∀ u, u < i → t (p + u) = 33)) → AW G false y_Re_readOne d 0 0 (Qn (RdP t n md 3 e0 p c μ)) 2 [some (aP 17), some (aI (e0 : Int)), some (aI (i : Int)), none, none] [] 94 μ2 := by
    intro m
    induction m using Nat.strongRecOn with | _ m ih =>
    intro i μ2 hm hw
    obtain ⟨g1, g2, g3, g4, g5, g6⟩ := hw.2.2.1
    have hRd2 : Rd t n md μ2 := hRd.fr hw.2.1
    have hR2 : ∀ a b, mR μ2 a b = R0 pg a b := fun a b => (hw.2.1.2.2.2 a b).trans (hR a b)
    have hc2 := atC_in hRd2 (p + i)
    refine aw_aload_n d_Re_readOne_2 rfl rfl ?_
    refine aw_getI fd_Re_place lk_Re_15 (by omega) rfl d_Re_readOne_3 ?_
    refine aw_tv (v' := ((p + i : Nat) : Int)) g1 ?_
    refine aw_aload_n d_Re_readOne_6 rfl rfl ?_
    refine aw_getR fd_Re_text lk_Re_21 (by omega) rfl d_Re_readOne_7 (hR2 _ _) ?_
    refine aw_ve (as := []) rfl cv_Re_38 (by omega) rfl rfl d_Re_readOne_10 (Nat.le_of_ble_eq_true rfl) (d' := d - 1) (by omega) (m_Li_size (μ := μ2) (k := 9) (by omega) (by omega) rfl rfl (hR2 _ _)) ?_
    refine aw_tv (v' := (n : Int)) hRd2.1 ?_
    refine aw_icmp_ge (tgt := 52) d_Re_readOne_13 rfl (fun h13 => ?_) (fun h13 => ?_)
    · have h33 : p + i = n ∨ ¬ t (p + i) = 33 := Or.inl (by omega)
      refine aw_aload_n d_Re_readOne_52 rfl rfl ?_
      refine aw_getR fd_Re_text lk_Re_21 (by omega) rfl d_Re_readOne_53 (hR2 _ _) ?_
      refine aw_aload_n d_Re_readOne_56 rfl rfl ?_
      refine aw_getI fd_Re_place lk_Re_15 (by omega) rfl d_Re_readOne_57 ?_
      refine aw_tv (v' := ((p + i : Nat) : Int)) g1 ?_
      refine aw_ve (as := [_]) rfl cv_Re_48 (by omega) rfl rfl d_Re_readOne_60 (Nat.le_of_ble_eq_true rfl) (d' := d - 1) (by omega) (m_Li_at (μ := μ2) (k := 9) (by omega) (by omega) rfl rfl (hR2 _ _) (by unfold inR; omega) (by rw [hRd2.1]; omega) hRd2.2.2.2) ?_
      refine aw_tv (v' := atC t n (p + i)) (at_eq hRd2 (p + i)) ?_
      refine aw_bipush (z := 40) d_Re_readOne_63 (in_c rfl) rfl ?_
      refine aw_icmp_ne (tgt := 76) d_Re_readOne_65 rfl (fun h65 => ?_) (fun h65 => ?_)
      · refine aw_aload_n d_Re_readOne_76 rfl rfl ?_
        refine aw_vn (as := []) rfl cv_Re_66 (by omega) rfl rfl d_Re_readOne_77 (Nat.le_of_ble_eq_true rfl) (d' := d - 1) (by omega) (m_Re_readLetter (μ := μ2) (t := t) (n := n) (md := md) (p := p + i) (e0 := e0) (s := s) (c := c) (by omega) hR2 hn40 hmd hRd2 hw.2.2.1 hw.1 (h33.elim Or.inl (fun g => (Nat.lt_or_ge (p + i) n).elim (fun g2 => Or.inr ⟨g, by rw [← atC_lt (t := t) g2]; exact h65⟩) (fun g2 => Or.inl (by omega))))) ?_
        rintro v n1 μ1 ⟨rfl, z, rfl, hF1, hP1⟩
        refine aw_istore_n (lst' := [_, _, _, _, _]) d_Re_readOne_80 rfl (Nat.le_of_ble_eq_true rfl) rfl ?_
        refine aw_iconst d_Re_readOne_81 (in_c rfl) ?_
        refine aw_istore (lst' := [_, _, _, _, _]) d_Re_readOne_82 (Nat.le_of_ble_eq_true rfl) rfl ?_
        exact key2 (i - 0) i 0 z μ1 rfl ⟨Nat.zero_le _, hw.1, hw.2.2.2.2, hw.2.1.z.trans hF1 (Nat.le_refl _), by rw [Nat.sub_zero]; exact hP1.imp (fun g => ⟨hw.2.1.trans g.1 (Nat.le_refl _), g.2⟩) id⟩
      · refine aw_aload_n d_Re_readOne_68 rfl rfl ?_
        refine aw_iload_n d_Re_readOne_69 rfl rfl ?_
        refine aw_vn (as := [_]) rfl cv_Re_63 (by omega) rfl rfl d_Re_readOne_70 (Nat.le_of_ble_eq_true rfl) (d' := d - 1) (by omega) (hI (d - 1) μ2 (p + i) s c (by omega) hR2 hRd2 hw.2.2.1 hw.1 (Decidable.byContradiction (fun g => by have := atC_ge (t := t) g; omega)) (by have := atC_lt (t := t) (Decidable.byContradiction (fun g => by have := atC_ge (t := t) g; omega) : p + i < n); omega)) ?_
        rintro v n1 μ1 ⟨rfl, z, rfl, hF1, hP1⟩
        refine aw_goto (tgt := 80) d_Re_readOne_73 rfl ?_
        refine aw_istore_n (lst' := [_, _, _, _, _]) d_Re_readOne_80 rfl (Nat.le_of_ble_eq_true rfl) rfl ?_
        refine aw_iconst d_Re_readOne_81 (in_c rfl) ?_
        refine aw_istore (lst' := [_, _, _, _, _]) d_Re_readOne_82 (Nat.le_of_ble_eq_true rfl) rfl ?_
        exact key2 (i - 0) i 0 z μ1 rfl ⟨Nat.zero_le _, hw.1, hw.2.2.2.2, hw.2.1.z.trans hF1 (Nat.le_refl _), by rw [Nat.sub_zero]; exact hP1.imp (fun g => ⟨hw.2.1.trans g.1 (Nat.le_refl _), g.2⟩) id⟩
    · refine aw_aload_n d_Re_readOne_16 rfl rfl ?_
      refine aw_getR fd_Re_text lk_Re_21 (by omega) rfl d_Re_readOne_17 (hR2 _ _) ?_
      refine aw_aload_n d_Re_readOne_20 rfl rfl ?_
      refine aw_getI fd_Re_place lk_Re_15 (by omega) rfl d_Re_readOne_21 ?_
      refine aw_tv (v' := ((p + i : Nat) : Int)) g1 ?_
      refine aw_ve (as := [_]) rfl cv_Re_48 (by omega) rfl rfl d_Re_readOne_24 (Nat.le_of_ble_eq_true rfl) (d' := d - 1) (by omega) (m_Li_at (μ := μ2) (k := 9) (by omega) (by omega) rfl rfl (hR2 _ _) (by unfold inR; omega) (by rw [hRd2.1]; omega) hRd2.2.2.2) ?_
      refine aw_tv (v' := atC t n (p + i)) (at_eq hRd2 (p + i)) ?_
      refine aw_ldcS (k := 2) (Or.inl ⟨rfl, rfl, rfl⟩) d_Re_readOne_27 ?_
      refine aw_iconst d_Re_readOne_29 (in_c rfl) ?_
      refine aw_tv (v' := ((3 : Nat) : Int)) rfl ?_
      refine aw_vo (as := [_]) (k := 2) rfl (Or.inl rfl) rfl cv_Re_54 d_Re_readOne_30 (Nat.le_of_ble_eq_true rfl) (d' := d - 1) (by omega) (m_jS_charAt (j := 3) (by omega) (Or.inl rfl) (by omega)) ?_
      refine aw_tv (v' := 33) rfl ?_
      refine aw_icmp_ne (tgt := 52) d_Re_readOne_33 rfl (fun h33 => ?_) (fun h33 => ?_)
      · have h33 : p + i = n ∨ ¬ t (p + i) = 33 := Or.inr (by have := atC_lt (t := t) (show p + i < n by omega); omega)
        refine aw_aload_n d_Re_readOne_52 rfl rfl ?_
        refine aw_getR fd_Re_text lk_Re_21 (by omega) rfl d_Re_readOne_53 (hR2 _ _) ?_
        refine aw_aload_n d_Re_readOne_56 rfl rfl ?_
        refine aw_getI fd_Re_place lk_Re_15 (by omega) rfl d_Re_readOne_57 ?_
        refine aw_tv (v' := ((p + i : Nat) : Int)) g1 ?_
        refine aw_ve (as := [_]) rfl cv_Re_48 (by omega) rfl rfl d_Re_readOne_60 (Nat.le_of_ble_eq_true rfl) (d' := d - 1) (by omega) (m_Li_at (μ := μ2) (k := 9) (by omega) (by omega) rfl rfl (hR2 _ _) (by unfold inR; omega) (by rw [hRd2.1]; omega) hRd2.2.2.2) ?_
        refine aw_tv (v' := atC t n (p + i)) (at_eq hRd2 (p + i)) ?_
        refine aw_bipush (z := 40) d_Re_readOne_63 (in_c rfl) rfl ?_
        refine aw_icmp_ne (tgt := 76) d_Re_readOne_65 rfl (fun h65 => ?_) (fun h65 => ?_)
        · refine aw_aload_n d_Re_readOne_76 rfl rfl ?_
          refine aw_vn (as := []) rfl cv_Re_66 (by omega) rfl rfl d_Re_readOne_77 (Nat.le_of_ble_eq_true rfl) (d' := d - 1) (by omega) (m_Re_readLetter (μ := μ2) (t := t) (n := n) (md := md) (p := p + i) (e0 := e0) (s := s) (c := c) (by omega) hR2 hn40 hmd hRd2 hw.2.2.1 hw.1 (h33.elim Or.inl (fun g => (Nat.lt_or_ge (p + i) n).elim (fun g2 => Or.inr ⟨g, by rw [← atC_lt (t := t) g2]; exact h65⟩) (fun g2 => Or.inl (by omega))))) ?_
          rintro v n1 μ1 ⟨rfl, z, rfl, hF1, hP1⟩
          refine aw_istore_n (lst' := [_, _, _, _, _]) d_Re_readOne_80 rfl (Nat.le_of_ble_eq_true rfl) rfl ?_
          refine aw_iconst d_Re_readOne_81 (in_c rfl) ?_
          refine aw_istore (lst' := [_, _, _, _, _]) d_Re_readOne_82 (Nat.le_of_ble_eq_true rfl) rfl ?_
          exact key2 (i - 0) i 0 z μ1 rfl ⟨Nat.zero_le _, hw.1, hw.2.2.2.2, hw.2.1.z.trans hF1 (Nat.le_refl _), by rw [Nat.sub_zero]; exact hP1.imp (fun g => ⟨hw.2.1.trans g.1 (Nat.le_refl _), g.2⟩) id⟩
        · refine aw_aload_n d_Re_readOne_68 rfl rfl ?_
          refine aw_iload_n d_Re_readOne_69 rfl rfl ?_
          refine aw_vn (as := [_]) rfl cv_Re_63 (by omega) rfl rfl d_Re_readOne_70 (Nat.le_of_ble_eq_true rfl) (d' := d - 1) (by omega) (hI (d - 1) μ2 (p + i) s c (by omega) hR2 hRd2 hw.2.2.1 hw.1 (Decidable.byContradiction (fun g => by have := atC_ge (t := t) g; omega)) (by have := atC_lt (t := t) (Decidable.byContradiction (fun g => by have := atC_ge (t := t) g; omega) : p + i < n); omega)) ?_
          rintro v n1 μ1 ⟨rfl, z, rfl, hF1, hP1⟩
          refine aw_goto (tgt := 80) d_Re_readOne_73 rfl ?_
          refine aw_istore_n (lst' := [_, _, _, _, _]) d_Re_readOne_80 rfl (Nat.le_of_ble_eq_true rfl) rfl ?_
          refine aw_iconst d_Re_readOne_81 (in_c rfl) ?_
          refine aw_istore (lst' := [_, _, _, _, _]) d_Re_readOne_82 (Nat.le_of_ble_eq_true rfl) rfl ?_
          exact key2 (i - 0) i 0 z μ1 rfl ⟨Nat.zero_le _, hw.1, hw.2.2.2.2, hw.2.1.z.trans hF1 (Nat.le_refl _), by rw [Nat.sub_zero]; exact hP1.imp (fun g => ⟨hw.2.1.trans g.1 (Nat.le_refl _), g.2⟩) id⟩
      · refine aw_aload_n d_Re_readOne_36 rfl rfl ?_
        refine aw_dup d_Re_readOne_37 rfl ?_
        refine aw_getI fd_Re_place lk_Re_15 (by omega) rfl d_Re_readOne_38 ?_
        refine aw_tv (v' := ((p + i : Nat) : Int)) g1 ?_
        refine aw_iconst d_Re_readOne_41 (in_c rfl) ?_
        refine aw_iadd d_Re_readOne_42 (by unfold inR; omega) ?_
        refine aw_putI fd_Re_place lk_Re_15 (by omega) rfl d_Re_readOne_43 (Or.inl rfl) ?_
        refine aw_iinc (lst' := [_, _, some (aI (((i + 1 : Nat) : Int))), _, _]) d_Re_readOne_46 (Nat.le_of_ble_eq_true rfl) rfl (by unfold inR; omega) rfl ?_
        refine aw_goto (tgt := 2) d_Re_readOne_49 rfl ?_
        have h33t : t (p + i) = 33 := by have := atC_lt (t := t) (show p + i < n by omega); omega
        exact ih (n - (p + (i + 1))) (by omega) (i + 1) (wI μ2 17 3 (((p + i : Nat) : Int) + 1)) rfl ⟨by omega, hw.2.1.trans (FrT_w μ2 _ (Or.inl ⟨rfl, Or.inl rfl⟩)) (Nat.le_refl _), ⟨by rw [mI_wI, if_pos ⟨rfl, rfl⟩]; omega, g2, g3, g4, by omega, au_33 g6 h33t⟩, Nat.zero_le _, fun u hu => by by_cases e : u = i; (rw [e]; exact h33t); exact hw.2.2.2.2 u (by omega)⟩
  refine aw_iconst d_Re_readOne_0 (in_c rfl) ?_
  refine aw_istore_n (lst' := [_, _, _, _, _]) d_Re_readOne_1 rfl (Nat.le_of_ble_eq_true rfl) rfl ?_
  exact key (n - (p + 0)) 0 μ rfl ⟨by omega, FrT.refl _ _, ⟨hS1, hS2, hS3, hS4, hS5, hS6⟩, Nat.zero_le _, fun u hu => by omega⟩
end
