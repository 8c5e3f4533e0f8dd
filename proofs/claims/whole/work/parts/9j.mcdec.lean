/-! decision: the class -/
section
theorem Seg_leaf {t J L R : Nat → Int} : ∀ {f v d a b c x : Nat}, Seg t J L R f v d a b c x → ∀ y, c ≤ y → y ≤ x → J y = 4 → ∃ p, a ≤ p ∧ p < b ∧ 65 ≤ t p ∧ t p < 73 ∧ L y = t p - 65
  | 0, _, _, _, _, _, _, h => h.elim
  | f + 1, v, d, a, b, c, x, h => by
    intro z z1 z2 hz
    rcases h with ⟨h1, h⟩ | ⟨h1, e, l, y, h2, h3, h4, h5, h6, h7, h8⟩ | ⟨h1, h2, y, h3, h4, h5, h⟩ | ⟨h1, h2, h0, e, h3, h4, h⟩ | ⟨h1, h2, h3, h4, h5, h6, h7⟩
    · exact Seg_leaf h z z1 z2 hz
    · have b1 := Seg_b h6; have b2 := Seg_b h8
      by_cases g1 : z ≤ l
      · obtain ⟨p, p1, p2, p3⟩ := Seg_leaf h6 z z1 g1 hz; exact ⟨p, by omega, by omega, p3⟩
      · by_cases g2 : z ≤ y
        · obtain ⟨p, p1, p2, p3⟩ := Seg_leaf h8 z (by omega) g2 hz; exact ⟨p, by omega, by omega, p3⟩
        · have : z = x := by omega
          subst this; omega
    · have b1 := Seg_b h
      by_cases g2 : z ≤ y
      · obtain ⟨p, p1, p2, p3⟩ := Seg_leaf h z z1 g2 hz; exact ⟨p, by omega, by omega, p3⟩
      · have : z = x := by omega
        subst this; omega
    · obtain ⟨p, p1, p2, p3⟩ := Seg_leaf h z z1 z2 hz; exact ⟨p, by omega, by omega, p3⟩
    · have : z = x := by omega
      subst this; exact ⟨a, Nat.le_refl _, by omega, h5, h6, h7⟩
theorem cn8_6 {s : Nat} (hs : s < 256) (h : cnt 31 s ≤ 6) : cn s.testBit 8 ≤ 6 := by rw [cnt_31_8 hs, cnt_cn] at h; exact h
theorem okT_of {t J L R : Nat → Int} {md n s f x : Nat} (hmd : md ≤ 8) (hau : au t md n = some (false, 1, s)) (h : Seg t J L R f 0 1 0 n 0 x) : okT J L R s (x + 1) := by
  have hin := au_in hmd hau
  have h6 := cn8_6 hin.2.2.1 hin.2.2.2
  intro y hy
  obtain ⟨w1, w2, w3, w4⟩ := Seg_wf h y (Nat.zero_le _) (by omega)
  refine ⟨w1, fun h4 => ⟨(w2 h4).1, (w2 h4).2, ?_⟩, w3, w4⟩
  obtain ⟨p, -, p2, p3, p4, p5⟩ := Seg_leaf h y (Nat.zero_le _) (by omega) h4
  obtain ⟨-, hb⟩ := au_has hmd hau p2 (by omega)
  rw [p5]
  exact Nat.lt_of_lt_of_le (cn_lt (by omega) hb) h6
theorem show_all {t J L R : Nat → Int} {n f x : Nat} (hn : n ≤ 40) (h : Seg t J L R f 0 1 0 n 0 x) : osg t (kpt t n (mtF t n)) n 0 = wr J L R 40 x 0 := by
  have hb := Seg_b h
  have hm : ∀ p q, q < n → isM t p q → mtF t n p = q := fun p q hq hM => mtF_M hM (by omega)
  have hG : ∀ q, q < n → t q = 40 → isM t q (mtF t n q) := fun q hq ht => by
    obtain ⟨f', d', e, c', x', h1, h2, h3, -⟩ := Seg_par h q (Nat.zero_le _) hq ht
    have hM := Seg_M h1 h2
    rw [hm q e h3 hM]; exact hM
  have e0 : rkE (beh t n n) = 0 := by unfold beh; rw [if_neg (Nat.lt_irrefl _)]; rfl
  have := show_seg hn hm hG h (Nat.le_refl _) (Nat.le_refl 0) (by rw [e0]; exact Nat.le_refl _) 40 (by omega)
  rw [e0] at this
  exact this
theorem wr_len {t J L R : Nat → Int} {n f x : Nat} (hn : n ≤ 40) (h : Seg t J L R f 0 1 0 n 0 x) : (wr J L R 40 x 0).length ≤ 40 := by
  rw [← show_all hn h]; exact Nat.le_trans (osg_len _ _ _ _) hn
theorem tkA_fr {D k s n : Nat} {sh : Bool} {F S : Nat → Int} {μ : aM} (h26 : 26 < D) : (∀ a b, a ≠ D + 4 → a ≠ D + 2 → a ≠ D + 1 → mI (tkA D k s n sh F S μ) a b = mI (tkM D s μ 8) a b) ∧ (∀ a b, a ≠ 15 → a ≠ 16 → a ≠ D + 5 → a ≠ D + 6 → ¬ (a = D ∧ b = 8) → mL (tkA D k s n sh F S μ) a b = mL μ a b) ∧ (∀ a b, mR (tkA D k s n sh F S μ) a b = mR μ a b) := by
  unfold tkA
  refine ⟨fun a b g1 g2 g3 => ?_, fun a b g1 g2 g3 g4 g5 => ?_, fun a b => ?_⟩
  · rw [(dsM_fr _ _ _ _ _ _ _).1 a b g1, (frP_fr _ _ _ _ _ _ _ _ _ _ _).1 a b, mI_wL, (ftM_fr _ _).1 a b, (wrM_fr _ _ _ _ _ _).1 a b g2 (fun z => g3 z.1)]
  · rw [(dsM_fr _ _ _ _ _ _ _).2.1 a b g4, (frP_fr _ _ _ _ _ _ _ _ _ _ _).2.2 a b g2 g3, mL_wL, if_neg g5, (ftM_fr _ _).2.1 a b g1, (wrM_fr _ _ _ _ _ _).2.1 a b, (tkM_fr _ _ _ _).2.1 a b]
  · rw [(dsM_fr _ _ _ _ _ _ _).2.2 a b, (frP_fr _ _ _ _ _ _ _ _ _ _ _).2.1 a b]; show mR (ftM _ _ _ _ _ _) a b = _; rw [(ftM_fr _ _).2.2 a b, (wrM_fr _ _ _ _ _ _).2.2 a b, (tkM_fr _ _ _ _).2.2 a b]
/-- the memory after findWords -/
def fwM (D k : Nat) (μ : aM) : aM := cwX (fun j => mI μ 6 (mI μ (D + 3) j).toNat) (fun j => mI μ 7 (mI μ (D + 3) j).toNat) (fun j δ => decide (hz (mI μ 5 (mI μ (D + 3) j).toNat) δ (mI μ 8 (mI μ (D + 3) j).toNat) = 1)) D k (mI μ 2 0) (ln (mI μ 2 0) (mI μ 3 0)) (mI μ 2 1) (ln (mI μ 2 1) (mI μ 3 1)) (mI μ 2 2) (ln (mI μ 2 2) (mI μ 3 2)) (fbM (fun j => mI μ 6 (mI μ (D + 3) j).toNat) (fun j => mI μ 7 (mI μ (D + 3) j).toNat) (fun j δ => decide (hz (mI μ 5 (mI μ (D + 3) j).toNat) δ (mI μ 8 (mI μ (D + 3) j).toNat) = 1)) μ k)
theorem fwM_fr {D k : Nat} {μ : aM} (hoi : ∀ j, j < k → okI (mI μ 6 (mI μ (D + 3) j).toNat) (mI μ 7 (mI μ (D + 3) j).toNat)) : (∀ a b, (a < 20 ∨ 25 < a) → a ≠ D + 7 → mI (fwM D k μ) a b = mI μ a b) ∧ (∀ a b, ¬ (a = D ∧ b = 9) → mL (fwM D k μ) a b = mL μ a b) ∧ (∀ a b, mR (fwM D k μ) a b = mR μ a b) := by
  have hB := fbM_fr (F := fun j => mI μ 6 (mI μ (D + 3) j).toNat) (S := fun j => mI μ 7 (mI μ (D + 3) j).toNat) (Hh := fun j δ => decide (hz (mI μ 5 (mI μ (D + 3) j).toNat) δ (mI μ 8 (mI μ (D + 3) j).toNat) = 1)) (m := μ) k hoi
  have hE : FrE D (fbM (fun j => mI μ 6 (mI μ (D + 3) j).toNat) (fun j => mI μ 7 (mI μ (D + 3) j).toNat) (fun j δ => decide (hz (mI μ 5 (mI μ (D + 3) j).toNat) δ (mI μ 8 (mI μ (D + 3) j).toNat) = 1)) μ k) (fwM D k μ) := FrE_it (FrE.refl D _) (fun v m => FrE_it (FrE.refl D m) (fun v' m' => FrE_it (FrE.refl D m') (fun v'' m'' => FrE_me _ _ _ _ _ m'') _) _) _
  exact ⟨fun a b g1 g2 => (hE.1 a b g2).trans (hB.1 a b g1), fun a b g => (hE.2.1 a b g).trans (hB.2.1 a b), fun a b => (hE.2.2 a b).trans (hB.2.2 a b)⟩
/-- the inputs of a decision's conditions, before it is taken -/
def cF (D s : Nat) (μ : aM) (j : Nat) : Int := mI μ 6 (mI (tkM D s μ 8) (D + 3) j).toNat
def cSx (D s : Nat) (μ : aM) (j : Nat) : Int := mI μ 7 (mI (tkM D s μ 8) (D + 3) j).toNat
theorem lt_8 {D s : Nat} {μ : aM} {j : Nat} (hj : j < cn s.testBit 8) : ∃ l, l < 8 ∧ s.testBit l = true ∧ mI (tkM D s μ 8) (D + 3) j = (l : Int) := by
  obtain ⟨l, h1, h2, h3⟩ := cn_nth hj
  exact ⟨l, h1, h2, by rw [← h3]; exact tkM_at 8 l h1 h2⟩
theorem au_md {t : Nat → Int} {md : Nat} : ∀ {p : Nat} {u : aU}, au t md p = some u → ∀ {j : Nat}, u.2.2.testBit j = true → j < md
  | 0, u, h, j, hj => by cases h; rw [Nat.zero_testBit] at hj; cases hj
  | p + 1, u, h, j, hj => by
    rw [au] at h
    cases hp : au t md p with
    | none => rw [hp] at h; cases h
    | some v =>
      rw [hp] at h
      have h : aus md (t p) v = some u := h
      unfold aus at h
      split at h
      · split at h
        · cases h; exact au_md hp hj
        · split at h
          · rename_i g
            cases h
            have hj : (more md (t p) v.2.2).testBit j = true := hj
            unfold more at hj
            rw [if_pos g.1, Nat.testBit_or, Bool.or_eq_true] at hj
            rcases hj with hj | hj
            · exact au_md hp hj
            · by_cases e : (t p - 65).toNat = j
              · have := g.1.1; have := g.1.2; omega
              · rw [Nat.testBit_two_pow_of_ne e] at hj; cases hj
          · split at h
            · cases h; exact au_md hp hj
            · cases h
      · split at h
        · cases h; exact au_md hp hj
        · split at h
          · cases h; exact au_md hp hj
          · cases h
variable {G : aG} {pg : Nat} {μ : aM}
set_option maxRecDepth 100000 in
theorem m_MC_decision {d : Nat} (hd : 50 ≤ d) (hR : ∀ k j, mR μ k j = R0 pg k j) {i : Nat} (hi : mI μ 0 10 = (i : Int)) (hi4 : i < 4) {md : Nat} (hmd : mI μ 4 4 = (md : Int)) (hmd0 : 0 < md) (hmd8 : md ≤ 8) {t : Nat → Int} {n : Nat} (hn40 : n ≤ 40) (h91 : mI μ 9 1 = (n : Int)) (htx : ∀ p, p < n → mI μ 10 p = t p) (hcx : ∀ j, 0 ≤ mI μ 10 j ∧ mI μ 10 j < 65536) (h07 : mI μ (27 + 8 * i) 7 = 0) (hcd : ∀ l, l < md → okI (mI μ 6 l) (mI μ 7 l) ∧ 0 ≤ mI μ 5 l) (hrg : ∀ j, j < 3 → -20 ≤ mI μ 2 j ∧ mI μ 2 j ≤ mI μ 3 j ∧ mI μ 3 j ≤ 20) {sh : Bool}  : AM G false d 3 18 y_MC_decision [aP 0, aI (bI sh)] 94 μ (Qn (fun r n9 m => n9 = 94 ∧ ∃ μ1, FrD μ μ1 ∧ ((∃ q : Nat, Flt t md n q ∧ r = some (aI (-1 - (q : Int))) ∧ m = (wI μ1 9 1 0)) ∨ (∃ x s f : Nat, au t md n = some (false, 1, s) ∧ Seg t (mI μ1 12) (mI μ1 13) (mI μ1 14) f 0 1 0 n 0 x ∧ mI μ1 11 5 = ((x + 1 : Nat) : Int) ∧ mI μ1 11 6 = (s : Int) ∧ r = some (aI (i : Int)) ∧ m = wI (fwM (27 + 8 * i) (cn s.testBit 8) (tkA (27 + 8 * i) (cn s.testBit 8) s (x + 1) sh (cF (27 + 8 * i) s (wI μ1 9 1 0)) (cSx (27 + 8 * i) s (wI μ1 9 1 0)) (wI μ1 9 1 0))) 0 10 ((i : Int) + 1))))) := by
  refine am_of (n := 2) pf_MC_decision (Nat.le_of_ble_eq_true rfl) (by intro v hv; simp only [List.mem_cons, List.not_mem_nil, or_false] at hv; rcases hv with rfl | rfl <;> first | trivial | assumption | exact in_c rfl | exact bI_in _ | (show inR _; unfold inR; omega)) rfl ?_
  refine aw_aload_n d_MC_decision_0 rfl rfl ?_
  refine aw_getI fd_MC_decisionCount lk_MC_85 (by omega) rfl d_MC_decision_1 ?_
  refine aw_tv (v' := (i : Int)) hi ?_
  refine aw_iconst d_MC_decision_4 (in_c rfl) ?_
  refine aw_icmp_eq (tgt := 18) d_MC_decision_5 rfl (fun h5 => absurd h5 (by omega)) (fun h5 => ?_)
  refine aw_aload_n d_MC_decision_8 rfl rfl ?_
  refine aw_getR fd_MC_conditions lk_MC_19 (by omega) rfl d_MC_decision_9 (hR _ _) ?_
  refine aw_ve (as := []) rfl cv_MC_96 (by omega) rfl rfl d_MC_decision_12 (Nat.le_of_ble_eq_true rfl) (d' := d - 1) (by omega) (m_Co_size (by omega)) ?_
  refine aw_tv (v' := (md : Int)) hmd ?_
  refine aw_if_ne (tgt := 26) d_MC_decision_15 rfl (fun h15 => ?_) (fun h15 => absurd h15 (by omega))
  refine aw_aload_n d_MC_decision_26 rfl rfl ?_
  refine aw_getR fd_MC_reader lk_MC_42 (by omega) rfl d_MC_decision_27 (hR _ _) ?_
  refine aw_aload_n d_MC_decision_30 rfl rfl ?_
  refine aw_pc (pc' := 31) rfl ?_
  refine aw_getR fd_MC_conditions lk_MC_19 (by omega) rfl d_MC_decision_31 (hR _ _) ?_
  refine aw_ve (as := []) rfl cv_MC_96 (by omega) rfl rfl d_MC_decision_34 (Nat.le_of_ble_eq_true rfl) (d' := d - 1) (by omega) (m_Co_size (by omega)) ?_
  refine aw_tv (v' := (md : Int)) hmd ?_
  refine aw_vn (as := [_]) rfl cv_MC_128 (by omega) rfl rfl d_MC_decision_37 (Nat.le_of_ble_eq_true rfl) (d' := d - 1) (by omega) (m_Re_read (t := t) (n := n) (md := md) (by omega) hR hn40 hmd8 h91 htx hcx) ?_
  rintro v n1 μ1 ⟨rfl, hFD, hP⟩
  obtain ⟨z, rfl, hz0⟩ : ∃ z : Int, v = some (aI z) ∧ ((∃ q : Nat, Flt t md n q ∧ z = (q : Int)) ∨ (z = -1 ∧ ∃ x s f : Nat, au t md n = some (false, 1, s) ∧ Seg t (mI μ1 12) (mI μ1 13) (mI μ1 14) f 0 1 0 n 0 x ∧ mI μ1 11 5 = ((x + 1 : Nat) : Int) ∧ mI μ1 11 6 = (s : Int))) := by
    rcases hP with ⟨q, h1, h2⟩ | ⟨x, s, f, h1, h2⟩
    · exact ⟨_, h2, Or.inl ⟨q, h1, rfl⟩⟩
    · exact ⟨_, h1, Or.inr ⟨rfl, x, s, f, h2⟩⟩
  have hzi : -1 ≤ z ∧ z ≤ 40 := by
    rcases hz0 with ⟨q, h1, h2⟩ | ⟨h1, -⟩
    · have := Flt_le h1; omega
    · omega
  have hR1 : ∀ a b, mR μ1 a b = R0 pg a b := fun a b => (hFD.2.2 a b).trans (hR a b)
  refine aw_istore_n (lst' := [_, _, _, _]) d_MC_decision_40 rfl (Nat.le_of_ble_eq_true rfl) rfl ?_
  refine aw_aload_n d_MC_decision_41 rfl rfl ?_
  refine aw_getR fd_MC_text lk_MC_26 (by omega) rfl d_MC_decision_42 (hR1 _ _) ?_
  refine aw_ve (as := []) rfl cv_MC_125 (by omega) rfl rfl d_MC_decision_45 (Nat.le_of_ble_eq_true rfl) (d' := d - 1) (by omega) (m_Li_clear (μ := μ1) (k := 9) (by omega) (by omega) rfl rfl (hR1 _ _)) ?_
  refine aw_pop d_MC_decision_48 rfl ?_
  refine aw_iload_n d_MC_decision_49 rfl rfl ?_
  refine aw_iconst d_MC_decision_50 (in_c rfl) ?_
  refine aw_icmp_eq (tgt := 58) d_MC_decision_51 rfl (fun h51 => ?_) (fun h51 => ?_)
  · refine aw_aload_n d_MC_decision_58 rfl rfl ?_
    obtain ⟨x, s, f, hau, hseg, hx5, hs6⟩ := (hz0.resolve_left (fun ⟨q, _, h9⟩ => by omega)).2
    have hb9 := Seg_b hseg
    have hin := au_in hmd8 hau
    have hs8 : s < 256 := hin.2.2.1
    have h6k : cn s.testBit 8 ≤ 6 := cn8_6 hs8 hin.2.2.2
    have hD : isD (27 + 8 * i) := isD_of hi4
    have h26 := isD_26 hD
    have u2 : ∀ a b, a < 9 ∨ 17 < a → mI (wI μ1 9 1 0) a b = mI μ a b := fun a b g => by rw [mI_wI, if_neg (by omega)]; exact hFD.1 a b (by omega) (by omega) (by omega) (by omega) (by omega)
    have hok : okT (mI (wI μ1 9 1 0) 12) (mI (wI μ1 9 1 0) 13) (mI (wI μ1 9 1 0) 14) s (x + 1) := okT_of hmd8 hau hseg
    have hlen : (wr (mI (wI μ1 9 1 0) 12) (mI (wI μ1 9 1 0) 13) (mI (wI μ1 9 1 0) 14) 40 (x + 1 - 1) 0).length ≤ 40 := wr_len hn40 hseg
    have hmdl : ∀ l, s.testBit l = true → l < 8 → l < md := fun l hl h8 => au_md hau hl
    have hlt : ∀ j, j < cn s.testBit 8 → 0 ≤ mI (tkM (27 + 8 * i) s (wI μ1 9 1 0) 8) ((27 + 8 * i) + 3) j ∧ mI (tkM (27 + 8 * i) s (wI μ1 9 1 0) 8) ((27 + 8 * i) + 3) j < 8 := fun j hj => by obtain ⟨l, a1, a2, a3⟩ := lt_8 (D := (27 + 8 * i)) (μ := (wI μ1 9 1 0)) hj; omega
    have hoi : ∀ j, j < cn s.testBit 8 → okI (cF (27 + 8 * i) s (wI μ1 9 1 0) j) (cSx (27 + 8 * i) s (wI μ1 9 1 0) j) := fun j hj => by obtain ⟨l, a1, a2, a3⟩ := lt_8 (D := (27 + 8 * i)) (μ := (wI μ1 9 1 0)) hj; unfold cF cSx; rw [a3, u2 _ _ (by omega), u2 _ _ (by omega)]; exact (hcd l (hmdl l a2 a1)).1
    obtain ⟨t1, t2, t3⟩ := tkA_fr (D := (27 + 8 * i)) (k := cn s.testBit 8) (s := s) (n := x + 1) (sh := sh) (F := cF (27 + 8 * i) s (wI μ1 9 1 0)) (S := cSx (27 + 8 * i) s (wI μ1 9 1 0)) (μ := (wI μ1 9 1 0)) (by omega)
    have t1' : ∀ a b, a < 26 → mI (tkA (27 + 8 * i) (cn s.testBit 8) s (x + 1) sh (cF (27 + 8 * i) s (wI μ1 9 1 0)) (cSx (27 + 8 * i) s (wI μ1 9 1 0)) (wI μ1 9 1 0)) a b = mI (wI μ1 9 1 0) a b := fun a b g => (t1 a b (by omega) (by omega) (by omega)).trans ((tkM_fr _ _ _ _).1 a b (by omega) (by omega))
    have hRt : ∀ a b, mR (tkA (27 + 8 * i) (cn s.testBit 8) s (x + 1) sh (cF (27 + 8 * i) s (wI μ1 9 1 0)) (cSx (27 + 8 * i) s (wI μ1 9 1 0)) (wI μ1 9 1 0)) a b = R0 pg a b := fun a b => (t3 a b).trans (hR1 a b)
    have hl3 : ∀ j, mI (tkA (27 + 8 * i) (cn s.testBit 8) s (x + 1) sh (cF (27 + 8 * i) s (wI μ1 9 1 0)) (cSx (27 + 8 * i) s (wI μ1 9 1 0)) (wI μ1 9 1 0)) ((27 + 8 * i) + 3) j = mI (tkM (27 + 8 * i) s (wI μ1 9 1 0) 8) ((27 + 8 * i) + 3) j := fun j => t1 _ _ (by omega) (by omega) (by omega)
    have h72 : mI (wI μ1 9 1 0) (27 + 8 * i) 7 = 0 := (u2 _ _ (by omega)).trans h07
    have hkt : mI (tkA (27 + 8 * i) (cn s.testBit 8) s (x + 1) sh (cF (27 + 8 * i) s (wI μ1 9 1 0)) (cSx (27 + 8 * i) s (wI μ1 9 1 0)) (wI μ1 9 1 0)) (27 + 8 * i) 7 = ((cn s.testBit 8 : Nat) : Int) := (t1 _ _ (by omega) (by omega) (by omega)).trans (tkM_c h72 8)
    have hoit : ∀ j, j < cn s.testBit 8 → okI (mI (tkA (27 + 8 * i) (cn s.testBit 8) s (x + 1) sh (cF (27 + 8 * i) s (wI μ1 9 1 0)) (cSx (27 + 8 * i) s (wI μ1 9 1 0)) (wI μ1 9 1 0)) 6 (mI (tkA (27 + 8 * i) (cn s.testBit 8) s (x + 1) sh (cF (27 + 8 * i) s (wI μ1 9 1 0)) (cSx (27 + 8 * i) s (wI μ1 9 1 0)) (wI μ1 9 1 0)) ((27 + 8 * i) + 3) j).toNat) (mI (tkA (27 + 8 * i) (cn s.testBit 8) s (x + 1) sh (cF (27 + 8 * i) s (wI μ1 9 1 0)) (cSx (27 + 8 * i) s (wI μ1 9 1 0)) (wI μ1 9 1 0)) 7 (mI (tkA (27 + 8 * i) (cn s.testBit 8) s (x + 1) sh (cF (27 + 8 * i) s (wI μ1 9 1 0)) (cSx (27 + 8 * i) s (wI μ1 9 1 0)) (wI μ1 9 1 0)) ((27 + 8 * i) + 3) j).toNat) := fun j hj => by rw [hl3, t1' _ _ (by omega), t1' _ _ (by omega)]; exact hoi j hj
    have hkdt : ∀ j, j < cn s.testBit 8 → 0 ≤ mI (tkA (27 + 8 * i) (cn s.testBit 8) s (x + 1) sh (cF (27 + 8 * i) s (wI μ1 9 1 0)) (cSx (27 + 8 * i) s (wI μ1 9 1 0)) (wI μ1 9 1 0)) 5 (mI (tkA (27 + 8 * i) (cn s.testBit 8) s (x + 1) sh (cF (27 + 8 * i) s (wI μ1 9 1 0)) (cSx (27 + 8 * i) s (wI μ1 9 1 0)) (wI μ1 9 1 0)) ((27 + 8 * i) + 3) j).toNat := fun j hj => by rw [hl3, t1' _ _ (by omega), u2 _ _ (by omega)]; obtain ⟨l, a1, a2, a3⟩ := lt_8 (D := (27 + 8 * i)) (μ := (wI μ1 9 1 0)) hj; rw [a3]; exact (hcd l (hmdl l a2 a1)).2
    obtain ⟨v1, v2, v3⟩ := fwM_fr (D := (27 + 8 * i)) hoit
    refine aw_getR fd_MC_decisions lk_MC_57 (by omega) rfl d_MC_decision_59 (hR1 _ _) ?_
    refine aw_aload_n d_MC_decision_62 rfl rfl ?_
    refine aw_getI fd_MC_decisionCount lk_MC_85 (by omega) rfl d_MC_decision_63 ?_
    refine aw_tv (v' := (i : Int)) ((u2 _ _ (by omega)).trans hi) ?_
    refine aw_aald (n := i) (by omega) rfl rfl (by omega) ((hR1 _ _).trans (r26 (by omega))) d_MC_decision_66 ?_
    refine aw_astore_n (lst' := [_, _, _, _]) d_MC_decision_67 rfl (Nat.le_of_ble_eq_true rfl) rfl ?_
    refine aw_aload_n d_MC_decision_68 rfl rfl ?_
    refine aw_aload_n d_MC_decision_69 rfl rfl ?_
    refine aw_getR fd_MC_tree lk_MC_33 (by omega) rfl d_MC_decision_70 (hR1 _ _) ?_
    refine aw_iload_n d_MC_decision_73 rfl rfl ?_
    refine aw_ve (as := [_, _]) rfl cv_MC_132 (by omega) (shD0 hD) rfl d_MC_decision_74 (Nat.le_of_ble_eq_true rfl) (d' := d - 1) (by omega) (m_De_take (μ := (wI μ1 9 1 0)) (D := (27 + 8 * i)) (s := s) (n := x + 1) (k := cn s.testBit 8) (F := cF (27 + 8 * i) s (wI μ1 9 1 0)) (S := cSx (27 + 8 * i) s (wI μ1 9 1 0)) (sh := sh) (by omega) hD (fun a b => hR1 a b) (by exact hs6) hs8 rfl h6k h72 (by exact hx5) (by omega) (by omega) hok hlen hlt (fun j hj => rfl) (fun j hj => rfl) hoi) ?_
    refine aw_pc (pc' := 77) rfl ?_
    refine aw_aload_n d_MC_decision_77 rfl rfl ?_
    refine aw_getR fd_MC_walk lk_MC_51 (by omega) rfl d_MC_decision_78 (hRt _ _) ?_
    refine aw_aload_n d_MC_decision_81 rfl rfl ?_
    refine aw_ve (as := [_]) rfl cv_MC_136 (by omega) rfl rfl d_MC_decision_82 (Nat.le_of_ble_eq_true rfl) (d' := d - 1) (by omega) (m_Wa_findWords (μ := (tkA (27 + 8 * i) (cn s.testBit 8) s (x + 1) sh (cF (27 + 8 * i) s (wI μ1 9 1 0)) (cSx (27 + 8 * i) s (wI μ1 9 1 0)) (wI μ1 9 1 0))) (D := (27 + 8 * i)) (k := cn s.testBit 8) (by omega) hD hRt hkt h6k (fun j hj => by rw [hl3]; exact hlt j hj) hoit hkdt (fun j hj => by rw [t1' _ _ (by omega), t1' _ _ (by omega), u2 _ _ (by omega), u2 _ _ (by omega)]; exact hrg j hj)) ?_
    refine aw_mm (μ' := (fwM (27 + 8 * i) (cn s.testBit 8) (tkA (27 + 8 * i) (cn s.testBit 8) s (x + 1) sh (cF (27 + 8 * i) s (wI μ1 9 1 0)) (cSx (27 + 8 * i) s (wI μ1 9 1 0)) (wI μ1 9 1 0)))) rfl ?_
    have h10 : mI (fwM (27 + 8 * i) (cn s.testBit 8) (tkA (27 + 8 * i) (cn s.testBit 8) s (x + 1) sh (cF (27 + 8 * i) s (wI μ1 9 1 0)) (cSx (27 + 8 * i) s (wI μ1 9 1 0)) (wI μ1 9 1 0))) 0 10 = (i : Int) := (v1 _ _ (by omega) (by omega)).trans ((t1' _ _ (by omega)).trans ((u2 _ _ (by omega)).trans hi))
    refine aw_aload_n d_MC_decision_85 rfl rfl ?_
    refine aw_dup d_MC_decision_86 rfl ?_
    refine aw_getI fd_MC_decisionCount lk_MC_85 (by omega) rfl d_MC_decision_87 ?_
    refine aw_tv (v' := (i : Int)) h10 ?_
    refine aw_iconst d_MC_decision_90 (in_c rfl) ?_
    refine aw_iadd d_MC_decision_91 (by unfold inR; omega) ?_
    refine aw_putI fd_MC_decisionCount lk_MC_85 (by omega) rfl d_MC_decision_92 (Or.inl rfl) ?_
    refine aw_aload_n d_MC_decision_95 rfl rfl ?_
    refine aw_getI fd_MC_decisionCount lk_MC_85 (by omega) rfl d_MC_decision_96 ?_
    refine aw_tv (v' := (i : Int) + 1) (by rw [mI_wI, if_pos ⟨rfl, rfl⟩]) ?_
    refine aw_pc (pc' := 99) rfl ?_
    refine aw_iconst d_MC_decision_99 (in_c rfl) ?_
    refine aw_isub d_MC_decision_100 (by unfold inR; omega) ?_
    refine aw_tv (v' := (i : Int)) (by omega) ?_
    exact aw_iret d_MC_decision_101 rfl ⟨rfl, μ1, hFD, Or.inr ⟨x, s, f, hau, hseg, hx5, hs6, rfl, rfl⟩⟩
  · refine aw_iconst d_MC_decision_54 (in_c rfl) ?_
    refine aw_iload_n d_MC_decision_55 rfl rfl ?_
    refine aw_isub d_MC_decision_56 (by clear hz0; unfold inR; omega) ?_
    exact aw_iret d_MC_decision_57 rfl ⟨rfl, μ1, hFD, Or.inl (by obtain ⟨q, a1, a2⟩ := hz0.resolve_right (fun g => h51 g.1); exact ⟨q, a1, by rw [a2], rfl⟩)⟩
end
