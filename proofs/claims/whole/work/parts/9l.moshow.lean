/-! show: the reference -/
section
theorem aw_lshr {G : aG} {x : Bool} {y : aY} {d bc bs : Nat} {Q : aQ → Nat → aM → Prop} {pc : Nat} {lst : List (Option aV)} {st : List aV} {nn : Nat} {μ : aM} {a : BitVec 64} {w : Int} {k0 : Nat} (hw : w = (k0 : Int)) (hk : k0 < 64) (hd : decode y.2.1 pc = .ok (.lshr, 1)) (k : AW G x y d bc bs Q (pc + 1) lst (aL (a.sshiftRight k0) :: st) nn μ) : AW G x y d bc bs Q pc lst (aI w :: aL a :: st) nn μ := by
  subst hw
  refine aw_st (fun h => ok_kr (ok_s (ok_s h))) (fun p e R s m args below meth c H locs cells slots ls Z hx hb _ kk => lv_lshr hx hb hd ?_ kk) k
  rw [b_oN, b_l1 k0 hk]
  apply Int64.toBitVec.inj
  show a.sshiftRight' ((lN k0).toBitVec.smod 64) = a.sshiftRight k0
  rw [b_l3 k0 hk, BitVec.sshiftRight_eq', BitVec.toNat_ofNat, Nat.mod_eq_of_lt (by omega)]
theorem sr_bit {b : BitVec 64} {k : Nat} (hk : k < 64) : (b.sshiftRight k &&& 1) = 1 ↔ b.getLsbD k = true := by
  have e : (b.sshiftRight k).getLsbD 0 = b.getLsbD k := by rw [BitVec.getLsbD_sshiftRight]; simp [hk]
  have h1 : (b.sshiftRight k &&& 1) = BitVec.setWidth 64 (BitVec.ofBool ((b.sshiftRight k).getLsbD 0)) := BitVec.and_one_eq_setWidth_ofBool_getLsbD
  rw [h1, e]
  cases b.getLsbD k <;> decide
theorem dpt_le (t : Nat → Int) (a : Nat) : ∀ j, dpt t a j ≤ (j : Int) + 1 ∧ -(j : Int) ≤ dpt t a j
  | 0 => by rw [dpt]; omega
  | j + 1 => by
    have := dpt_le t a j
    rw [dpt]
    have h : -1 ≤ dlt (t (a + j + 1)) ∧ dlt (t (a + j + 1)) ≤ 1 := by unfold dlt; split; omega; split <;> omega
    omega
/-- the page after p characters -/
def pgM (T : Nat → Int) (kp : Nat → Bool) (m : aM) : Nat → aM
  | 0 => m
  | p + 1 => if kp p = true then wI (wI (pgM T kp m p) 92 (osg T kp p 0).length (T p)) 67 33 (((osg T kp p 0).length : Int) + 1) else pgM T kp m p
theorem osg_s (T : Nat → Int) (kp : Nat → Bool) (p : Nat) : osg T kp (p + 1) 0 = osg T kp p 0 ++ (if kp p then [T p] else []) := by
  rw [osg_add, Nat.zero_add, osg, osg, List.append_nil]
theorem pgM_fr (T : Nat → Int) (kp : Nat → Bool) (m : aM) : ∀ p, (∀ a b, a ≠ 92 → ¬ (a = 67 ∧ b = 33) → mI (pgM T kp m p) a b = mI m a b) ∧ (∀ a b, mL (pgM T kp m p) a b = mL m a b) ∧ (∀ a b, mR (pgM T kp m p) a b = mR m a b)
  | 0 => ⟨fun _ _ _ _ => rfl, fun _ _ => rfl, fun _ _ => rfl⟩
  | p + 1 => by
    obtain ⟨h1, h2, h3⟩ := pgM_fr T kp m p
    rw [pgM]
    split
    · exact ⟨fun a b g1 g2 => by rw [mI_wI, if_neg g2, mI_wI, if_neg (fun z => g1 z.1)]; exact h1 a b g1 g2, h2, h3⟩
    · exact ⟨h1, h2, h3⟩
theorem pgM_c {T : Nat → Int} {kp : Nat → Bool} {m : aM} (h0 : mI m 67 33 = 0) : ∀ p, mI (pgM T kp m p) 67 33 = ((osg T kp p 0).length : Int)
  | 0 => h0
  | p + 1 => by
    rw [pgM, osg_s]
    by_cases g : kp p = true
    · rw [if_pos g, if_pos g, mI_wI, if_pos ⟨rfl, rfl⟩, List.length_append]; rfl
    · rw [if_neg g, if_neg g, pgM_c h0 p, List.append_nil]
theorem pgM_at {T : Nat → Int} {kp : Nat → Bool} {m : aM} : ∀ p j, j < (osg T kp p 0).length → mI (pgM T kp m p) 92 j = (osg T kp p 0).getD j 0
  | 0, j, h => absurd h (Nat.not_lt_zero _)
  | p + 1, j, h => by
    rw [osg_s] at h ⊢
    rw [pgM]
    by_cases g : kp p = true
    · rw [if_pos g] at h ⊢
      rw [if_pos g, mI_wI, if_neg (by omega), mI_wI]
      by_cases e : j = (osg T kp p 0).length
      · rw [if_pos ⟨rfl, e⟩, e]; simp
      · rw [if_neg (fun z => e z.2), pgM_at p j (by rw [List.length_append] at h; simp at h; omega)]
        rw [List.getD_eq_getElem?_getD, List.getD_eq_getElem?_getD, List.getElem?_append_left (by rw [List.length_append] at h; simp at h; omega)]
    · rw [if_neg g, List.append_nil] at h
      rw [if_neg g, if_neg g, List.append_nil]; exact pgM_at p j h
theorem pgM_ch {T : Nat → Int} {kp : Nat → Bool} {m : aM} (hm : ∀ j, 0 ≤ mI m 92 j ∧ mI m 92 j < 65536) {n : Nat} (hT : ∀ p, p < n → 0 ≤ T p ∧ T p < 65536) : ∀ p, p ≤ n → ∀ j, 0 ≤ mI (pgM T kp m p) 92 j ∧ mI (pgM T kp m p) 92 j < 65536
  | 0, _, j => hm j
  | p + 1, hp, j => by
    rw [pgM]
    split
    · rw [mI_wI, if_neg (by omega), mI_wI]
      split
      · exact hT p (by omega)
      · exact pgM_ch hm hT p (by omega) j
    · exact pgM_ch hm hT p (by omega) j
variable {G : aG} {pg : Nat} {μ : aM}
set_option maxRecDepth 100000 in
theorem m_Mo_closing {d : Nat} (hd : 0 ≤ d) (hR : ∀ k j, mR μ k j = R0 pg k j) {i : Nat} (h4 : i < 4) {p e : Nat} (hpe : p < e) (hM : isM (fun q => mI μ 75 (40 * i + q)) p e) (he : e < 40) : AM G false d 0 0 y_Mo_closing [aP 67, aI (i : Int), aI (p : Int)] 94 μ (Qe (some (aI (e : Int))) 94 μ) := by
  refine am_of (n := 2) pf_Mo_closing (Nat.le_of_ble_eq_true rfl) (by intro v hv; simp only [List.mem_cons, List.not_mem_nil, or_false] at hv; rcases hv with rfl | rfl | rfl <;> first | trivial | assumption | exact in_c rfl | exact bI_in _ | (show inR _; unfold inR; omega)) rfl ?_
  have hM1 := hM.1
  have key : ∀ (m : Nat) (j : Nat), e - p - j = m → j ≤ e - p → AW G false y_Mo_closing d 0 0 (Qe (some (aI (e : Int))) 94 μ) 5 [some (aP 67), some (aI (i : Int)), some (aI (p : Int)), some (aI (dpt (fun q => mI μ 75 (40 * i + q)) p j)), some (aI ((p + j : Nat) : Int))] [] 94 μ := by
    intro m
    induction m using Nat.strongRecOn with | _ m ih =>
    intro j hm hj
    have hdl := dpt_le (fun q => mI μ 75 (40 * i + q)) p j
    have hdl2 := dpt_le (fun q => mI μ 75 (40 * i + q)) p (j + 1)
    refine aw_iload_n d_Mo_closing_5 rfl rfl ?_
    refine aw_if_le (tgt := 61) d_Mo_closing_6 rfl (fun h6 => ?_) (fun h6 => ?_)
    · refine aw_iload d_Mo_closing_61 rfl ?_
      exact aw_iret d_Mo_closing_63 rfl ⟨by rw [show p + j = e from Decidable.byContradiction (fun g => by have := hM.2.2 j (by omega); omega)], rfl, rfl⟩
    · have hjl : j < e - p := Decidable.byContradiction (fun g => h6 (by rw [show j = e - p by omega, hM.2.1]; decide))
      refine aw_iinc (lst' := [_, _, _, _, some (aI ((p + (j + 1) : Nat) : Int))]) d_Mo_closing_9 (Nat.le_of_ble_eq_true rfl) rfl (by unfold inR; omega) rfl ?_
      refine aw_iload_n d_Mo_closing_12 rfl rfl ?_
      refine aw_aload_n d_Mo_closing_13 rfl rfl ?_
      refine aw_getR fd_Mo_signs lk_Mo_31 (by omega) rfl d_Mo_closing_14 (hR _ _) ?_
      refine aw_bipush (z := 40) d_Mo_closing_17 (in_c rfl) rfl ?_
      refine aw_iload_n d_Mo_closing_19 rfl rfl ?_
      refine aw_imul d_Mo_closing_20 (by unfold inR; omega) ?_
      refine aw_iload d_Mo_closing_21 rfl ?_
      refine aw_iadd d_Mo_closing_23 (by unfold inR; omega) ?_
      refine aw_iald (n := 40 * i + (p + j + 1)) (by omega) rfl (by omega) (by omega) d_Mo_closing_24 ?_
      refine aw_bipush (z := 40) d_Mo_closing_25 (in_c rfl) rfl ?_
      refine aw_pc (pc' := 27) rfl ?_
      refine aw_icmp_ne (tgt := 34) d_Mo_closing_27 rfl (fun h27 => ?_) (fun h27 => ?_)
      · refine aw_aload_n d_Mo_closing_34 rfl rfl ?_
        refine aw_getR fd_Mo_signs lk_Mo_31 (by omega) rfl d_Mo_closing_35 (hR _ _) ?_
        refine aw_bipush (z := 40) d_Mo_closing_38 (in_c rfl) rfl ?_
        refine aw_iload_n d_Mo_closing_40 rfl rfl ?_
        refine aw_imul d_Mo_closing_41 (by unfold inR; omega) ?_
        refine aw_iload d_Mo_closing_42 rfl ?_
        refine aw_iadd d_Mo_closing_44 (by unfold inR; omega) ?_
        refine aw_iald (n := 40 * i + (p + j + 1)) (by omega) rfl (by omega) (by omega) d_Mo_closing_45 ?_
        refine aw_bipush (z := 41) d_Mo_closing_46 (in_c rfl) rfl ?_
        refine aw_icmp_ne (tgt := 55) d_Mo_closing_48 rfl (fun h48 => ?_) (fun h48 => ?_)
        · refine aw_iconst d_Mo_closing_55 (in_c rfl) ?_
          refine aw_iadd d_Mo_closing_56 (by first | (unfold inR; omega)) ?_
          refine aw_tv (v' := dpt (fun q => mI μ 75 (40 * i + q)) p (j + 1)) (by rw [dpt, show dlt (mI μ 75 (40 * i + (p + j + 1))) = _ from by unfold dlt; rw [if_neg h27, if_neg h48]]) ?_
          refine aw_istore_n (lst' := [_, _, _, _, _]) d_Mo_closing_57 rfl (Nat.le_of_ble_eq_true rfl) rfl ?_
          refine aw_goto (tgt := 5) d_Mo_closing_58 rfl ?_
          exact ih (e - p - (j + 1)) (by omega) (j + 1) rfl (by omega)
        · refine aw_iconst d_Mo_closing_51 (in_c rfl) ?_
          refine aw_goto (tgt := 56) d_Mo_closing_52 rfl ?_
          refine aw_iadd d_Mo_closing_56 (by first | (unfold inR; omega)) ?_
          refine aw_tv (v' := dpt (fun q => mI μ 75 (40 * i + q)) p (j + 1)) (by rw [dpt, show dlt (mI μ 75 (40 * i + (p + j + 1))) = _ from by unfold dlt; rw [if_neg h27, if_pos h48]]) ?_
          refine aw_istore_n (lst' := [_, _, _, _, _]) d_Mo_closing_57 rfl (Nat.le_of_ble_eq_true rfl) rfl ?_
          refine aw_goto (tgt := 5) d_Mo_closing_58 rfl ?_
          exact ih (e - p - (j + 1)) (by omega) (j + 1) rfl (by omega)
      · refine aw_iconst d_Mo_closing_30 (in_c rfl) ?_
        refine aw_goto (tgt := 56) d_Mo_closing_31 rfl ?_
        refine aw_iadd d_Mo_closing_56 (by first | (unfold inR; omega)) ?_
        refine aw_tv (v' := dpt (fun q => mI μ 75 (40 * i + q)) p (j + 1)) (by rw [dpt, show dlt (mI μ 75 (40 * i + (p + j + 1))) = _ from by unfold dlt; rw [if_pos h27]]) ?_
        refine aw_istore_n (lst' := [_, _, _, _, _]) d_Mo_closing_57 rfl (Nat.le_of_ble_eq_true rfl) rfl ?_
        refine aw_goto (tgt := 5) d_Mo_closing_58 rfl ?_
        exact ih (e - p - (j + 1)) (by omega) (j + 1) rfl (by omega)
  refine aw_iconst d_Mo_closing_0 (in_c rfl) ?_
  refine aw_istore_n (lst' := [_, _, _, _, _]) d_Mo_closing_1 rfl (Nat.le_of_ble_eq_true rfl) rfl ?_
  refine aw_iload_n d_Mo_closing_2 rfl rfl ?_
  refine aw_istore (lst' := [_, _, _, _, _]) d_Mo_closing_3 (Nat.le_of_ble_eq_true rfl) rfl ?_
  exact key (e - p - 0) 0 rfl (Nat.zero_le _)
set_option maxRecDepth 100000 in
theorem m_Mo_joinOf {d : Nat} (hd : 1 ≤ d) (hR : ∀ k j, mR μ k j = R0 pg k j) {i : Nat} (h4 : i < 4) {n : Nat} (hn40 : n ≤ 40) (hG : ∀ q, q < n → mI μ 75 (40 * i + q) = 40 → isM (fun q => mI μ 75 (40 * i + q)) q ((mtF (fun q => mI μ 75 (40 * i + q)) n) q) ∧ (mtF (fun q => mI μ 75 (40 * i + q)) n) q < n) {p : Nat} (hp : p < n) (h40 : mI μ 75 (40 * i + p) = 40) : AM G false d 0 0 y_Mo_joinOf [aP 67, aI (i : Int), aI (p : Int)] 94 μ (Qe (some (aI ((jn (fun q => mI μ 75 (40 * i + q)) (mtF (fun q => mI μ 75 (40 * i + q)) n) 40 p : Nat) : Int))) 94 μ) := by
  refine am_of (n := 7) pf_Mo_joinOf (Nat.le_of_ble_eq_true rfl) (by intro v hv; simp only [List.mem_cons, List.not_mem_nil, or_false] at hv; rcases hv with rfl | rfl | rfl <;> first | trivial | assumption | exact in_c rfl | exact bI_in _ | (show inR _; unfold inR; omega)) rfl ?_
  have key : ∀ (m : Nat) (F b best : Nat) (inn : Bool) (o6 o7 o8 o9 : Option aV), F = m → (b + F = p + 40 ∧ p ≤ b ∧ best ≤ 3 ∧ (inn = true → b < n ∧ best = 0 ∧ mI μ 75 (40 * i + b) = 40 ∧ jn (fun q => mI μ 75 (40 * i + q)) (mtF (fun q => mI μ 75 (40 * i + q)) n) 40 p = jn (fun q => mI μ 75 (40 * i + q)) (mtF (fun q => mI μ 75 (40 * i + q)) n) F b) ∧ (inn = false → b ≤ n ∧ jn (fun q => mI μ 75 (40 * i + q)) (mtF (fun q => mI μ 75 (40 * i + q)) n) 40 p = best)) → AW G false y_Mo_joinOf d 0 0 (Qe (some (aI ((jn (fun q => mI μ 75 (40 * i + q)) (mtF (fun q => mI μ 75 (40 * i + q)) n) 40 p : Nat) : Int))) 94 μ) 8 [some (aP 67), some (aI (i : Int)), some (aI (p : Int)), some (aI (b : Int)), some (aI (best : Int)), some (aI (bI inn)), o6, o7, o8, o9] [] 94 μ := by
    intro m
    induction m using Nat.strongRecOn with | _ m ih =>
    intro F b best inn o6 o7 o8 o9 hm hj
    have inl : ∀ (m2 : Nat) (q best : Nat) (inn : Bool) (o8 o9 : Option aV), (mtF (fun q => mI μ 75 (40 * i + q)) n) b - q = m2 → ((b < n ∧ mI μ 75 (40 * i + b) = 40 ∧ jn (fun q => mI μ 75 (40 * i + q)) (mtF (fun q => mI μ 75 (40 * i + q)) n) 40 p = jn (fun q => mI μ 75 (40 * i + q)) (mtF (fun q => mI μ 75 (40 * i + q)) n) F b) ∧ b + 1 ≤ q ∧ q ≤ n + 1 ∧ best ≤ 3 ∧ scn (fun q => mI μ 75 (40 * i + q)) (mtF (fun q => mI μ 75 (40 * i + q)) n) ((mtF (fun q => mI μ 75 (40 * i + q)) n) b) (b + 1) 0 = scn (fun q => mI μ 75 (40 * i + q)) (mtF (fun q => mI μ 75 (40 * i + q)) n) ((mtF (fun q => mI μ 75 (40 * i + q)) n) b) q best) → AW G false y_Mo_joinOf d 0 0 (Qe (some (aI ((jn (fun q => mI μ 75 (40 * i + q)) (mtF (fun q => mI μ 75 (40 * i + q)) n) 40 p : Nat) : Int))) 94 μ) 26 [some (aP 67), some (aI (i : Int)), some (aI (p : Int)), some (aI (b : Int)), some (aI (best : Int)), some (aI (bI inn)), some (aI (((mtF (fun q => mI μ 75 (40 * i + q)) n) b : Nat) : Int)), some (aI (q : Int)), o8, o9] [] 94 μ := by
      intro m2
      induction m2 using Nat.strongRecOn with | _ m2 ih2 =>
      intro q best inn o8 o9 hm2 hq
      obtain ⟨g1, g2⟩ := hG b hq.1.1 hq.1.2.1
      have g3 := g1.1
      have hlv3 : lvC (mI μ 75 (40 * i + q)) ≤ 3 := by unfold lvC; split; omega; split; omega; split <;> omega
      refine aw_iload d_Mo_joinOf_26 rfl ?_
      refine aw_iload d_Mo_joinOf_28 rfl ?_
      refine aw_icmp_ge (tgt := 127) d_Mo_joinOf_30 rfl (fun h30 => ?_) (fun h30 => ?_)
      · refine aw_iload d_Mo_joinOf_127 rfl ?_
        have hsc : scn (fun q => mI μ 75 (40 * i + q)) (mtF (fun q => mI μ 75 (40 * i + q)) n) ((mtF (fun q => mI μ 75 (40 * i + q)) n) b) (b + 1) 0 = best := by rw [hq.2.2.2.2, scn, if_neg (by omega)]
        have hF : F = (F - 1) + 1 := by omega
        refine aw_if_ne (tgt := 154) d_Mo_joinOf_129 rfl (fun h129 => ?_) (fun h129 => ?_)
        · refine aw_iconst d_Mo_joinOf_154 (in_c rfl) ?_
          refine aw_tv (v' := bI false) rfl ?_
          refine aw_istore (lst' := [_, _, _, _, _, _, _, _, _, _]) d_Mo_joinOf_155 (Nat.le_of_ble_eq_true rfl) rfl ?_
          refine aw_iload_n d_Mo_joinOf_157 rfl rfl ?_
          refine aw_iconst d_Mo_joinOf_158 (in_c rfl) ?_
          refine aw_iadd d_Mo_joinOf_159 (by unfold inR; omega) ?_
          refine aw_tv (v' := ((b + 1 : Nat) : Int)) (by omega) ?_
          refine aw_istore_n (lst' := [_, _, _, _, _, _, _, _, _, _]) d_Mo_joinOf_160 rfl (Nat.le_of_ble_eq_true rfl) rfl ?_
          refine aw_goto (tgt := 8) d_Mo_joinOf_161 rfl ?_
          exact ih (F - 1) (by omega) (F - 1) (b + 1) best false _ _ _ _ rfl ⟨by omega, by omega, by omega, (fun z => by cases z), fun _ => ⟨by omega, by rw [hq.1.2.2, hF, jn, if_neg (fun z => h129 (by rw [hsc] at z; omega)), hsc]⟩⟩
        · refine aw_aload_n d_Mo_joinOf_132 rfl rfl ?_
          refine aw_getR fd_Mo_signs lk_Mo_31 (by omega) rfl d_Mo_joinOf_133 (hR _ _) ?_
          refine aw_bipush (z := 40) d_Mo_joinOf_136 (in_c rfl) rfl ?_
          refine aw_iload_n d_Mo_joinOf_138 rfl rfl ?_
          refine aw_imul d_Mo_joinOf_139 (by unfold inR; omega) ?_
          refine aw_iload_n d_Mo_joinOf_140 rfl rfl ?_
          refine aw_iadd d_Mo_joinOf_141 (by unfold inR; omega) ?_
          refine aw_iconst d_Mo_joinOf_142 (in_c rfl) ?_
          refine aw_iadd d_Mo_joinOf_143 (by unfold inR; omega) ?_
          refine aw_iald (n := 40 * i + (b + 1)) (by omega) rfl (by omega) (by omega) d_Mo_joinOf_144 ?_
          refine aw_bipush (z := 40) d_Mo_joinOf_145 (in_c rfl) rfl ?_
          refine aw_pc (pc' := 147) rfl ?_
          refine aw_icmp_ne (tgt := 154) d_Mo_joinOf_147 rfl (fun h147 => ?_) (fun h147 => ?_)
          · refine aw_iconst d_Mo_joinOf_154 (in_c rfl) ?_
            refine aw_tv (v' := bI false) rfl ?_
            refine aw_istore (lst' := [_, _, _, _, _, _, _, _, _, _]) d_Mo_joinOf_155 (Nat.le_of_ble_eq_true rfl) rfl ?_
            refine aw_iload_n d_Mo_joinOf_157 rfl rfl ?_
            refine aw_iconst d_Mo_joinOf_158 (in_c rfl) ?_
            refine aw_iadd d_Mo_joinOf_159 (by unfold inR; omega) ?_
            refine aw_tv (v' := ((b + 1 : Nat) : Int)) (by omega) ?_
            refine aw_istore_n (lst' := [_, _, _, _, _, _, _, _, _, _]) d_Mo_joinOf_160 rfl (Nat.le_of_ble_eq_true rfl) rfl ?_
            refine aw_goto (tgt := 8) d_Mo_joinOf_161 rfl ?_
            exact ih (F - 1) (by omega) (F - 1) (b + 1) best false _ _ _ _ rfl ⟨by omega, by omega, by omega, (fun z => by cases z), fun _ => ⟨by omega, by rw [hq.1.2.2, hF, jn, if_neg (fun z => h147 z.2), hsc]⟩⟩
          · refine aw_iconst d_Mo_joinOf_150 (in_c rfl) ?_
            refine aw_tv (v' := bI true) rfl ?_
            refine aw_goto (tgt := 155) d_Mo_joinOf_151 rfl ?_
            refine aw_istore (lst' := [_, _, _, _, _, _, _, _, _, _]) d_Mo_joinOf_155 (Nat.le_of_ble_eq_true rfl) rfl ?_
            refine aw_iload_n d_Mo_joinOf_157 rfl rfl ?_
            refine aw_iconst d_Mo_joinOf_158 (in_c rfl) ?_
            refine aw_iadd d_Mo_joinOf_159 (by unfold inR; omega) ?_
            refine aw_tv (v' := ((b + 1 : Nat) : Int)) (by omega) ?_
            refine aw_istore_n (lst' := [_, _, _, _, _, _, _, _, _, _]) d_Mo_joinOf_160 rfl (Nat.le_of_ble_eq_true rfl) rfl ?_
            refine aw_goto (tgt := 8) d_Mo_joinOf_161 rfl ?_
            exact ih (F - 1) (by omega) (F - 1) (b + 1) best true _ _ _ _ rfl ⟨by omega, by omega, by omega, fun _ => ⟨by omega, by omega, h147, by rw [hq.1.2.2, hF, jn, if_pos ⟨by rw [hsc]; omega, h147⟩]; rfl⟩, (fun z => by cases z)⟩
      · refine aw_aload_n d_Mo_joinOf_33 rfl rfl ?_
        refine aw_getR fd_Mo_signs lk_Mo_31 (by omega) rfl d_Mo_joinOf_34 (hR _ _) ?_
        refine aw_bipush (z := 40) d_Mo_joinOf_37 (in_c rfl) rfl ?_
        refine aw_iload_n d_Mo_joinOf_39 rfl rfl ?_
        refine aw_imul d_Mo_joinOf_40 (by unfold inR; omega) ?_
        refine aw_iload d_Mo_joinOf_41 rfl ?_
        refine aw_iadd d_Mo_joinOf_43 (by unfold inR; omega) ?_
        refine aw_iald (n := 40 * i + q) (by omega) rfl (by omega) (by omega) d_Mo_joinOf_44 ?_
        refine aw_istore (lst' := [_, _, _, _, _, _, _, _, _, _]) d_Mo_joinOf_45 (Nat.le_of_ble_eq_true rfl) rfl ?_
        refine aw_iload d_Mo_joinOf_47 rfl ?_
        refine aw_bipush (z := 124) d_Mo_joinOf_49 (in_c rfl) rfl ?_
        refine aw_pc (pc' := 51) rfl ?_
        refine aw_icmp_ne (tgt := 58) d_Mo_joinOf_51 rfl (fun h51 => ?_) (fun h51 => ?_)
        · refine aw_iload d_Mo_joinOf_58 rfl ?_
          refine aw_bipush (z := 94) d_Mo_joinOf_60 (in_c rfl) rfl ?_
          refine aw_icmp_ne (tgt := 69) d_Mo_joinOf_62 rfl (fun h62 => ?_) (fun h62 => ?_)
          · refine aw_iload d_Mo_joinOf_69 rfl ?_
            refine aw_bipush (z := 38) d_Mo_joinOf_71 (in_c rfl) rfl ?_
            refine aw_icmp_ne (tgt := 80) d_Mo_joinOf_73 rfl (fun h73 => ?_) (fun h73 => ?_)
            · refine aw_iconst d_Mo_joinOf_80 (in_c rfl) ?_
              refine aw_tv (v' := ((lvC (mI μ 75 (40 * i + q)) : Nat) : Int)) (by unfold lvC; rw [if_neg h51, if_neg h62, if_neg h73]; rfl) ?_
              refine aw_istore (lst' := [_, _, _, _, _, _, _, _, _, _]) d_Mo_joinOf_81 (Nat.le_of_ble_eq_true rfl) rfl ?_
              refine aw_iload d_Mo_joinOf_83 rfl ?_
              refine aw_iload d_Mo_joinOf_85 rfl ?_
              refine aw_icmp_le (tgt := 95) d_Mo_joinOf_87 rfl (fun h87 => ?_) (fun h87 => ?_)
              · refine aw_iload d_Mo_joinOf_95 rfl ?_
                refine aw_tv (v' := ((max best (lvC (mI μ 75 (40 * i + q))) : Nat) : Int)) (by rw [Nat.max_def]; split <;> omega) ?_
                refine aw_istore (lst' := [_, _, _, _, _, _, _, _, _, _]) d_Mo_joinOf_97 (Nat.le_of_ble_eq_true rfl) rfl ?_
                refine aw_iload d_Mo_joinOf_99 rfl ?_
                refine aw_bipush (z := 40) d_Mo_joinOf_101 (in_c rfl) rfl ?_
                refine aw_icmp_ne (tgt := 118) d_Mo_joinOf_103 rfl (fun h103 => ?_) (fun h103 => ?_)
                · refine aw_iload d_Mo_joinOf_118 rfl ?_
                  refine aw_iconst d_Mo_joinOf_120 (in_c rfl) ?_
                  refine aw_iadd d_Mo_joinOf_121 (by unfold inR; omega) ?_
                  refine aw_tv (v' := ((q + 1 : Nat) : Int)) (by omega) ?_
                  refine aw_istore (lst' := [_, _, _, _, _, _, _, _, _, _]) d_Mo_joinOf_122 (Nat.le_of_ble_eq_true rfl) rfl ?_
                  refine aw_goto (tgt := 26) d_Mo_joinOf_124 rfl ?_
                  exact ih2 _ (by omega) (q + 1) _ inn _ _ rfl ⟨hq.1, by omega, by omega, by omega, hq.2.2.2.2.trans (by rw [scn_step (by omega), if_neg h103])⟩
                · refine aw_aload_n d_Mo_joinOf_106 rfl rfl ?_
                  obtain ⟨c1, c2⟩ := hG q (by omega) h103
                  refine aw_iload_n d_Mo_joinOf_107 rfl rfl ?_
                  refine aw_iload d_Mo_joinOf_108 rfl ?_
                  refine aw_ve (as := [_, _]) rfl cv_Mo_162 (by omega) rfl rfl d_Mo_joinOf_110 (Nat.le_of_ble_eq_true rfl) (d' := d - 1) (by omega) (m_Mo_closing (by omega) hR h4 c1.1 c1 (by omega)) ?_
                  refine aw_iconst d_Mo_joinOf_113 (in_c rfl) ?_
                  refine aw_iadd d_Mo_joinOf_114 (by unfold inR; omega) ?_
                  refine aw_tv (v' := (((mtF (fun q => mI μ 75 (40 * i + q)) n) q + 1 : Nat) : Int)) (by omega) ?_
                  refine aw_goto (tgt := 122) d_Mo_joinOf_115 rfl ?_
                  refine aw_istore (lst' := [_, _, _, _, _, _, _, _, _, _]) d_Mo_joinOf_122 (Nat.le_of_ble_eq_true rfl) rfl ?_
                  refine aw_goto (tgt := 26) d_Mo_joinOf_124 rfl ?_
                  exact ih2 _ (by have := c1.1; omega) ((mtF (fun q => mI μ 75 (40 * i + q)) n) q + 1) _ inn _ _ rfl ⟨hq.1, by have := c1.1; omega, by omega, by omega, hq.2.2.2.2.trans (by rw [scn_step (by omega), if_pos h103, Nat.max_eq_left (by have := c1.1; omega)])⟩
              · refine aw_iload d_Mo_joinOf_90 rfl ?_
                refine aw_tv (v' := ((max best (lvC (mI μ 75 (40 * i + q))) : Nat) : Int)) (by rw [Nat.max_def]; split <;> omega) ?_
                refine aw_goto (tgt := 97) d_Mo_joinOf_92 rfl ?_
                refine aw_istore (lst' := [_, _, _, _, _, _, _, _, _, _]) d_Mo_joinOf_97 (Nat.le_of_ble_eq_true rfl) rfl ?_
                refine aw_iload d_Mo_joinOf_99 rfl ?_
                refine aw_bipush (z := 40) d_Mo_joinOf_101 (in_c rfl) rfl ?_
                refine aw_icmp_ne (tgt := 118) d_Mo_joinOf_103 rfl (fun h103 => ?_) (fun h103 => ?_)
                · refine aw_iload d_Mo_joinOf_118 rfl ?_
                  refine aw_iconst d_Mo_joinOf_120 (in_c rfl) ?_
                  refine aw_iadd d_Mo_joinOf_121 (by unfold inR; omega) ?_
                  refine aw_tv (v' := ((q + 1 : Nat) : Int)) (by omega) ?_
                  refine aw_istore (lst' := [_, _, _, _, _, _, _, _, _, _]) d_Mo_joinOf_122 (Nat.le_of_ble_eq_true rfl) rfl ?_
                  refine aw_goto (tgt := 26) d_Mo_joinOf_124 rfl ?_
                  exact ih2 _ (by omega) (q + 1) _ inn _ _ rfl ⟨hq.1, by omega, by omega, by omega, hq.2.2.2.2.trans (by rw [scn_step (by omega), if_neg h103])⟩
                · refine aw_aload_n d_Mo_joinOf_106 rfl rfl ?_
                  obtain ⟨c1, c2⟩ := hG q (by omega) h103
                  refine aw_iload_n d_Mo_joinOf_107 rfl rfl ?_
                  refine aw_iload d_Mo_joinOf_108 rfl ?_
                  refine aw_ve (as := [_, _]) rfl cv_Mo_162 (by omega) rfl rfl d_Mo_joinOf_110 (Nat.le_of_ble_eq_true rfl) (d' := d - 1) (by omega) (m_Mo_closing (by omega) hR h4 c1.1 c1 (by omega)) ?_
                  refine aw_iconst d_Mo_joinOf_113 (in_c rfl) ?_
                  refine aw_iadd d_Mo_joinOf_114 (by unfold inR; omega) ?_
                  refine aw_tv (v' := (((mtF (fun q => mI μ 75 (40 * i + q)) n) q + 1 : Nat) : Int)) (by omega) ?_
                  refine aw_goto (tgt := 122) d_Mo_joinOf_115 rfl ?_
                  refine aw_istore (lst' := [_, _, _, _, _, _, _, _, _, _]) d_Mo_joinOf_122 (Nat.le_of_ble_eq_true rfl) rfl ?_
                  refine aw_goto (tgt := 26) d_Mo_joinOf_124 rfl ?_
                  exact ih2 _ (by have := c1.1; omega) ((mtF (fun q => mI μ 75 (40 * i + q)) n) q + 1) _ inn _ _ rfl ⟨hq.1, by have := c1.1; omega, by omega, by omega, hq.2.2.2.2.trans (by rw [scn_step (by omega), if_pos h103, Nat.max_eq_left (by have := c1.1; omega)])⟩
            · refine aw_iconst d_Mo_joinOf_76 (in_c rfl) ?_
              refine aw_tv (v' := ((lvC (mI μ 75 (40 * i + q)) : Nat) : Int)) (by unfold lvC; rw [if_neg h51, if_neg h62, if_pos h73]; rfl) ?_
              refine aw_goto (tgt := 81) d_Mo_joinOf_77 rfl ?_
              refine aw_istore (lst' := [_, _, _, _, _, _, _, _, _, _]) d_Mo_joinOf_81 (Nat.le_of_ble_eq_true rfl) rfl ?_
              refine aw_iload d_Mo_joinOf_83 rfl ?_
              refine aw_iload d_Mo_joinOf_85 rfl ?_
              refine aw_icmp_le (tgt := 95) d_Mo_joinOf_87 rfl (fun h87 => ?_) (fun h87 => ?_)
              · refine aw_iload d_Mo_joinOf_95 rfl ?_
                refine aw_tv (v' := ((max best (lvC (mI μ 75 (40 * i + q))) : Nat) : Int)) (by rw [Nat.max_def]; split <;> omega) ?_
                refine aw_istore (lst' := [_, _, _, _, _, _, _, _, _, _]) d_Mo_joinOf_97 (Nat.le_of_ble_eq_true rfl) rfl ?_
                refine aw_iload d_Mo_joinOf_99 rfl ?_
                refine aw_bipush (z := 40) d_Mo_joinOf_101 (in_c rfl) rfl ?_
                refine aw_icmp_ne (tgt := 118) d_Mo_joinOf_103 rfl (fun h103 => ?_) (fun h103 => ?_)
                · refine aw_iload d_Mo_joinOf_118 rfl ?_
                  refine aw_iconst d_Mo_joinOf_120 (in_c rfl) ?_
                  refine aw_iadd d_Mo_joinOf_121 (by unfold inR; omega) ?_
                  refine aw_tv (v' := ((q + 1 : Nat) : Int)) (by omega) ?_
                  refine aw_istore (lst' := [_, _, _, _, _, _, _, _, _, _]) d_Mo_joinOf_122 (Nat.le_of_ble_eq_true rfl) rfl ?_
                  refine aw_goto (tgt := 26) d_Mo_joinOf_124 rfl ?_
                  exact ih2 _ (by omega) (q + 1) _ inn _ _ rfl ⟨hq.1, by omega, by omega, by omega, hq.2.2.2.2.trans (by rw [scn_step (by omega), if_neg h103])⟩
                · refine aw_aload_n d_Mo_joinOf_106 rfl rfl ?_
                  obtain ⟨c1, c2⟩ := hG q (by omega) h103
                  refine aw_iload_n d_Mo_joinOf_107 rfl rfl ?_
                  refine aw_iload d_Mo_joinOf_108 rfl ?_
                  refine aw_ve (as := [_, _]) rfl cv_Mo_162 (by omega) rfl rfl d_Mo_joinOf_110 (Nat.le_of_ble_eq_true rfl) (d' := d - 1) (by omega) (m_Mo_closing (by omega) hR h4 c1.1 c1 (by omega)) ?_
                  refine aw_iconst d_Mo_joinOf_113 (in_c rfl) ?_
                  refine aw_iadd d_Mo_joinOf_114 (by unfold inR; omega) ?_
                  refine aw_tv (v' := (((mtF (fun q => mI μ 75 (40 * i + q)) n) q + 1 : Nat) : Int)) (by omega) ?_
                  refine aw_goto (tgt := 122) d_Mo_joinOf_115 rfl ?_
                  refine aw_istore (lst' := [_, _, _, _, _, _, _, _, _, _]) d_Mo_joinOf_122 (Nat.le_of_ble_eq_true rfl) rfl ?_
                  refine aw_goto (tgt := 26) d_Mo_joinOf_124 rfl ?_
                  exact ih2 _ (by have := c1.1; omega) ((mtF (fun q => mI μ 75 (40 * i + q)) n) q + 1) _ inn _ _ rfl ⟨hq.1, by have := c1.1; omega, by omega, by omega, hq.2.2.2.2.trans (by rw [scn_step (by omega), if_pos h103, Nat.max_eq_left (by have := c1.1; omega)])⟩
              · refine aw_iload d_Mo_joinOf_90 rfl ?_
                refine aw_tv (v' := ((max best (lvC (mI μ 75 (40 * i + q))) : Nat) : Int)) (by rw [Nat.max_def]; split <;> omega) ?_
                refine aw_goto (tgt := 97) d_Mo_joinOf_92 rfl ?_
                refine aw_istore (lst' := [_, _, _, _, _, _, _, _, _, _]) d_Mo_joinOf_97 (Nat.le_of_ble_eq_true rfl) rfl ?_
                refine aw_iload d_Mo_joinOf_99 rfl ?_
                refine aw_bipush (z := 40) d_Mo_joinOf_101 (in_c rfl) rfl ?_
                refine aw_icmp_ne (tgt := 118) d_Mo_joinOf_103 rfl (fun h103 => ?_) (fun h103 => ?_)
                · refine aw_iload d_Mo_joinOf_118 rfl ?_
                  refine aw_iconst d_Mo_joinOf_120 (in_c rfl) ?_
                  refine aw_iadd d_Mo_joinOf_121 (by unfold inR; omega) ?_
                  refine aw_tv (v' := ((q + 1 : Nat) : Int)) (by omega) ?_
                  refine aw_istore (lst' := [_, _, _, _, _, _, _, _, _, _]) d_Mo_joinOf_122 (Nat.le_of_ble_eq_true rfl) rfl ?_
                  refine aw_goto (tgt := 26) d_Mo_joinOf_124 rfl ?_
                  exact ih2 _ (by omega) (q + 1) _ inn _ _ rfl ⟨hq.1, by omega, by omega, by omega, hq.2.2.2.2.trans (by rw [scn_step (by omega), if_neg h103])⟩
                · refine aw_aload_n d_Mo_joinOf_106 rfl rfl ?_
                  obtain ⟨c1, c2⟩ := hG q (by omega) h103
                  refine aw_iload_n d_Mo_joinOf_107 rfl rfl ?_
                  refine aw_iload d_Mo_joinOf_108 rfl ?_
                  refine aw_ve (as := [_, _]) rfl cv_Mo_162 (by omega) rfl rfl d_Mo_joinOf_110 (Nat.le_of_ble_eq_true rfl) (d' := d - 1) (by omega) (m_Mo_closing (by omega) hR h4 c1.1 c1 (by omega)) ?_
                  refine aw_iconst d_Mo_joinOf_113 (in_c rfl) ?_
                  refine aw_iadd d_Mo_joinOf_114 (by unfold inR; omega) ?_
                  refine aw_tv (v' := (((mtF (fun q => mI μ 75 (40 * i + q)) n) q + 1 : Nat) : Int)) (by omega) ?_
                  refine aw_goto (tgt := 122) d_Mo_joinOf_115 rfl ?_
                  refine aw_istore (lst' := [_, _, _, _, _, _, _, _, _, _]) d_Mo_joinOf_122 (Nat.le_of_ble_eq_true rfl) rfl ?_
                  refine aw_goto (tgt := 26) d_Mo_joinOf_124 rfl ?_
                  exact ih2 _ (by have := c1.1; omega) ((mtF (fun q => mI μ 75 (40 * i + q)) n) q + 1) _ inn _ _ rfl ⟨hq.1, by have := c1.1; omega, by omega, by omega, hq.2.2.2.2.trans (by rw [scn_step (by omega), if_pos h103, Nat.max_eq_left (by have := c1.1; omega)])⟩
          · refine aw_iconst d_Mo_joinOf_65 (in_c rfl) ?_
            refine aw_tv (v' := ((lvC (mI μ 75 (40 * i + q)) : Nat) : Int)) (by unfold lvC; rw [if_neg h51, if_pos h62]; rfl) ?_
            refine aw_goto (tgt := 81) d_Mo_joinOf_66 rfl ?_
            refine aw_istore (lst' := [_, _, _, _, _, _, _, _, _, _]) d_Mo_joinOf_81 (Nat.le_of_ble_eq_true rfl) rfl ?_
            refine aw_iload d_Mo_joinOf_83 rfl ?_
            refine aw_iload d_Mo_joinOf_85 rfl ?_
            refine aw_icmp_le (tgt := 95) d_Mo_joinOf_87 rfl (fun h87 => ?_) (fun h87 => ?_)
            · refine aw_iload d_Mo_joinOf_95 rfl ?_
              refine aw_tv (v' := ((max best (lvC (mI μ 75 (40 * i + q))) : Nat) : Int)) (by rw [Nat.max_def]; split <;> omega) ?_
              refine aw_istore (lst' := [_, _, _, _, _, _, _, _, _, _]) d_Mo_joinOf_97 (Nat.le_of_ble_eq_true rfl) rfl ?_
              refine aw_iload d_Mo_joinOf_99 rfl ?_
              refine aw_bipush (z := 40) d_Mo_joinOf_101 (in_c rfl) rfl ?_
              refine aw_icmp_ne (tgt := 118) d_Mo_joinOf_103 rfl (fun h103 => ?_) (fun h103 => ?_)
              · refine aw_iload d_Mo_joinOf_118 rfl ?_
                refine aw_iconst d_Mo_joinOf_120 (in_c rfl) ?_
                refine aw_iadd d_Mo_joinOf_121 (by unfold inR; omega) ?_
                refine aw_tv (v' := ((q + 1 : Nat) : Int)) (by omega) ?_
                refine aw_istore (lst' := [_, _, _, _, _, _, _, _, _, _]) d_Mo_joinOf_122 (Nat.le_of_ble_eq_true rfl) rfl ?_
                refine aw_goto (tgt := 26) d_Mo_joinOf_124 rfl ?_
                exact ih2 _ (by omega) (q + 1) _ inn _ _ rfl ⟨hq.1, by omega, by omega, by omega, hq.2.2.2.2.trans (by rw [scn_step (by omega), if_neg h103])⟩
              · refine aw_aload_n d_Mo_joinOf_106 rfl rfl ?_
                obtain ⟨c1, c2⟩ := hG q (by omega) h103
                refine aw_iload_n d_Mo_joinOf_107 rfl rfl ?_
                refine aw_iload d_Mo_joinOf_108 rfl ?_
                refine aw_ve (as := [_, _]) rfl cv_Mo_162 (by omega) rfl rfl d_Mo_joinOf_110 (Nat.le_of_ble_eq_true rfl) (d' := d - 1) (by omega) (m_Mo_closing (by omega) hR h4 c1.1 c1 (by omega)) ?_
                refine aw_iconst d_Mo_joinOf_113 (in_c rfl) ?_
                refine aw_iadd d_Mo_joinOf_114 (by unfold inR; omega) ?_
                refine aw_tv (v' := (((mtF (fun q => mI μ 75 (40 * i + q)) n) q + 1 : Nat) : Int)) (by omega) ?_
                refine aw_goto (tgt := 122) d_Mo_joinOf_115 rfl ?_
                refine aw_istore (lst' := [_, _, _, _, _, _, _, _, _, _]) d_Mo_joinOf_122 (Nat.le_of_ble_eq_true rfl) rfl ?_
                refine aw_goto (tgt := 26) d_Mo_joinOf_124 rfl ?_
                exact ih2 _ (by have := c1.1; omega) ((mtF (fun q => mI μ 75 (40 * i + q)) n) q + 1) _ inn _ _ rfl ⟨hq.1, by have := c1.1; omega, by omega, by omega, hq.2.2.2.2.trans (by rw [scn_step (by omega), if_pos h103, Nat.max_eq_left (by have := c1.1; omega)])⟩
            · refine aw_iload d_Mo_joinOf_90 rfl ?_
              refine aw_tv (v' := ((max best (lvC (mI μ 75 (40 * i + q))) : Nat) : Int)) (by rw [Nat.max_def]; split <;> omega) ?_
              refine aw_goto (tgt := 97) d_Mo_joinOf_92 rfl ?_
              refine aw_istore (lst' := [_, _, _, _, _, _, _, _, _, _]) d_Mo_joinOf_97 (Nat.le_of_ble_eq_true rfl) rfl ?_
              refine aw_iload d_Mo_joinOf_99 rfl ?_
              refine aw_bipush (z := 40) d_Mo_joinOf_101 (in_c rfl) rfl ?_
              refine aw_icmp_ne (tgt := 118) d_Mo_joinOf_103 rfl (fun h103 => ?_) (fun h103 => ?_)
              · refine aw_iload d_Mo_joinOf_118 rfl ?_
                refine aw_iconst d_Mo_joinOf_120 (in_c rfl) ?_
                refine aw_iadd d_Mo_joinOf_121 (by unfold inR; omega) ?_
                refine aw_tv (v' := ((q + 1 : Nat) : Int)) (by omega) ?_
                refine aw_istore (lst' := [_, _, _, _, _, _, _, _, _, _]) d_Mo_joinOf_122 (Nat.le_of_ble_eq_true rfl) rfl ?_
                refine aw_goto (tgt := 26) d_Mo_joinOf_124 rfl ?_
                exact ih2 _ (by omega) (q + 1) _ inn _ _ rfl ⟨hq.1, by omega, by omega, by omega, hq.2.2.2.2.trans (by rw [scn_step (by omega), if_neg h103])⟩
              · refine aw_aload_n d_Mo_joinOf_106 rfl rfl ?_
                obtain ⟨c1, c2⟩ := hG q (by omega) h103
                refine aw_iload_n d_Mo_joinOf_107 rfl rfl ?_
                refine aw_iload d_Mo_joinOf_108 rfl ?_
                refine aw_ve (as := [_, _]) rfl cv_Mo_162 (by omega) rfl rfl d_Mo_joinOf_110 (Nat.le_of_ble_eq_true rfl) (d' := d - 1) (by omega) (m_Mo_closing (by omega) hR h4 c1.1 c1 (by omega)) ?_
                refine aw_iconst d_Mo_joinOf_113 (in_c rfl) ?_
                refine aw_iadd d_Mo_joinOf_114 (by unfold inR; omega) ?_
                refine aw_tv (v' := (((mtF (fun q => mI μ 75 (40 * i + q)) n) q + 1 : Nat) : Int)) (by omega) ?_
                refine aw_goto (tgt := 122) d_Mo_joinOf_115 rfl ?_
                refine aw_istore (lst' := [_, _, _, _, _, _, _, _, _, _]) d_Mo_joinOf_122 (Nat.le_of_ble_eq_true rfl) rfl ?_
                refine aw_goto (tgt := 26) d_Mo_joinOf_124 rfl ?_
                exact ih2 _ (by have := c1.1; omega) ((mtF (fun q => mI μ 75 (40 * i + q)) n) q + 1) _ inn _ _ rfl ⟨hq.1, by have := c1.1; omega, by omega, by omega, hq.2.2.2.2.trans (by rw [scn_step (by omega), if_pos h103, Nat.max_eq_left (by have := c1.1; omega)])⟩
        · refine aw_iconst d_Mo_joinOf_54 (in_c rfl) ?_
          refine aw_tv (v' := ((lvC (mI μ 75 (40 * i + q)) : Nat) : Int)) (by unfold lvC; rw [if_pos h51]; rfl) ?_
          refine aw_goto (tgt := 81) d_Mo_joinOf_55 rfl ?_
          refine aw_istore (lst' := [_, _, _, _, _, _, _, _, _, _]) d_Mo_joinOf_81 (Nat.le_of_ble_eq_true rfl) rfl ?_
          refine aw_iload d_Mo_joinOf_83 rfl ?_
          refine aw_iload d_Mo_joinOf_85 rfl ?_
          refine aw_icmp_le (tgt := 95) d_Mo_joinOf_87 rfl (fun h87 => ?_) (fun h87 => ?_)
          · refine aw_iload d_Mo_joinOf_95 rfl ?_
            refine aw_tv (v' := ((max best (lvC (mI μ 75 (40 * i + q))) : Nat) : Int)) (by rw [Nat.max_def]; split <;> omega) ?_
            refine aw_istore (lst' := [_, _, _, _, _, _, _, _, _, _]) d_Mo_joinOf_97 (Nat.le_of_ble_eq_true rfl) rfl ?_
            refine aw_iload d_Mo_joinOf_99 rfl ?_
            refine aw_bipush (z := 40) d_Mo_joinOf_101 (in_c rfl) rfl ?_
            refine aw_icmp_ne (tgt := 118) d_Mo_joinOf_103 rfl (fun h103 => ?_) (fun h103 => ?_)
            · refine aw_iload d_Mo_joinOf_118 rfl ?_
              refine aw_iconst d_Mo_joinOf_120 (in_c rfl) ?_
              refine aw_iadd d_Mo_joinOf_121 (by unfold inR; omega) ?_
              refine aw_tv (v' := ((q + 1 : Nat) : Int)) (by omega) ?_
              refine aw_istore (lst' := [_, _, _, _, _, _, _, _, _, _]) d_Mo_joinOf_122 (Nat.le_of_ble_eq_true rfl) rfl ?_
              refine aw_goto (tgt := 26) d_Mo_joinOf_124 rfl ?_
              exact ih2 _ (by omega) (q + 1) _ inn _ _ rfl ⟨hq.1, by omega, by omega, by omega, hq.2.2.2.2.trans (by rw [scn_step (by omega), if_neg h103])⟩
            · refine aw_aload_n d_Mo_joinOf_106 rfl rfl ?_
              obtain ⟨c1, c2⟩ := hG q (by omega) h103
              refine aw_iload_n d_Mo_joinOf_107 rfl rfl ?_
              refine aw_iload d_Mo_joinOf_108 rfl ?_
              refine aw_ve (as := [_, _]) rfl cv_Mo_162 (by omega) rfl rfl d_Mo_joinOf_110 (Nat.le_of_ble_eq_true rfl) (d' := d - 1) (by omega) (m_Mo_closing (by omega) hR h4 c1.1 c1 (by omega)) ?_
              refine aw_iconst d_Mo_joinOf_113 (in_c rfl) ?_
              refine aw_iadd d_Mo_joinOf_114 (by unfold inR; omega) ?_
              refine aw_tv (v' := (((mtF (fun q => mI μ 75 (40 * i + q)) n) q + 1 : Nat) : Int)) (by omega) ?_
              refine aw_goto (tgt := 122) d_Mo_joinOf_115 rfl ?_
              refine aw_istore (lst' := [_, _, _, _, _, _, _, _, _, _]) d_Mo_joinOf_122 (Nat.le_of_ble_eq_true rfl) rfl ?_
              refine aw_goto (tgt := 26) d_Mo_joinOf_124 rfl ?_
              exact ih2 _ (by have := c1.1; omega) ((mtF (fun q => mI μ 75 (40 * i + q)) n) q + 1) _ inn _ _ rfl ⟨hq.1, by have := c1.1; omega, by omega, by omega, hq.2.2.2.2.trans (by rw [scn_step (by omega), if_pos h103, Nat.max_eq_left (by have := c1.1; omega)])⟩
          · refine aw_iload d_Mo_joinOf_90 rfl ?_
            refine aw_tv (v' := ((max best (lvC (mI μ 75 (40 * i + q))) : Nat) : Int)) (by rw [Nat.max_def]; split <;> omega) ?_
            refine aw_goto (tgt := 97) d_Mo_joinOf_92 rfl ?_
            refine aw_istore (lst' := [_, _, _, _, _, _, _, _, _, _]) d_Mo_joinOf_97 (Nat.le_of_ble_eq_true rfl) rfl ?_
            refine aw_iload d_Mo_joinOf_99 rfl ?_
            refine aw_bipush (z := 40) d_Mo_joinOf_101 (in_c rfl) rfl ?_
            refine aw_icmp_ne (tgt := 118) d_Mo_joinOf_103 rfl (fun h103 => ?_) (fun h103 => ?_)
            · refine aw_iload d_Mo_joinOf_118 rfl ?_
              refine aw_iconst d_Mo_joinOf_120 (in_c rfl) ?_
              refine aw_iadd d_Mo_joinOf_121 (by unfold inR; omega) ?_
              refine aw_tv (v' := ((q + 1 : Nat) : Int)) (by omega) ?_
              refine aw_istore (lst' := [_, _, _, _, _, _, _, _, _, _]) d_Mo_joinOf_122 (Nat.le_of_ble_eq_true rfl) rfl ?_
              refine aw_goto (tgt := 26) d_Mo_joinOf_124 rfl ?_
              exact ih2 _ (by omega) (q + 1) _ inn _ _ rfl ⟨hq.1, by omega, by omega, by omega, hq.2.2.2.2.trans (by rw [scn_step (by omega), if_neg h103])⟩
            · refine aw_aload_n d_Mo_joinOf_106 rfl rfl ?_
              obtain ⟨c1, c2⟩ := hG q (by omega) h103
              refine aw_iload_n d_Mo_joinOf_107 rfl rfl ?_
              refine aw_iload d_Mo_joinOf_108 rfl ?_
              refine aw_ve (as := [_, _]) rfl cv_Mo_162 (by omega) rfl rfl d_Mo_joinOf_110 (Nat.le_of_ble_eq_true rfl) (d' := d - 1) (by omega) (m_Mo_closing (by omega) hR h4 c1.1 c1 (by omega)) ?_
              refine aw_iconst d_Mo_joinOf_113 (in_c rfl) ?_
              refine aw_iadd d_Mo_joinOf_114 (by unfold inR; omega) ?_
              refine aw_tv (v' := (((mtF (fun q => mI μ 75 (40 * i + q)) n) q + 1 : Nat) : Int)) (by omega) ?_
              refine aw_goto (tgt := 122) d_Mo_joinOf_115 rfl ?_
              refine aw_istore (lst' := [_, _, _, _, _, _, _, _, _, _]) d_Mo_joinOf_122 (Nat.le_of_ble_eq_true rfl) rfl ?_
              refine aw_goto (tgt := 26) d_Mo_joinOf_124 rfl ?_
              exact ih2 _ (by have := c1.1; omega) ((mtF (fun q => mI μ 75 (40 * i + q)) n) q + 1) _ inn _ _ rfl ⟨hq.1, by have := c1.1; omega, by omega, by omega, hq.2.2.2.2.trans (by rw [scn_step (by omega), if_pos h103, Nat.max_eq_left (by have := c1.1; omega)])⟩
    refine aw_iload d_Mo_joinOf_8 rfl ?_
    refine aw_if_eq (tgt := 164) d_Mo_joinOf_10 rfl (fun h10 => ?_) (fun h10 => ?_)
    · replace h10 := bz h10
      refine aw_iload d_Mo_joinOf_164 rfl ?_
      exact aw_iret d_Mo_joinOf_166 rfl ⟨by rw [(hj.2.2.2.2 h10).2], rfl, rfl⟩
    · replace h10 := bn h10
      refine aw_aload_n d_Mo_joinOf_13 rfl rfl ?_
      obtain ⟨i1, i2, i3, i4⟩ := hj.2.2.2.1 h10
      obtain ⟨g1, g2⟩ := hG b i1 i3
      have g3 := g1.1
      refine aw_iload_n d_Mo_joinOf_14 rfl rfl ?_
      refine aw_iload_n d_Mo_joinOf_15 rfl rfl ?_
      refine aw_ve (as := [_, _]) rfl cv_Mo_162 (by omega) rfl rfl d_Mo_joinOf_16 (Nat.le_of_ble_eq_true rfl) (d' := d - 1) (by omega) (m_Mo_closing (by omega) hR h4 g1.1 g1 (by omega)) ?_
      refine aw_istore (lst' := [_, _, _, _, _, _, _, _, _, _]) d_Mo_joinOf_19 (Nat.le_of_ble_eq_true rfl) rfl ?_
      refine aw_iload_n d_Mo_joinOf_21 rfl rfl ?_
      refine aw_iconst d_Mo_joinOf_22 (in_c rfl) ?_
      refine aw_iadd d_Mo_joinOf_23 (by unfold inR; omega) ?_
      refine aw_tv (v' := ((b + 1 : Nat) : Int)) (by omega) ?_
      refine aw_istore (lst' := [_, _, _, _, _, _, _, _, _, _]) d_Mo_joinOf_24 (Nat.le_of_ble_eq_true rfl) rfl ?_
      exact inl ((mtF (fun q => mI μ 75 (40 * i + q)) n) b - (b + 1)) (b + 1) best inn _ _ rfl ⟨⟨i1, i3, i4⟩, Nat.le_refl _, by omega, by omega, by rw [i2]⟩
  refine aw_iload_n d_Mo_joinOf_0 rfl rfl ?_
  refine aw_istore_n (lst' := [_, _, _, _, _, _, _, _, _, _]) d_Mo_joinOf_1 rfl (Nat.le_of_ble_eq_true rfl) rfl ?_
  refine aw_iconst d_Mo_joinOf_2 (in_c rfl) ?_
  refine aw_istore (lst' := [_, _, _, _, _, _, _, _, _, _]) d_Mo_joinOf_3 (Nat.le_of_ble_eq_true rfl) rfl ?_
  refine aw_iconst d_Mo_joinOf_5 (in_c rfl) ?_
  refine aw_istore (lst' := [_, _, _, _, _, _, _, _, _, _]) d_Mo_joinOf_6 (Nat.le_of_ble_eq_true rfl) rfl ?_
  exact key 40 40 p 0 true none none none none rfl ⟨rfl, Nat.le_refl _, by omega, fun _ => ⟨hp, rfl, h40, rfl⟩, (fun z => by cases z)⟩
set_option maxRecDepth 100000 in
theorem m_Mo_isNeeded {d : Nat} (hd : 2 ≤ d) (hR : ∀ k j, mR μ k j = R0 pg k j) {i : Nat} (h4 : i < 4) {n : Nat} (hn40 : n ≤ 40) (hG : ∀ q, q < n → mI μ 75 (40 * i + q) = 40 → isM (fun q => mI μ 75 (40 * i + q)) q ((mtF (fun q => mI μ 75 (40 * i + q)) n) q) ∧ (mtF (fun q => mI μ 75 (40 * i + q)) n) q < n) (hlen : mI μ 76 i = (n : Int)) {p : Nat} (hp : p < n) (hop : mI μ 75 (40 * i + p) = 40) : AM G false d 0 0 y_Mo_isNeeded [aP 67, aI (i : Int), aI (p : Int)] 94 μ (Qe (some (aI (bI (nd (fun q => mI μ 75 (40 * i + q)) n (mtF (fun q => mI μ 75 (40 * i + q)) n) p)))) 94 μ) := by
  refine am_of (n := 4) pf_Mo_isNeeded (Nat.le_of_ble_eq_true rfl) (by intro v hv; simp only [List.mem_cons, List.not_mem_nil, or_false] at hv; rcases hv with rfl | rfl | rfl <;> first | trivial | assumption | exact in_c rfl | exact bI_in _ | (show inR _; unfold inR; omega)) rfl ?_
  obtain ⟨g1, g2⟩ := hG p hp hop
  have g3 := g1.1
  refine aw_iload_n d_Mo_isNeeded_0 rfl rfl ?_
  refine aw_if_le (tgt := 20) d_Mo_isNeeded_1 rfl (fun h1 => ?_) (fun h1 => ?_)
  · refine aw_iconst d_Mo_isNeeded_20 (in_c rfl) ?_
    refine aw_tv (v' := (bef (fun q => mI μ 75 (40 * i + q)) p)) (by unfold bef; rw [if_neg (by omega)]) ?_
    refine aw_istore_n (lst' := [_, _, _, _, _, _, _]) d_Mo_isNeeded_21 rfl (Nat.le_of_ble_eq_true rfl) rfl ?_
    refine aw_aload_n d_Mo_isNeeded_22 rfl rfl ?_
    refine aw_iload_n d_Mo_isNeeded_23 rfl rfl ?_
    refine aw_iload_n d_Mo_isNeeded_24 rfl rfl ?_
    refine aw_ve (as := [_, _]) rfl cv_Mo_162 (by omega) rfl rfl d_Mo_isNeeded_25 (Nat.le_of_ble_eq_true rfl) (d' := d - 1) (by omega) (m_Mo_closing (by omega) hR h4 g1.1 g1 (by omega)) ?_
    refine aw_iconst d_Mo_isNeeded_28 (in_c rfl) ?_
    refine aw_iadd d_Mo_isNeeded_29 (by unfold inR; omega) ?_
    refine aw_tv (v' := (((mtF (fun q => mI μ 75 (40 * i + q)) n) p + 1 : Nat) : Int)) (by omega) ?_
    refine aw_istore (lst' := [_, _, _, _, _, _, _]) d_Mo_isNeeded_30 (Nat.le_of_ble_eq_true rfl) rfl ?_
    refine aw_iload d_Mo_isNeeded_32 rfl ?_
    refine aw_aload_n d_Mo_isNeeded_34 rfl rfl ?_
    refine aw_pc (pc' := 35) rfl ?_
    refine aw_getR fd_Mo_length lk_Mo_34 (by omega) rfl d_Mo_isNeeded_35 (hR _ _) ?_
    refine aw_iload_n d_Mo_isNeeded_38 rfl rfl ?_
    refine aw_iald (n := i) (by omega) rfl rfl (by omega) d_Mo_isNeeded_39 ?_
    refine aw_tv (v' := (n : Int)) hlen ?_
    refine aw_icmp_ge (tgt := 58) d_Mo_isNeeded_40 rfl (fun h40 => ?_) (fun h40 => ?_)
    · refine aw_iconst d_Mo_isNeeded_58 (in_c rfl) ?_
      refine aw_tv (v' := (beh (fun q => mI μ 75 (40 * i + q)) n ((mtF (fun q => mI μ 75 (40 * i + q)) n) p + 1))) (by unfold beh; rw [if_neg (by omega)]) ?_
      refine aw_istore (lst' := [_, _, _, _, _, _, _]) d_Mo_isNeeded_59 (Nat.le_of_ble_eq_true rfl) rfl ?_
      refine aw_aload_n d_Mo_isNeeded_61 rfl rfl ?_
      refine aw_iload_n d_Mo_isNeeded_62 rfl rfl ?_
      refine aw_iload_n d_Mo_isNeeded_63 rfl rfl ?_
      refine aw_ve (as := [_, _]) rfl cv_Mo_165 (by omega) rfl rfl d_Mo_isNeeded_64 (Nat.le_of_ble_eq_true rfl) (d' := d - 1) (by omega) (m_Mo_joinOf (by omega) hR h4 hn40 hG hp hop) ?_
      refine aw_istore (lst' := [_, _, _, _, _, _, _]) d_Mo_isNeeded_67 (Nat.le_of_ble_eq_true rfl) rfl ?_
      refine aw_iload_n d_Mo_isNeeded_69 rfl rfl ?_
      refine aw_bipush (z := 33) d_Mo_isNeeded_70 (in_c rfl) rfl ?_
      refine aw_icmp_ne (tgt := 86) d_Mo_isNeeded_72 rfl (fun h72 => ?_) (fun h72 => ?_)
      · refine aw_iload_n d_Mo_isNeeded_86 rfl rfl ?_
        refine aw_bipush (z := 38) d_Mo_isNeeded_87 (in_c rfl) rfl ?_
        refine aw_icmp_eq (tgt := 99) d_Mo_isNeeded_89 rfl (fun h89 => ?_) (fun h89 => ?_)
        · refine aw_iload d_Mo_isNeeded_99 rfl ?_
          refine aw_iconst d_Mo_isNeeded_101 (in_c rfl) ?_
          refine aw_icmp_le (tgt := 109) d_Mo_isNeeded_102 rfl (fun h102 => ?_) (fun h102 => ?_)
          · refine aw_iconst d_Mo_isNeeded_109 (in_c rfl) ?_
            exact aw_zret d_Mo_isNeeded_110 rfl rfl ⟨by rw [show (nd (fun q => mI μ 75 (40 * i + q)) n (mtF (fun q => mI μ 75 (40 * i + q)) n) p) = false from by unfold nd; rw [if_neg h72, if_pos (by omega)]; exact decide_eq_false (by omega)]; rfl, rfl, rfl⟩
          · refine aw_iconst d_Mo_isNeeded_105 (in_c rfl) ?_
            refine aw_goto (tgt := 110) d_Mo_isNeeded_106 rfl ?_
            exact aw_zret d_Mo_isNeeded_110 rfl rfl ⟨by rw [show (nd (fun q => mI μ 75 (40 * i + q)) n (mtF (fun q => mI μ 75 (40 * i + q)) n) p) = true from by unfold nd; rw [if_neg h72, if_pos (by omega)]; exact decide_eq_true (by omega)]; rfl, rfl, rfl⟩
        · refine aw_iload d_Mo_isNeeded_92 rfl ?_
          refine aw_bipush (z := 38) d_Mo_isNeeded_94 (in_c rfl) rfl ?_
          refine aw_icmp_ne (tgt := 111) d_Mo_isNeeded_96 rfl (fun h96 => ?_) (fun h96 => ?_)
          · refine aw_iload_n d_Mo_isNeeded_111 rfl rfl ?_
            refine aw_bipush (z := 94) d_Mo_isNeeded_112 (in_c rfl) rfl ?_
            refine aw_icmp_eq (tgt := 124) d_Mo_isNeeded_114 rfl (fun h114 => ?_) (fun h114 => ?_)
            · refine aw_iload d_Mo_isNeeded_124 rfl ?_
              refine aw_iconst d_Mo_isNeeded_126 (in_c rfl) ?_
              refine aw_icmp_le (tgt := 134) d_Mo_isNeeded_127 rfl (fun h127 => ?_) (fun h127 => ?_)
              · refine aw_iconst d_Mo_isNeeded_134 (in_c rfl) ?_
                exact aw_zret d_Mo_isNeeded_135 rfl rfl ⟨by rw [show (nd (fun q => mI μ 75 (40 * i + q)) n (mtF (fun q => mI μ 75 (40 * i + q)) n) p) = false from by unfold nd; rw [if_neg h72, if_neg (by omega)]; exact decide_eq_false (by omega)]; rfl, rfl, rfl⟩
              · refine aw_iconst d_Mo_isNeeded_130 (in_c rfl) ?_
                refine aw_goto (tgt := 135) d_Mo_isNeeded_131 rfl ?_
                exact aw_zret d_Mo_isNeeded_135 rfl rfl ⟨by rw [show (nd (fun q => mI μ 75 (40 * i + q)) n (mtF (fun q => mI μ 75 (40 * i + q)) n) p) = true from by unfold nd; rw [if_neg h72, if_neg (by omega)]; exact decide_eq_true (by omega)]; rfl, rfl, rfl⟩
            · refine aw_iload d_Mo_isNeeded_117 rfl ?_
              refine aw_bipush (z := 94) d_Mo_isNeeded_119 (in_c rfl) rfl ?_
              refine aw_icmp_ne (tgt := 134) d_Mo_isNeeded_121 rfl (fun h121 => ?_) (fun h121 => ?_)
              · refine aw_iconst d_Mo_isNeeded_134 (in_c rfl) ?_
                exact aw_zret d_Mo_isNeeded_135 rfl rfl ⟨by rw [show (nd (fun q => mI μ 75 (40 * i + q)) n (mtF (fun q => mI μ 75 (40 * i + q)) n) p) = false from by unfold nd; rw [if_neg h72, if_neg (by omega)]; exact decide_eq_false (by omega)]; rfl, rfl, rfl⟩
              · refine aw_iload d_Mo_isNeeded_124 rfl ?_
                refine aw_iconst d_Mo_isNeeded_126 (in_c rfl) ?_
                refine aw_icmp_le (tgt := 134) d_Mo_isNeeded_127 rfl (fun h127 => ?_) (fun h127 => ?_)
                · refine aw_iconst d_Mo_isNeeded_134 (in_c rfl) ?_
                  exact aw_zret d_Mo_isNeeded_135 rfl rfl ⟨by rw [show (nd (fun q => mI μ 75 (40 * i + q)) n (mtF (fun q => mI μ 75 (40 * i + q)) n) p) = false from by unfold nd; rw [if_neg h72, if_neg (by omega)]; exact decide_eq_false (by omega)]; rfl, rfl, rfl⟩
                · refine aw_iconst d_Mo_isNeeded_130 (in_c rfl) ?_
                  refine aw_goto (tgt := 135) d_Mo_isNeeded_131 rfl ?_
                  exact aw_zret d_Mo_isNeeded_135 rfl rfl ⟨by rw [show (nd (fun q => mI μ 75 (40 * i + q)) n (mtF (fun q => mI μ 75 (40 * i + q)) n) p) = true from by unfold nd; rw [if_neg h72, if_neg (by omega)]; exact decide_eq_true (by omega)]; rfl, rfl, rfl⟩
          · refine aw_iload d_Mo_isNeeded_99 rfl ?_
            refine aw_iconst d_Mo_isNeeded_101 (in_c rfl) ?_
            refine aw_icmp_le (tgt := 109) d_Mo_isNeeded_102 rfl (fun h102 => ?_) (fun h102 => ?_)
            · refine aw_iconst d_Mo_isNeeded_109 (in_c rfl) ?_
              exact aw_zret d_Mo_isNeeded_110 rfl rfl ⟨by rw [show (nd (fun q => mI μ 75 (40 * i + q)) n (mtF (fun q => mI μ 75 (40 * i + q)) n) p) = false from by unfold nd; rw [if_neg h72, if_pos (by omega)]; exact decide_eq_false (by omega)]; rfl, rfl, rfl⟩
            · refine aw_iconst d_Mo_isNeeded_105 (in_c rfl) ?_
              refine aw_goto (tgt := 110) d_Mo_isNeeded_106 rfl ?_
              exact aw_zret d_Mo_isNeeded_110 rfl rfl ⟨by rw [show (nd (fun q => mI μ 75 (40 * i + q)) n (mtF (fun q => mI μ 75 (40 * i + q)) n) p) = true from by unfold nd; rw [if_neg h72, if_pos (by omega)]; exact decide_eq_true (by omega)]; rfl, rfl, rfl⟩
      · refine aw_iload d_Mo_isNeeded_75 rfl ?_
        refine aw_if_le (tgt := 84) d_Mo_isNeeded_77 rfl (fun h77 => ?_) (fun h77 => ?_)
        · refine aw_iconst d_Mo_isNeeded_84 (in_c rfl) ?_
          exact aw_zret d_Mo_isNeeded_85 rfl rfl ⟨by rw [show (nd (fun q => mI μ 75 (40 * i + q)) n (mtF (fun q => mI μ 75 (40 * i + q)) n) p) = false from by unfold nd; rw [if_pos h72]; exact decide_eq_false (by omega)]; rfl, rfl, rfl⟩
        · refine aw_iconst d_Mo_isNeeded_80 (in_c rfl) ?_
          refine aw_goto (tgt := 85) d_Mo_isNeeded_81 rfl ?_
          exact aw_zret d_Mo_isNeeded_85 rfl rfl ⟨by rw [show (nd (fun q => mI μ 75 (40 * i + q)) n (mtF (fun q => mI μ 75 (40 * i + q)) n) p) = true from by unfold nd; rw [if_pos h72]; exact decide_eq_true (by omega)]; rfl, rfl, rfl⟩
    · refine aw_aload_n d_Mo_isNeeded_43 rfl rfl ?_
      refine aw_getR fd_Mo_signs lk_Mo_31 (by omega) rfl d_Mo_isNeeded_44 (hR _ _) ?_
      refine aw_bipush (z := 40) d_Mo_isNeeded_47 (in_c rfl) rfl ?_
      refine aw_iload_n d_Mo_isNeeded_49 rfl rfl ?_
      refine aw_imul d_Mo_isNeeded_50 (by unfold inR; omega) ?_
      refine aw_iload d_Mo_isNeeded_51 rfl ?_
      refine aw_iadd d_Mo_isNeeded_53 (by unfold inR; omega) ?_
      refine aw_iald (n := 40 * i + ((mtF (fun q => mI μ 75 (40 * i + q)) n) p + 1)) (by omega) rfl (by omega) (by omega) d_Mo_isNeeded_54 ?_
      refine aw_tv (v' := (beh (fun q => mI μ 75 (40 * i + q)) n ((mtF (fun q => mI μ 75 (40 * i + q)) n) p + 1))) (by unfold beh; rw [if_pos (by omega)]) ?_
      refine aw_goto (tgt := 59) d_Mo_isNeeded_55 rfl ?_
      refine aw_istore (lst' := [_, _, _, _, _, _, _]) d_Mo_isNeeded_59 (Nat.le_of_ble_eq_true rfl) rfl ?_
      refine aw_aload_n d_Mo_isNeeded_61 rfl rfl ?_
      refine aw_pc (pc' := 62) rfl ?_
      refine aw_iload_n d_Mo_isNeeded_62 rfl rfl ?_
      refine aw_iload_n d_Mo_isNeeded_63 rfl rfl ?_
      refine aw_ve (as := [_, _]) rfl cv_Mo_165 (by omega) rfl rfl d_Mo_isNeeded_64 (Nat.le_of_ble_eq_true rfl) (d' := d - 1) (by omega) (m_Mo_joinOf (by omega) hR h4 hn40 hG hp hop) ?_
      refine aw_istore (lst' := [_, _, _, _, _, _, _]) d_Mo_isNeeded_67 (Nat.le_of_ble_eq_true rfl) rfl ?_
      refine aw_iload_n d_Mo_isNeeded_69 rfl rfl ?_
      refine aw_bipush (z := 33) d_Mo_isNeeded_70 (in_c rfl) rfl ?_
      refine aw_icmp_ne (tgt := 86) d_Mo_isNeeded_72 rfl (fun h72 => ?_) (fun h72 => ?_)
      · refine aw_iload_n d_Mo_isNeeded_86 rfl rfl ?_
        refine aw_bipush (z := 38) d_Mo_isNeeded_87 (in_c rfl) rfl ?_
        refine aw_icmp_eq (tgt := 99) d_Mo_isNeeded_89 rfl (fun h89 => ?_) (fun h89 => ?_)
        · refine aw_iload d_Mo_isNeeded_99 rfl ?_
          refine aw_iconst d_Mo_isNeeded_101 (in_c rfl) ?_
          refine aw_icmp_le (tgt := 109) d_Mo_isNeeded_102 rfl (fun h102 => ?_) (fun h102 => ?_)
          · refine aw_iconst d_Mo_isNeeded_109 (in_c rfl) ?_
            exact aw_zret d_Mo_isNeeded_110 rfl rfl ⟨by rw [show (nd (fun q => mI μ 75 (40 * i + q)) n (mtF (fun q => mI μ 75 (40 * i + q)) n) p) = false from by unfold nd; rw [if_neg h72, if_pos (by omega)]; exact decide_eq_false (by omega)]; rfl, rfl, rfl⟩
          · refine aw_iconst d_Mo_isNeeded_105 (in_c rfl) ?_
            refine aw_goto (tgt := 110) d_Mo_isNeeded_106 rfl ?_
            exact aw_zret d_Mo_isNeeded_110 rfl rfl ⟨by rw [show (nd (fun q => mI μ 75 (40 * i + q)) n (mtF (fun q => mI μ 75 (40 * i + q)) n) p) = true from by unfold nd; rw [if_neg h72, if_pos (by omega)]; exact decide_eq_true (by omega)]; rfl, rfl, rfl⟩
        · refine aw_iload d_Mo_isNeeded_92 rfl ?_
          refine aw_bipush (z := 38) d_Mo_isNeeded_94 (in_c rfl) rfl ?_
          refine aw_icmp_ne (tgt := 111) d_Mo_isNeeded_96 rfl (fun h96 => ?_) (fun h96 => ?_)
          · refine aw_iload_n d_Mo_isNeeded_111 rfl rfl ?_
            refine aw_bipush (z := 94) d_Mo_isNeeded_112 (in_c rfl) rfl ?_
            refine aw_icmp_eq (tgt := 124) d_Mo_isNeeded_114 rfl (fun h114 => ?_) (fun h114 => ?_)
            · refine aw_iload d_Mo_isNeeded_124 rfl ?_
              refine aw_iconst d_Mo_isNeeded_126 (in_c rfl) ?_
              refine aw_icmp_le (tgt := 134) d_Mo_isNeeded_127 rfl (fun h127 => ?_) (fun h127 => ?_)
              · refine aw_iconst d_Mo_isNeeded_134 (in_c rfl) ?_
                exact aw_zret d_Mo_isNeeded_135 rfl rfl ⟨by rw [show (nd (fun q => mI μ 75 (40 * i + q)) n (mtF (fun q => mI μ 75 (40 * i + q)) n) p) = false from by unfold nd; rw [if_neg h72, if_neg (by omega)]; exact decide_eq_false (by omega)]; rfl, rfl, rfl⟩
              · refine aw_iconst d_Mo_isNeeded_130 (in_c rfl) ?_
                refine aw_goto (tgt := 135) d_Mo_isNeeded_131 rfl ?_
                exact aw_zret d_Mo_isNeeded_135 rfl rfl ⟨by rw [show (nd (fun q => mI μ 75 (40 * i + q)) n (mtF (fun q => mI μ 75 (40 * i + q)) n) p) = true from by unfold nd; rw [if_neg h72, if_neg (by omega)]; exact decide_eq_true (by omega)]; rfl, rfl, rfl⟩
            · refine aw_iload d_Mo_isNeeded_117 rfl ?_
              refine aw_bipush (z := 94) d_Mo_isNeeded_119 (in_c rfl) rfl ?_
              refine aw_icmp_ne (tgt := 134) d_Mo_isNeeded_121 rfl (fun h121 => ?_) (fun h121 => ?_)
              · refine aw_iconst d_Mo_isNeeded_134 (in_c rfl) ?_
                exact aw_zret d_Mo_isNeeded_135 rfl rfl ⟨by rw [show (nd (fun q => mI μ 75 (40 * i + q)) n (mtF (fun q => mI μ 75 (40 * i + q)) n) p) = false from by unfold nd; rw [if_neg h72, if_neg (by omega)]; exact decide_eq_false (by omega)]; rfl, rfl, rfl⟩
              · refine aw_iload d_Mo_isNeeded_124 rfl ?_
                refine aw_iconst d_Mo_isNeeded_126 (in_c rfl) ?_
                refine aw_icmp_le (tgt := 134) d_Mo_isNeeded_127 rfl (fun h127 => ?_) (fun h127 => ?_)
                · refine aw_iconst d_Mo_isNeeded_134 (in_c rfl) ?_
                  exact aw_zret d_Mo_isNeeded_135 rfl rfl ⟨by rw [show (nd (fun q => mI μ 75 (40 * i + q)) n (mtF (fun q => mI μ 75 (40 * i + q)) n) p) = false from by unfold nd; rw [if_neg h72, if_neg (by omega)]; exact decide_eq_false (by omega)]; rfl, rfl, rfl⟩
                · refine aw_iconst d_Mo_isNeeded_130 (in_c rfl) ?_
                  refine aw_goto (tgt := 135) d_Mo_isNeeded_131 rfl ?_
                  exact aw_zret d_Mo_isNeeded_135 rfl rfl ⟨by rw [show (nd (fun q => mI μ 75 (40 * i + q)) n (mtF (fun q => mI μ 75 (40 * i + q)) n) p) = true from by unfold nd; rw [if_neg h72, if_neg (by omega)]; exact decide_eq_true (by omega)]; rfl, rfl, rfl⟩
          · refine aw_iload d_Mo_isNeeded_99 rfl ?_
            refine aw_iconst d_Mo_isNeeded_101 (in_c rfl) ?_
            refine aw_icmp_le (tgt := 109) d_Mo_isNeeded_102 rfl (fun h102 => ?_) (fun h102 => ?_)
            · refine aw_iconst d_Mo_isNeeded_109 (in_c rfl) ?_
              exact aw_zret d_Mo_isNeeded_110 rfl rfl ⟨by rw [show (nd (fun q => mI μ 75 (40 * i + q)) n (mtF (fun q => mI μ 75 (40 * i + q)) n) p) = false from by unfold nd; rw [if_neg h72, if_pos (by omega)]; exact decide_eq_false (by omega)]; rfl, rfl, rfl⟩
            · refine aw_iconst d_Mo_isNeeded_105 (in_c rfl) ?_
              refine aw_goto (tgt := 110) d_Mo_isNeeded_106 rfl ?_
              exact aw_zret d_Mo_isNeeded_110 rfl rfl ⟨by rw [show (nd (fun q => mI μ 75 (40 * i + q)) n (mtF (fun q => mI μ 75 (40 * i + q)) n) p) = true from by unfold nd; rw [if_neg h72, if_pos (by omega)]; exact decide_eq_true (by omega)]; rfl, rfl, rfl⟩
      · refine aw_iload d_Mo_isNeeded_75 rfl ?_
        refine aw_if_le (tgt := 84) d_Mo_isNeeded_77 rfl (fun h77 => ?_) (fun h77 => ?_)
        · refine aw_iconst d_Mo_isNeeded_84 (in_c rfl) ?_
          exact aw_zret d_Mo_isNeeded_85 rfl rfl ⟨by rw [show (nd (fun q => mI μ 75 (40 * i + q)) n (mtF (fun q => mI μ 75 (40 * i + q)) n) p) = false from by unfold nd; rw [if_pos h72]; exact decide_eq_false (by omega)]; rfl, rfl, rfl⟩
        · refine aw_iconst d_Mo_isNeeded_80 (in_c rfl) ?_
          refine aw_goto (tgt := 85) d_Mo_isNeeded_81 rfl ?_
          exact aw_zret d_Mo_isNeeded_85 rfl rfl ⟨by rw [show (nd (fun q => mI μ 75 (40 * i + q)) n (mtF (fun q => mI μ 75 (40 * i + q)) n) p) = true from by unfold nd; rw [if_pos h72]; exact decide_eq_true (by omega)]; rfl, rfl, rfl⟩
  · refine aw_aload_n d_Mo_isNeeded_4 rfl rfl ?_
    refine aw_getR fd_Mo_signs lk_Mo_31 (by omega) rfl d_Mo_isNeeded_5 (hR _ _) ?_
    refine aw_bipush (z := 40) d_Mo_isNeeded_8 (in_c rfl) rfl ?_
    refine aw_iload_n d_Mo_isNeeded_10 rfl rfl ?_
    refine aw_imul d_Mo_isNeeded_11 (by unfold inR; omega) ?_
    refine aw_iload_n d_Mo_isNeeded_12 rfl rfl ?_
    refine aw_iadd d_Mo_isNeeded_13 (by unfold inR; omega) ?_
    refine aw_iconst d_Mo_isNeeded_14 (in_c rfl) ?_
    refine aw_isub d_Mo_isNeeded_15 (by unfold inR; omega) ?_
    refine aw_iald (n := 40 * i + (p - 1)) (by omega) rfl (by omega) (by omega) d_Mo_isNeeded_16 ?_
    refine aw_tv (v' := (bef (fun q => mI μ 75 (40 * i + q)) p)) (by unfold bef; rw [if_pos (by omega)]) ?_
    refine aw_goto (tgt := 21) d_Mo_isNeeded_17 rfl ?_
    refine aw_pc (pc' := 21) rfl ?_
    refine aw_istore_n (lst' := [_, _, _, _, _, _, _]) d_Mo_isNeeded_21 rfl (Nat.le_of_ble_eq_true rfl) rfl ?_
    refine aw_aload_n d_Mo_isNeeded_22 rfl rfl ?_
    refine aw_iload_n d_Mo_isNeeded_23 rfl rfl ?_
    refine aw_iload_n d_Mo_isNeeded_24 rfl rfl ?_
    refine aw_ve (as := [_, _]) rfl cv_Mo_162 (by omega) rfl rfl d_Mo_isNeeded_25 (Nat.le_of_ble_eq_true rfl) (d' := d - 1) (by omega) (m_Mo_closing (by omega) hR h4 g1.1 g1 (by omega)) ?_
    refine aw_iconst d_Mo_isNeeded_28 (in_c rfl) ?_
    refine aw_iadd d_Mo_isNeeded_29 (by unfold inR; omega) ?_
    refine aw_tv (v' := (((mtF (fun q => mI μ 75 (40 * i + q)) n) p + 1 : Nat) : Int)) (by omega) ?_
    refine aw_istore (lst' := [_, _, _, _, _, _, _]) d_Mo_isNeeded_30 (Nat.le_of_ble_eq_true rfl) rfl ?_
    refine aw_iload d_Mo_isNeeded_32 rfl ?_
    refine aw_aload_n d_Mo_isNeeded_34 rfl rfl ?_
    refine aw_getR fd_Mo_length lk_Mo_34 (by omega) rfl d_Mo_isNeeded_35 (hR _ _) ?_
    refine aw_iload_n d_Mo_isNeeded_38 rfl rfl ?_
    refine aw_pc (pc' := 39) rfl ?_
    refine aw_iald (n := i) (by omega) rfl rfl (by omega) d_Mo_isNeeded_39 ?_
    refine aw_tv (v' := (n : Int)) hlen ?_
    refine aw_icmp_ge (tgt := 58) d_Mo_isNeeded_40 rfl (fun h40 => ?_) (fun h40 => ?_)
    · refine aw_iconst d_Mo_isNeeded_58 (in_c rfl) ?_
      refine aw_tv (v' := (beh (fun q => mI μ 75 (40 * i + q)) n ((mtF (fun q => mI μ 75 (40 * i + q)) n) p + 1))) (by unfold beh; rw [if_neg (by omega)]) ?_
      refine aw_istore (lst' := [_, _, _, _, _, _, _]) d_Mo_isNeeded_59 (Nat.le_of_ble_eq_true rfl) rfl ?_
      refine aw_aload_n d_Mo_isNeeded_61 rfl rfl ?_
      refine aw_iload_n d_Mo_isNeeded_62 rfl rfl ?_
      refine aw_iload_n d_Mo_isNeeded_63 rfl rfl ?_
      refine aw_ve (as := [_, _]) rfl cv_Mo_165 (by omega) rfl rfl d_Mo_isNeeded_64 (Nat.le_of_ble_eq_true rfl) (d' := d - 1) (by omega) (m_Mo_joinOf (by omega) hR h4 hn40 hG hp hop) ?_
      refine aw_istore (lst' := [_, _, _, _, _, _, _]) d_Mo_isNeeded_67 (Nat.le_of_ble_eq_true rfl) rfl ?_
      refine aw_iload_n d_Mo_isNeeded_69 rfl rfl ?_
      refine aw_bipush (z := 33) d_Mo_isNeeded_70 (in_c rfl) rfl ?_
      refine aw_icmp_ne (tgt := 86) d_Mo_isNeeded_72 rfl (fun h72 => ?_) (fun h72 => ?_)
      · refine aw_iload_n d_Mo_isNeeded_86 rfl rfl ?_
        refine aw_bipush (z := 38) d_Mo_isNeeded_87 (in_c rfl) rfl ?_
        refine aw_icmp_eq (tgt := 99) d_Mo_isNeeded_89 rfl (fun h89 => ?_) (fun h89 => ?_)
        · refine aw_iload d_Mo_isNeeded_99 rfl ?_
          refine aw_iconst d_Mo_isNeeded_101 (in_c rfl) ?_
          refine aw_icmp_le (tgt := 109) d_Mo_isNeeded_102 rfl (fun h102 => ?_) (fun h102 => ?_)
          · refine aw_iconst d_Mo_isNeeded_109 (in_c rfl) ?_
            exact aw_zret d_Mo_isNeeded_110 rfl rfl ⟨by rw [show (nd (fun q => mI μ 75 (40 * i + q)) n (mtF (fun q => mI μ 75 (40 * i + q)) n) p) = false from by unfold nd; rw [if_neg h72, if_pos (by omega)]; exact decide_eq_false (by omega)]; rfl, rfl, rfl⟩
          · refine aw_iconst d_Mo_isNeeded_105 (in_c rfl) ?_
            refine aw_goto (tgt := 110) d_Mo_isNeeded_106 rfl ?_
            exact aw_zret d_Mo_isNeeded_110 rfl rfl ⟨by rw [show (nd (fun q => mI μ 75 (40 * i + q)) n (mtF (fun q => mI μ 75 (40 * i + q)) n) p) = true from by unfold nd; rw [if_neg h72, if_pos (by omega)]; exact decide_eq_true (by omega)]; rfl, rfl, rfl⟩
        · refine aw_iload d_Mo_isNeeded_92 rfl ?_
          refine aw_bipush (z := 38) d_Mo_isNeeded_94 (in_c rfl) rfl ?_
          refine aw_icmp_ne (tgt := 111) d_Mo_isNeeded_96 rfl (fun h96 => ?_) (fun h96 => ?_)
          · refine aw_iload_n d_Mo_isNeeded_111 rfl rfl ?_
            refine aw_bipush (z := 94) d_Mo_isNeeded_112 (in_c rfl) rfl ?_
            refine aw_icmp_eq (tgt := 124) d_Mo_isNeeded_114 rfl (fun h114 => ?_) (fun h114 => ?_)
            · refine aw_iload d_Mo_isNeeded_124 rfl ?_
              refine aw_iconst d_Mo_isNeeded_126 (in_c rfl) ?_
              refine aw_icmp_le (tgt := 134) d_Mo_isNeeded_127 rfl (fun h127 => ?_) (fun h127 => ?_)
              · refine aw_iconst d_Mo_isNeeded_134 (in_c rfl) ?_
                exact aw_zret d_Mo_isNeeded_135 rfl rfl ⟨by rw [show (nd (fun q => mI μ 75 (40 * i + q)) n (mtF (fun q => mI μ 75 (40 * i + q)) n) p) = false from by unfold nd; rw [if_neg h72, if_neg (by omega)]; exact decide_eq_false (by omega)]; rfl, rfl, rfl⟩
              · refine aw_iconst d_Mo_isNeeded_130 (in_c rfl) ?_
                refine aw_goto (tgt := 135) d_Mo_isNeeded_131 rfl ?_
                exact aw_zret d_Mo_isNeeded_135 rfl rfl ⟨by rw [show (nd (fun q => mI μ 75 (40 * i + q)) n (mtF (fun q => mI μ 75 (40 * i + q)) n) p) = true from by unfold nd; rw [if_neg h72, if_neg (by omega)]; exact decide_eq_true (by omega)]; rfl, rfl, rfl⟩
            · refine aw_iload d_Mo_isNeeded_117 rfl ?_
              refine aw_bipush (z := 94) d_Mo_isNeeded_119 (in_c rfl) rfl ?_
              refine aw_icmp_ne (tgt := 134) d_Mo_isNeeded_121 rfl (fun h121 => ?_) (fun h121 => ?_)
              · refine aw_iconst d_Mo_isNeeded_134 (in_c rfl) ?_
                exact aw_zret d_Mo_isNeeded_135 rfl rfl ⟨by rw [show (nd (fun q => mI μ 75 (40 * i + q)) n (mtF (fun q => mI μ 75 (40 * i + q)) n) p) = false from by unfold nd; rw [if_neg h72, if_neg (by omega)]; exact decide_eq_false (by omega)]; rfl, rfl, rfl⟩
              · refine aw_iload d_Mo_isNeeded_124 rfl ?_
                refine aw_iconst d_Mo_isNeeded_126 (in_c rfl) ?_
                refine aw_icmp_le (tgt := 134) d_Mo_isNeeded_127 rfl (fun h127 => ?_) (fun h127 => ?_)
                · refine aw_iconst d_Mo_isNeeded_134 (in_c rfl) ?_
                  exact aw_zret d_Mo_isNeeded_135 rfl rfl ⟨by rw [show (nd (fun q => mI μ 75 (40 * i + q)) n (mtF (fun q => mI μ 75 (40 * i + q)) n) p) = false from by unfold nd; rw [if_neg h72, if_neg (by omega)]; exact decide_eq_false (by omega)]; rfl, rfl, rfl⟩
                · refine aw_iconst d_Mo_isNeeded_130 (in_c rfl) ?_
                  refine aw_goto (tgt := 135) d_Mo_isNeeded_131 rfl ?_
                  exact aw_zret d_Mo_isNeeded_135 rfl rfl ⟨by rw [show (nd (fun q => mI μ 75 (40 * i + q)) n (mtF (fun q => mI μ 75 (40 * i + q)) n) p) = true from by unfold nd; rw [if_neg h72, if_neg (by omega)]; exact decide_eq_true (by omega)]; rfl, rfl, rfl⟩
          · refine aw_iload d_Mo_isNeeded_99 rfl ?_
            refine aw_iconst d_Mo_isNeeded_101 (in_c rfl) ?_
            refine aw_icmp_le (tgt := 109) d_Mo_isNeeded_102 rfl (fun h102 => ?_) (fun h102 => ?_)
            · refine aw_iconst d_Mo_isNeeded_109 (in_c rfl) ?_
              exact aw_zret d_Mo_isNeeded_110 rfl rfl ⟨by rw [show (nd (fun q => mI μ 75 (40 * i + q)) n (mtF (fun q => mI μ 75 (40 * i + q)) n) p) = false from by unfold nd; rw [if_neg h72, if_pos (by omega)]; exact decide_eq_false (by omega)]; rfl, rfl, rfl⟩
            · refine aw_iconst d_Mo_isNeeded_105 (in_c rfl) ?_
              refine aw_goto (tgt := 110) d_Mo_isNeeded_106 rfl ?_
              exact aw_zret d_Mo_isNeeded_110 rfl rfl ⟨by rw [show (nd (fun q => mI μ 75 (40 * i + q)) n (mtF (fun q => mI μ 75 (40 * i + q)) n) p) = true from by unfold nd; rw [if_neg h72, if_pos (by omega)]; exact decide_eq_true (by omega)]; rfl, rfl, rfl⟩
      · refine aw_iload d_Mo_isNeeded_75 rfl ?_
        refine aw_if_le (tgt := 84) d_Mo_isNeeded_77 rfl (fun h77 => ?_) (fun h77 => ?_)
        · refine aw_iconst d_Mo_isNeeded_84 (in_c rfl) ?_
          exact aw_zret d_Mo_isNeeded_85 rfl rfl ⟨by rw [show (nd (fun q => mI μ 75 (40 * i + q)) n (mtF (fun q => mI μ 75 (40 * i + q)) n) p) = false from by unfold nd; rw [if_pos h72]; exact decide_eq_false (by omega)]; rfl, rfl, rfl⟩
        · refine aw_iconst d_Mo_isNeeded_80 (in_c rfl) ?_
          refine aw_goto (tgt := 85) d_Mo_isNeeded_81 rfl ?_
          exact aw_zret d_Mo_isNeeded_85 rfl rfl ⟨by rw [show (nd (fun q => mI μ 75 (40 * i + q)) n (mtF (fun q => mI μ 75 (40 * i + q)) n) p) = true from by unfold nd; rw [if_pos h72]; exact decide_eq_true (by omega)]; rfl, rfl, rfl⟩
    · refine aw_aload_n d_Mo_isNeeded_43 rfl rfl ?_
      refine aw_getR fd_Mo_signs lk_Mo_31 (by omega) rfl d_Mo_isNeeded_44 (hR _ _) ?_
      refine aw_bipush (z := 40) d_Mo_isNeeded_47 (in_c rfl) rfl ?_
      refine aw_iload_n d_Mo_isNeeded_49 rfl rfl ?_
      refine aw_imul d_Mo_isNeeded_50 (by unfold inR; omega) ?_
      refine aw_iload d_Mo_isNeeded_51 rfl ?_
      refine aw_iadd d_Mo_isNeeded_53 (by unfold inR; omega) ?_
      refine aw_iald (n := 40 * i + ((mtF (fun q => mI μ 75 (40 * i + q)) n) p + 1)) (by omega) rfl (by omega) (by omega) d_Mo_isNeeded_54 ?_
      refine aw_tv (v' := (beh (fun q => mI μ 75 (40 * i + q)) n ((mtF (fun q => mI μ 75 (40 * i + q)) n) p + 1))) (by unfold beh; rw [if_pos (by omega)]) ?_
      refine aw_goto (tgt := 59) d_Mo_isNeeded_55 rfl ?_
      refine aw_istore (lst' := [_, _, _, _, _, _, _]) d_Mo_isNeeded_59 (Nat.le_of_ble_eq_true rfl) rfl ?_
      refine aw_aload_n d_Mo_isNeeded_61 rfl rfl ?_
      refine aw_pc (pc' := 62) rfl ?_
      refine aw_iload_n d_Mo_isNeeded_62 rfl rfl ?_
      refine aw_iload_n d_Mo_isNeeded_63 rfl rfl ?_
      refine aw_ve (as := [_, _]) rfl cv_Mo_165 (by omega) rfl rfl d_Mo_isNeeded_64 (Nat.le_of_ble_eq_true rfl) (d' := d - 1) (by omega) (m_Mo_joinOf (by omega) hR h4 hn40 hG hp hop) ?_
      refine aw_istore (lst' := [_, _, _, _, _, _, _]) d_Mo_isNeeded_67 (Nat.le_of_ble_eq_true rfl) rfl ?_
      refine aw_iload_n d_Mo_isNeeded_69 rfl rfl ?_
      refine aw_bipush (z := 33) d_Mo_isNeeded_70 (in_c rfl) rfl ?_
      refine aw_icmp_ne (tgt := 86) d_Mo_isNeeded_72 rfl (fun h72 => ?_) (fun h72 => ?_)
      · refine aw_iload_n d_Mo_isNeeded_86 rfl rfl ?_
        refine aw_bipush (z := 38) d_Mo_isNeeded_87 (in_c rfl) rfl ?_
        refine aw_icmp_eq (tgt := 99) d_Mo_isNeeded_89 rfl (fun h89 => ?_) (fun h89 => ?_)
        · refine aw_iload d_Mo_isNeeded_99 rfl ?_
          refine aw_iconst d_Mo_isNeeded_101 (in_c rfl) ?_
          refine aw_icmp_le (tgt := 109) d_Mo_isNeeded_102 rfl (fun h102 => ?_) (fun h102 => ?_)
          · refine aw_iconst d_Mo_isNeeded_109 (in_c rfl) ?_
            exact aw_zret d_Mo_isNeeded_110 rfl rfl ⟨by rw [show (nd (fun q => mI μ 75 (40 * i + q)) n (mtF (fun q => mI μ 75 (40 * i + q)) n) p) = false from by unfold nd; rw [if_neg h72, if_pos (by omega)]; exact decide_eq_false (by omega)]; rfl, rfl, rfl⟩
          · refine aw_iconst d_Mo_isNeeded_105 (in_c rfl) ?_
            refine aw_goto (tgt := 110) d_Mo_isNeeded_106 rfl ?_
            exact aw_zret d_Mo_isNeeded_110 rfl rfl ⟨by rw [show (nd (fun q => mI μ 75 (40 * i + q)) n (mtF (fun q => mI μ 75 (40 * i + q)) n) p) = true from by unfold nd; rw [if_neg h72, if_pos (by omega)]; exact decide_eq_true (by omega)]; rfl, rfl, rfl⟩
        · refine aw_iload d_Mo_isNeeded_92 rfl ?_
          refine aw_bipush (z := 38) d_Mo_isNeeded_94 (in_c rfl) rfl ?_
          refine aw_icmp_ne (tgt := 111) d_Mo_isNeeded_96 rfl (fun h96 => ?_) (fun h96 => ?_)
          · refine aw_iload_n d_Mo_isNeeded_111 rfl rfl ?_
            refine aw_bipush (z := 94) d_Mo_isNeeded_112 (in_c rfl) rfl ?_
            refine aw_icmp_eq (tgt := 124) d_Mo_isNeeded_114 rfl (fun h114 => ?_) (fun h114 => ?_)
            · refine aw_iload d_Mo_isNeeded_124 rfl ?_
              refine aw_iconst d_Mo_isNeeded_126 (in_c rfl) ?_
              refine aw_icmp_le (tgt := 134) d_Mo_isNeeded_127 rfl (fun h127 => ?_) (fun h127 => ?_)
              · refine aw_iconst d_Mo_isNeeded_134 (in_c rfl) ?_
                exact aw_zret d_Mo_isNeeded_135 rfl rfl ⟨by rw [show (nd (fun q => mI μ 75 (40 * i + q)) n (mtF (fun q => mI μ 75 (40 * i + q)) n) p) = false from by unfold nd; rw [if_neg h72, if_neg (by omega)]; exact decide_eq_false (by omega)]; rfl, rfl, rfl⟩
              · refine aw_iconst d_Mo_isNeeded_130 (in_c rfl) ?_
                refine aw_goto (tgt := 135) d_Mo_isNeeded_131 rfl ?_
                exact aw_zret d_Mo_isNeeded_135 rfl rfl ⟨by rw [show (nd (fun q => mI μ 75 (40 * i + q)) n (mtF (fun q => mI μ 75 (40 * i + q)) n) p) = true from by unfold nd; rw [if_neg h72, if_neg (by omega)]; exact decide_eq_true (by omega)]; rfl, rfl, rfl⟩
            · refine aw_iload d_Mo_isNeeded_117 rfl ?_
              refine aw_bipush (z := 94) d_Mo_isNeeded_119 (in_c rfl) rfl ?_
              refine aw_icmp_ne (tgt := 134) d_Mo_isNeeded_121 rfl (fun h121 => ?_) (fun h121 => ?_)
              · refine aw_iconst d_Mo_isNeeded_134 (in_c rfl) ?_
                exact aw_zret d_Mo_isNeeded_135 rfl rfl ⟨by rw [show (nd (fun q => mI μ 75 (40 * i + q)) n (mtF (fun q => mI μ 75 (40 * i + q)) n) p) = false from by unfold nd; rw [if_neg h72, if_neg (by omega)]; exact decide_eq_false (by omega)]; rfl, rfl, rfl⟩
              · refine aw_iload d_Mo_isNeeded_124 rfl ?_
                refine aw_iconst d_Mo_isNeeded_126 (in_c rfl) ?_
                refine aw_icmp_le (tgt := 134) d_Mo_isNeeded_127 rfl (fun h127 => ?_) (fun h127 => ?_)
                · refine aw_iconst d_Mo_isNeeded_134 (in_c rfl) ?_
                  exact aw_zret d_Mo_isNeeded_135 rfl rfl ⟨by rw [show (nd (fun q => mI μ 75 (40 * i + q)) n (mtF (fun q => mI μ 75 (40 * i + q)) n) p) = false from by unfold nd; rw [if_neg h72, if_neg (by omega)]; exact decide_eq_false (by omega)]; rfl, rfl, rfl⟩
                · refine aw_iconst d_Mo_isNeeded_130 (in_c rfl) ?_
                  refine aw_goto (tgt := 135) d_Mo_isNeeded_131 rfl ?_
                  exact aw_zret d_Mo_isNeeded_135 rfl rfl ⟨by rw [show (nd (fun q => mI μ 75 (40 * i + q)) n (mtF (fun q => mI μ 75 (40 * i + q)) n) p) = true from by unfold nd; rw [if_neg h72, if_neg (by omega)]; exact decide_eq_true (by omega)]; rfl, rfl, rfl⟩
          · refine aw_iload d_Mo_isNeeded_99 rfl ?_
            refine aw_iconst d_Mo_isNeeded_101 (in_c rfl) ?_
            refine aw_icmp_le (tgt := 109) d_Mo_isNeeded_102 rfl (fun h102 => ?_) (fun h102 => ?_)
            · refine aw_iconst d_Mo_isNeeded_109 (in_c rfl) ?_
              exact aw_zret d_Mo_isNeeded_110 rfl rfl ⟨by rw [show (nd (fun q => mI μ 75 (40 * i + q)) n (mtF (fun q => mI μ 75 (40 * i + q)) n) p) = false from by unfold nd; rw [if_neg h72, if_pos (by omega)]; exact decide_eq_false (by omega)]; rfl, rfl, rfl⟩
            · refine aw_iconst d_Mo_isNeeded_105 (in_c rfl) ?_
              refine aw_goto (tgt := 110) d_Mo_isNeeded_106 rfl ?_
              exact aw_zret d_Mo_isNeeded_110 rfl rfl ⟨by rw [show (nd (fun q => mI μ 75 (40 * i + q)) n (mtF (fun q => mI μ 75 (40 * i + q)) n) p) = true from by unfold nd; rw [if_neg h72, if_pos (by omega)]; exact decide_eq_true (by omega)]; rfl, rfl, rfl⟩
      · refine aw_iload d_Mo_isNeeded_75 rfl ?_
        refine aw_if_le (tgt := 84) d_Mo_isNeeded_77 rfl (fun h77 => ?_) (fun h77 => ?_)
        · refine aw_iconst d_Mo_isNeeded_84 (in_c rfl) ?_
          exact aw_zret d_Mo_isNeeded_85 rfl rfl ⟨by rw [show (nd (fun q => mI μ 75 (40 * i + q)) n (mtF (fun q => mI μ 75 (40 * i + q)) n) p) = false from by unfold nd; rw [if_pos h72]; exact decide_eq_false (by omega)]; rfl, rfl, rfl⟩
        · refine aw_iconst d_Mo_isNeeded_80 (in_c rfl) ?_
          refine aw_goto (tgt := 85) d_Mo_isNeeded_81 rfl ?_
          exact aw_zret d_Mo_isNeeded_85 rfl rfl ⟨by rw [show (nd (fun q => mI μ 75 (40 * i + q)) n (mtF (fun q => mI μ 75 (40 * i + q)) n) p) = true from by unfold nd; rw [if_pos h72]; exact decide_eq_true (by omega)]; rfl, rfl, rfl⟩
set_option maxRecDepth 100000 in
theorem g_Mo_show {d : Nat} (hd : 4 ≤ d) (hR : ∀ k j, mR μ k j = R0 pg k j) {i : Nat} (hi : (i : Int) < mI μ 67 11) (hd4 : mI μ 67 11 ≤ 4) {n : Nat} (hn40 : n ≤ 40) (hG : ∀ q, q < n → mI μ 75 (40 * i + q) = 40 → isM (fun q => mI μ 75 (40 * i + q)) q ((mtF (fun q => mI μ 75 (40 * i + q)) n) q) ∧ (mtF (fun q => mI μ 75 (40 * i + q)) n) q < n) (hlen : mI μ 76 i = (n : Int)) (hchs : ∀ p, p < n → 0 ≤ mI μ 75 (40 * i + p) ∧ mI μ 75 (40 * i + p) < 65536) : AM G false d 0 0 y_Mo_show [aP 67, aI (i : Int)] 94 μ (Qe (some (aI (((osg (fun q => mI μ 75 (40 * i + q)) (kpt (fun q => mI μ 75 (40 * i + q)) n (mtF (fun q => mI μ 75 (40 * i + q)) n)) n 0).length : Nat) : Int))) 94 (pgM (fun q => mI μ 75 (40 * i + q)) (kpt (fun q => mI μ 75 (40 * i + q)) n (mtF (fun q => mI μ 75 (40 * i + q)) n)) (wI (wI μ 67 0 0) 67 33 0) n)) := by
  refine am_of (n := 5) pf_Mo_show (Nat.le_of_ble_eq_true rfl) (by intro v hv; simp only [List.mem_cons, List.not_mem_nil, or_false] at hv; rcases hv with rfl | rfl <;> first | trivial | assumption | exact in_c rfl | exact bI_in _ | (show inR _; unfold inR; omega)) rfl ?_
  have key : ∀ (m : Nat) (p : Nat) (nb : BitVec 64) (o3 o5 o6 : Option aV), n - p = m → (p ≤ n ∧ (∀ e, e < 64 → (nb.getLsbD e = true ↔ ∃ q, q < p ∧ mI μ 75 (40 * i + q) = 40 ∧ nd (fun q => mI μ 75 (40 * i + q)) n (mtF (fun q => mI μ 75 (40 * i + q)) n) q = true ∧ (mtF (fun q => mI μ 75 (40 * i + q)) n) q = e))) → AW G false y_Mo_show d 0 0 (Qe (some (aI (((osg (fun q => mI μ 75 (40 * i + q)) (kpt (fun q => mI μ 75 (40 * i + q)) n (mtF (fun q => mI μ 75 (40 * i + q)) n)) n 0).length : Nat) : Int))) 94 (pgM (fun q => mI μ 75 (40 * i + q)) (kpt (fun q => mI μ 75 (40 * i + q)) n (mtF (fun q => mI μ 75 (40 * i + q)) n)) (wI (wI μ 67 0 0) 67 33 0) n)) 33 [some (aP 67), some (aI (i : Int)), some (aL nb), o3, some (aI (p : Int)), o5, o6] [] 94 (pgM (fun q => mI μ 75 (40 * i + q)) (kpt (fun q => mI μ 75 (40 * i + q)) n (mtF (fun q => mI μ 75 (40 * i + q)) n)) (wI (wI μ 67 0 0) 67 33 0) p) := by
    intro m
    induction m using Nat.strongRecOn with | _ m ih =>
    intro p nb o3 o5 o6 hm hw
    obtain ⟨f1, f2, f3⟩ := pgM_fr (fun q => mI μ 75 (40 * i + q)) (kpt (fun q => mI μ 75 (40 * i + q)) n (mtF (fun q => mI μ 75 (40 * i + q)) n)) (wI (wI μ 67 0 0) 67 33 0) p
    have hRp : ∀ a b, mR (pgM (fun q => mI μ 75 (40 * i + q)) (kpt (fun q => mI μ 75 (40 * i + q)) n (mtF (fun q => mI μ 75 (40 * i + q)) n)) (wI (wI μ 67 0 0) 67 33 0) p) a b = R0 pg a b := fun a b => (f3 a b).trans (hR a b)
    have e75 : ∀ b, mI (pgM (fun q => mI μ 75 (40 * i + q)) (kpt (fun q => mI μ 75 (40 * i + q)) n (mtF (fun q => mI μ 75 (40 * i + q)) n)) (wI (wI μ 67 0 0) 67 33 0) p) 75 b = mI μ 75 b := fun b => (f1 75 b (by omega) (by omega)).trans rfl
    have eT : (fun q => mI (pgM (fun q => mI μ 75 (40 * i + q)) (kpt (fun q => mI μ 75 (40 * i + q)) n (mtF (fun q => mI μ 75 (40 * i + q)) n)) (wI (wI μ 67 0 0) 67 33 0) p) 75 (40 * i + q)) = (fun q => mI μ 75 (40 * i + q)) := funext fun q => e75 _
    have e76 : mI (pgM (fun q => mI μ 75 (40 * i + q)) (kpt (fun q => mI μ 75 (40 * i + q)) n (mtF (fun q => mI μ 75 (40 * i + q)) n)) (wI (wI μ 67 0 0) 67 33 0) p) 76 i = (n : Int) := ((f1 76 i (by omega) (by omega)).trans rfl).trans hlen
    have e33 := pgM_c (T := (fun q => mI μ 75 (40 * i + q))) (kp := (kpt (fun q => mI μ 75 (40 * i + q)) n (mtF (fun q => mI μ 75 (40 * i + q)) n))) (m := (wI (wI μ 67 0 0) 67 33 0)) rfl p
    have hol := osg_len (fun q => mI μ 75 (40 * i + q)) (kpt (fun q => mI μ 75 (40 * i + q)) n (mtF (fun q => mI μ 75 (40 * i + q)) n)) p 0
    refine aw_iload d_Mo_show_33 rfl ?_
    refine aw_aload_n d_Mo_show_35 rfl rfl ?_
    refine aw_getR fd_Mo_length lk_Mo_34 (by omega) rfl d_Mo_show_36 (hRp _ _) ?_
    refine aw_iload_n d_Mo_show_39 rfl rfl ?_
    refine aw_iald (n := i) (by omega) rfl rfl (by omega) d_Mo_show_40 ?_
    refine aw_tv (v' := (n : Int)) e76 ?_
    refine aw_icmp_ge (tgt := 173) d_Mo_show_41 rfl (fun h41 => ?_) (fun h41 => ?_)
    · refine aw_aload_n d_Mo_show_173 rfl rfl ?_
      refine aw_getI fd_Mo_written lk_Mo_168 (by omega) rfl d_Mo_show_174 ?_
      refine aw_tv (v' := (((osg (fun q => mI μ 75 (40 * i + q)) (kpt (fun q => mI μ 75 (40 * i + q)) n (mtF (fun q => mI μ 75 (40 * i + q)) n)) p 0).length : Nat) : Int)) e33 ?_
      exact aw_iret d_Mo_show_177 rfl ⟨by rw [show p = n by omega], rfl, by rw [show p = n by omega]⟩
    · refine aw_aload_n d_Mo_show_44 rfl rfl ?_
      refine aw_getR fd_Mo_signs lk_Mo_31 (by omega) rfl d_Mo_show_45 (hRp _ _) ?_
      refine aw_bipush (z := 40) d_Mo_show_48 (in_c rfl) rfl ?_
      refine aw_iload_n d_Mo_show_50 rfl rfl ?_
      refine aw_imul d_Mo_show_51 (by unfold inR; omega) ?_
      refine aw_iload d_Mo_show_52 rfl ?_
      refine aw_iadd d_Mo_show_54 (by unfold inR; omega) ?_
      refine aw_iald (n := 40 * i + p) (by omega) rfl (by omega) (by omega) d_Mo_show_55 ?_
      have hcp := hchs p (by omega)
      refine aw_tv (v' := (mI μ 75 (40 * i + p))) (e75 _) ?_
      refine aw_istore (lst' := [_, _, _, _, _, _, _]) d_Mo_show_56 (Nat.le_of_ble_eq_true rfl) rfl ?_
      refine aw_iload d_Mo_show_58 rfl ?_
      refine aw_bipush (z := 40) d_Mo_show_60 (in_c rfl) rfl ?_
      refine aw_pc (pc' := 62) rfl ?_
      refine aw_icmp_eq (tgt := 76) d_Mo_show_62 rfl (fun h62 => ?_) (fun h62 => ?_)
      · refine aw_iconst d_Mo_show_76 (in_c rfl) ?_
        refine aw_istore (lst' := [_, _, _, _, _, _, _]) d_Mo_show_77 (Nat.le_of_ble_eq_true rfl) rfl ?_
        refine aw_iload d_Mo_show_79 rfl ?_
        refine aw_bipush (z := 40) d_Mo_show_81 (in_c rfl) rfl ?_
        refine aw_icmp_ne (tgt := 116) d_Mo_show_83 rfl (fun h83 => ?_) (fun h83 => ?_)
        · exact absurd h62 h83
        · refine aw_aload_n d_Mo_show_86 rfl rfl ?_
          obtain ⟨c1, c2⟩ := hG p (by omega) h83
          have c3 := c1.1
          have hnd := m_Mo_isNeeded (G := G) (pg := pg) (μ := (pgM (fun q => mI μ 75 (40 * i + q)) (kpt (fun q => mI μ 75 (40 * i + q)) n (mtF (fun q => mI μ 75 (40 * i + q)) n)) (wI (wI μ 67 0 0) 67 33 0) p)) (d := d - 1) (i := i) (n := n) (p := p) (by omega) hRp (show i < 4 by omega) hn40 (by rw [eT]; exact fun q hq hc => hG q hq (by rw [e75] at hc; exact hc)) e76 (by omega) (by rw [e75]; exact h83)
          rw [eT] at hnd
          refine aw_iload_n d_Mo_show_87 rfl rfl ?_
          refine aw_iload d_Mo_show_88 rfl ?_
          refine aw_ve (as := [_, _]) rfl cv_Mo_171 (by omega) rfl rfl d_Mo_show_90 (Nat.le_of_ble_eq_true rfl) (d' := d - 1) (by omega) hnd ?_
          refine aw_istore (lst' := [_, _, _, _, _, _, _]) d_Mo_show_93 (Nat.le_of_ble_eq_true rfl) rfl ?_
          refine aw_iload d_Mo_show_95 rfl ?_
          refine aw_if_eq (tgt := 114) d_Mo_show_97 rfl (fun h97 => ?_) (fun h97 => ?_)
          · replace h97 := bz h97
            refine aw_lload_n d_Mo_show_114 rfl rfl ?_
            refine aw_lstore_n (lst' := [_, _, _, _, _, _, _]) d_Mo_show_115 rfl (Nat.le_of_ble_eq_true rfl) rfl ?_
            refine aw_iload d_Mo_show_116 rfl ?_
            refine aw_bipush (z := 41) d_Mo_show_118 (in_c rfl) rfl ?_
            refine aw_icmp_ne (tgt := 141) d_Mo_show_120 rfl (fun h120 => ?_) (fun h120 => absurd h120 (by omega))
            refine aw_lc (lst' := [_, _, _, _, _, _, some (aI (bI ((kpt (fun q => mI μ 75 (40 * i + q)) n (mtF (fun q => mI μ 75 (40 * i + q)) n)) p)))]) (by (rw [show ((kpt (fun q => mI μ 75 (40 * i + q)) n (mtF (fun q => mI μ 75 (40 * i + q)) n)) p) = nd (fun q => mI μ 75 (40 * i + q)) n (mtF (fun q => mI μ 75 (40 * i + q)) n) p from by unfold kpt; rw [if_pos h83]]) <;> rfl) ?_
            refine aw_iload d_Mo_show_141 rfl ?_
            refine aw_if_eq (tgt := 167) d_Mo_show_143 rfl (fun h143 => ?_) (fun h143 => ?_)
            · replace h143 := bz h143
              refine aw_mm (μ' := (pgM (fun q => mI μ 75 (40 * i + q)) (kpt (fun q => mI μ 75 (40 * i + q)) n (mtF (fun q => mI μ 75 (40 * i + q)) n)) (wI (wI μ 67 0 0) 67 33 0) (p + 1))) (by rw [pgM, if_neg (by rw [h143]; decide)]) ?_
              refine aw_iinc (lst' := [_, _, _, _, some (aI ((p + 1 : Nat) : Int)), _, _]) d_Mo_show_167 (Nat.le_of_ble_eq_true rfl) rfl (by unfold inR; omega) rfl ?_
              refine aw_goto (tgt := 33) d_Mo_show_170 rfl ?_
              exact ih (n - (p + 1)) (by omega) (p + 1) nb _ _ _ rfl ⟨by omega, fun e he => (hw.2 e he).trans ⟨fun ⟨q, q1, q2⟩ => ⟨q, by omega, q2⟩, fun ⟨q, q1, q2⟩ => ⟨q, (by by_cases z : q = p; (rw [z, h97] at q2; exact absurd q2.2.1 (by decide)); omega), q2⟩⟩⟩
            · replace h143 := bn h143
              refine aw_aload_n d_Mo_show_146 rfl rfl ?_
              refine aw_getR fd_Mo_page lk_Mo_83 (by omega) rfl d_Mo_show_147 (hRp _ _) ?_
              refine aw_aload_n d_Mo_show_150 rfl rfl ?_
              refine aw_getI fd_Mo_written lk_Mo_168 (by omega) rfl d_Mo_show_151 ?_
              refine aw_tv (v' := (((osg (fun q => mI μ 75 (40 * i + q)) (kpt (fun q => mI μ 75 (40 * i + q)) n (mtF (fun q => mI μ 75 (40 * i + q)) n)) p 0).length : Nat) : Int)) e33 ?_
              refine aw_iload d_Mo_show_154 rfl ?_
              refine aw_iast (n := (osg (fun q => mI μ 75 (40 * i + q)) (kpt (fun q => mI μ 75 (40 * i + q)) n (mtF (fun q => mI μ 75 (40 * i + q)) n)) p 0).length) (by omega) rfl rfl (by omega) d_Mo_show_156 ?_
              refine aw_aload_n d_Mo_show_157 rfl rfl ?_
              refine aw_dup d_Mo_show_158 rfl ?_
              refine aw_getI fd_Mo_written lk_Mo_168 (by omega) rfl d_Mo_show_159 ?_
              refine aw_tv (v' := (((osg (fun q => mI μ 75 (40 * i + q)) (kpt (fun q => mI μ 75 (40 * i + q)) n (mtF (fun q => mI μ 75 (40 * i + q)) n)) p 0).length : Nat) : Int)) (by rw [mI_wI, if_neg (by omega)]; exact e33) ?_
              refine aw_iconst d_Mo_show_162 (in_c rfl) ?_
              refine aw_iadd d_Mo_show_163 (by unfold inR; omega) ?_
              refine aw_pc (pc' := 164) rfl ?_
              refine aw_putI fd_Mo_written lk_Mo_168 (by omega) rfl d_Mo_show_164 (Or.inl rfl) ?_
              refine aw_mm (μ' := (pgM (fun q => mI μ 75 (40 * i + q)) (kpt (fun q => mI μ 75 (40 * i + q)) n (mtF (fun q => mI μ 75 (40 * i + q)) n)) (wI (wI μ 67 0 0) 67 33 0) (p + 1))) (by rw [pgM, if_pos h143]) ?_
              refine aw_iinc (lst' := [_, _, _, _, some (aI ((p + 1 : Nat) : Int)), _, _]) d_Mo_show_167 (Nat.le_of_ble_eq_true rfl) rfl (by unfold inR; omega) rfl ?_
              refine aw_goto (tgt := 33) d_Mo_show_170 rfl ?_
              exact ih (n - (p + 1)) (by omega) (p + 1) nb _ _ _ rfl ⟨by omega, fun e he => (hw.2 e he).trans ⟨fun ⟨q, q1, q2⟩ => ⟨q, by omega, q2⟩, fun ⟨q, q1, q2⟩ => ⟨q, (by by_cases z : q = p; (rw [z, h97] at q2; exact absurd q2.2.1 (by decide)); omega), q2⟩⟩⟩
          · replace h97 := bn h97
            refine aw_lload_n d_Mo_show_100 rfl rfl ?_
            refine aw_lconst (b := 1) d_Mo_show_101 rfl ?_
            refine aw_aload_n d_Mo_show_102 rfl rfl ?_
            have hcl := m_Mo_closing (G := G) (pg := pg) (μ := (pgM (fun q => mI μ 75 (40 * i + q)) (kpt (fun q => mI μ 75 (40 * i + q)) n (mtF (fun q => mI μ 75 (40 * i + q)) n)) (wI (wI μ 67 0 0) 67 33 0) p)) (d := d - 1) (i := i) (p := p) (e := (mtF (fun q => mI μ 75 (40 * i + q)) n) p) (by omega) hRp (show i < 4 by omega) c1.1 (by rw [eT]; exact c1) (by omega)
            refine aw_iload_n d_Mo_show_103 rfl rfl ?_
            refine aw_iload d_Mo_show_104 rfl ?_
            refine aw_ve (as := [_, _]) rfl cv_Mo_162 (by omega) rfl rfl d_Mo_show_106 (Nat.le_of_ble_eq_true rfl) (d' := d - 1) (by omega) hcl ?_
            refine aw_lshl (k0 := (mtF (fun q => mI μ 75 (40 * i + q)) n) p) rfl (by omega) d_Mo_show_109 ?_
            refine aw_lor d_Mo_show_110 ?_
            refine aw_goto (tgt := 115) d_Mo_show_111 rfl ?_
            refine aw_lstore_n (lst' := [_, _, _, _, _, _, _]) d_Mo_show_115 rfl (Nat.le_of_ble_eq_true rfl) rfl ?_
            refine aw_iload d_Mo_show_116 rfl ?_
            refine aw_pc (pc' := 118) rfl ?_
            refine aw_bipush (z := 41) d_Mo_show_118 (in_c rfl) rfl ?_
            refine aw_icmp_ne (tgt := 141) d_Mo_show_120 rfl (fun h120 => ?_) (fun h120 => absurd h120 (by omega))
            refine aw_lc (lst' := [_, _, _, _, _, _, some (aI (bI ((kpt (fun q => mI μ 75 (40 * i + q)) n (mtF (fun q => mI μ 75 (40 * i + q)) n)) p)))]) (by (rw [show ((kpt (fun q => mI μ 75 (40 * i + q)) n (mtF (fun q => mI μ 75 (40 * i + q)) n)) p) = nd (fun q => mI μ 75 (40 * i + q)) n (mtF (fun q => mI μ 75 (40 * i + q)) n) p from by unfold kpt; rw [if_pos h83]]) <;> rfl) ?_
            refine aw_iload d_Mo_show_141 rfl ?_
            refine aw_if_eq (tgt := 167) d_Mo_show_143 rfl (fun h143 => ?_) (fun h143 => ?_)
            · replace h143 := bz h143
              refine aw_mm (μ' := (pgM (fun q => mI μ 75 (40 * i + q)) (kpt (fun q => mI μ 75 (40 * i + q)) n (mtF (fun q => mI μ 75 (40 * i + q)) n)) (wI (wI μ 67 0 0) 67 33 0) (p + 1))) (by rw [pgM, if_neg (by rw [h143]; decide)]) ?_
              refine aw_iinc (lst' := [_, _, _, _, some (aI ((p + 1 : Nat) : Int)), _, _]) d_Mo_show_167 (Nat.le_of_ble_eq_true rfl) rfl (by unfold inR; omega) rfl ?_
              refine aw_goto (tgt := 33) d_Mo_show_170 rfl ?_
              exact ih (n - (p + 1)) (by omega) (p + 1) (nb ||| ((1 : BitVec 64) <<< (mtF (fun q => mI μ 75 (40 * i + q)) n) p)) _ _ _ rfl ⟨by omega, fun e he => by rw [or_bit (by omega) he, Bool.or_eq_true, decide_eq_true_iff, hw.2 e he]; exact ⟨fun z => z.elim (fun ⟨q, q1, q2⟩ => ⟨q, by omega, q2⟩) (fun z => ⟨p, by omega, h83, h97, z.symm⟩), fun ⟨q, q1, q2⟩ => (by by_cases z : q = p; (subst z; exact Or.inr q2.2.2.symm); exact Or.inl ⟨q, by omega, q2⟩)⟩⟩
            · replace h143 := bn h143
              refine aw_aload_n d_Mo_show_146 rfl rfl ?_
              refine aw_getR fd_Mo_page lk_Mo_83 (by omega) rfl d_Mo_show_147 (hRp _ _) ?_
              refine aw_aload_n d_Mo_show_150 rfl rfl ?_
              refine aw_getI fd_Mo_written lk_Mo_168 (by omega) rfl d_Mo_show_151 ?_
              refine aw_tv (v' := (((osg (fun q => mI μ 75 (40 * i + q)) (kpt (fun q => mI μ 75 (40 * i + q)) n (mtF (fun q => mI μ 75 (40 * i + q)) n)) p 0).length : Nat) : Int)) e33 ?_
              refine aw_iload d_Mo_show_154 rfl ?_
              refine aw_iast (n := (osg (fun q => mI μ 75 (40 * i + q)) (kpt (fun q => mI μ 75 (40 * i + q)) n (mtF (fun q => mI μ 75 (40 * i + q)) n)) p 0).length) (by omega) rfl rfl (by omega) d_Mo_show_156 ?_
              refine aw_aload_n d_Mo_show_157 rfl rfl ?_
              refine aw_dup d_Mo_show_158 rfl ?_
              refine aw_getI fd_Mo_written lk_Mo_168 (by omega) rfl d_Mo_show_159 ?_
              refine aw_tv (v' := (((osg (fun q => mI μ 75 (40 * i + q)) (kpt (fun q => mI μ 75 (40 * i + q)) n (mtF (fun q => mI μ 75 (40 * i + q)) n)) p 0).length : Nat) : Int)) (by rw [mI_wI, if_neg (by omega)]; exact e33) ?_
              refine aw_iconst d_Mo_show_162 (in_c rfl) ?_
              refine aw_iadd d_Mo_show_163 (by unfold inR; omega) ?_
              refine aw_pc (pc' := 164) rfl ?_
              refine aw_putI fd_Mo_written lk_Mo_168 (by omega) rfl d_Mo_show_164 (Or.inl rfl) ?_
              refine aw_mm (μ' := (pgM (fun q => mI μ 75 (40 * i + q)) (kpt (fun q => mI μ 75 (40 * i + q)) n (mtF (fun q => mI μ 75 (40 * i + q)) n)) (wI (wI μ 67 0 0) 67 33 0) (p + 1))) (by rw [pgM, if_pos h143]) ?_
              refine aw_iinc (lst' := [_, _, _, _, some (aI ((p + 1 : Nat) : Int)), _, _]) d_Mo_show_167 (Nat.le_of_ble_eq_true rfl) rfl (by unfold inR; omega) rfl ?_
              refine aw_goto (tgt := 33) d_Mo_show_170 rfl ?_
              exact ih (n - (p + 1)) (by omega) (p + 1) (nb ||| ((1 : BitVec 64) <<< (mtF (fun q => mI μ 75 (40 * i + q)) n) p)) _ _ _ rfl ⟨by omega, fun e he => by rw [or_bit (by omega) he, Bool.or_eq_true, decide_eq_true_iff, hw.2 e he]; exact ⟨fun z => z.elim (fun ⟨q, q1, q2⟩ => ⟨q, by omega, q2⟩) (fun z => ⟨p, by omega, h83, h97, z.symm⟩), fun ⟨q, q1, q2⟩ => (by by_cases z : q = p; (subst z; exact Or.inr q2.2.2.symm); exact Or.inl ⟨q, by omega, q2⟩)⟩⟩
      · refine aw_iload d_Mo_show_65 rfl ?_
        refine aw_bipush (z := 41) d_Mo_show_67 (in_c rfl) rfl ?_
        refine aw_icmp_eq (tgt := 76) d_Mo_show_69 rfl (fun h69 => ?_) (fun h69 => ?_)
        · refine aw_iconst d_Mo_show_76 (in_c rfl) ?_
          refine aw_istore (lst' := [_, _, _, _, _, _, _]) d_Mo_show_77 (Nat.le_of_ble_eq_true rfl) rfl ?_
          refine aw_iload d_Mo_show_79 rfl ?_
          refine aw_bipush (z := 40) d_Mo_show_81 (in_c rfl) rfl ?_
          refine aw_icmp_ne (tgt := 116) d_Mo_show_83 rfl (fun h83 => ?_) (fun h83 => ?_)
          · refine aw_iload d_Mo_show_116 rfl ?_
            refine aw_bipush (z := 41) d_Mo_show_118 (in_c rfl) rfl ?_
            refine aw_icmp_ne (tgt := 141) d_Mo_show_120 rfl (fun h120 => ?_) (fun h120 => ?_)
            · exact absurd h69 h120
            · refine aw_lload_n d_Mo_show_123 rfl rfl ?_
              refine aw_iload d_Mo_show_124 rfl ?_
              refine aw_lshr (k0 := p) rfl (by omega) d_Mo_show_126 ?_
              refine aw_lconst (b := 1) d_Mo_show_127 rfl ?_
              refine aw_land d_Mo_show_128 ?_
              refine aw_lconst (b := 1) d_Mo_show_129 rfl ?_
              refine aw_lcmp d_Mo_show_130 (fun z130 hz130 => ?_)
              refine aw_if_ne (tgt := 138) d_Mo_show_131 rfl (fun h131 => ?_) (fun h131 => ?_)
              · refine aw_iconst d_Mo_show_138 (in_c rfl) ?_
                refine aw_istore (lst' := [_, _, _, _, _, _, some (aI (bI ((kpt (fun q => mI μ 75 (40 * i + q)) n (mtF (fun q => mI μ 75 (40 * i + q)) n)) p)))]) d_Mo_show_139 (Nat.le_of_ble_eq_true rfl) (by rw [show ((kpt (fun q => mI μ 75 (40 * i + q)) n (mtF (fun q => mI μ 75 (40 * i + q)) n)) p) = false from by unfold kpt; rw [if_neg h83, if_pos h120]; exact Bool.eq_false_iff.mpr (fun z => h131 (hz130.mpr ((sr_bit (by omega)).mpr ((hw.2 p (by omega)).mpr (by obtain ⟨q, q1, q2⟩ := (anyB_iff _).mp z; simp only [Bool.and_eq_true, decide_eq_true_iff] at q2; exact ⟨q, q1, q2.1.1, q2.1.2, q2.2⟩)))))]; rfl) ?_
                refine aw_iload d_Mo_show_141 rfl ?_
                refine aw_if_eq (tgt := 167) d_Mo_show_143 rfl (fun h143 => ?_) (fun h143 => ?_)
                · replace h143 := bz h143
                  refine aw_mm (μ' := (pgM (fun q => mI μ 75 (40 * i + q)) (kpt (fun q => mI μ 75 (40 * i + q)) n (mtF (fun q => mI μ 75 (40 * i + q)) n)) (wI (wI μ 67 0 0) 67 33 0) (p + 1))) (by rw [pgM, if_neg (by rw [h143]; decide)]) ?_
                  refine aw_iinc (lst' := [_, _, _, _, some (aI ((p + 1 : Nat) : Int)), _, _]) d_Mo_show_167 (Nat.le_of_ble_eq_true rfl) rfl (by unfold inR; omega) rfl ?_
                  refine aw_goto (tgt := 33) d_Mo_show_170 rfl ?_
                  exact ih (n - (p + 1)) (by omega) (p + 1) nb _ _ _ rfl ⟨by omega, fun e he => (hw.2 e he).trans ⟨fun ⟨q, q1, q2⟩ => ⟨q, by omega, q2⟩, fun ⟨q, q1, q2⟩ => ⟨q, (by by_cases z : q = p; (rw [z] at q2; exact absurd q2.1 h83); omega), q2⟩⟩⟩
                · replace h143 := bn h143
                  refine aw_aload_n d_Mo_show_146 rfl rfl ?_
                  refine aw_getR fd_Mo_page lk_Mo_83 (by omega) rfl d_Mo_show_147 (hRp _ _) ?_
                  refine aw_aload_n d_Mo_show_150 rfl rfl ?_
                  refine aw_getI fd_Mo_written lk_Mo_168 (by omega) rfl d_Mo_show_151 ?_
                  refine aw_tv (v' := (((osg (fun q => mI μ 75 (40 * i + q)) (kpt (fun q => mI μ 75 (40 * i + q)) n (mtF (fun q => mI μ 75 (40 * i + q)) n)) p 0).length : Nat) : Int)) e33 ?_
                  refine aw_iload d_Mo_show_154 rfl ?_
                  refine aw_iast (n := (osg (fun q => mI μ 75 (40 * i + q)) (kpt (fun q => mI μ 75 (40 * i + q)) n (mtF (fun q => mI μ 75 (40 * i + q)) n)) p 0).length) (by omega) rfl rfl (by omega) d_Mo_show_156 ?_
                  refine aw_aload_n d_Mo_show_157 rfl rfl ?_
                  refine aw_dup d_Mo_show_158 rfl ?_
                  refine aw_getI fd_Mo_written lk_Mo_168 (by omega) rfl d_Mo_show_159 ?_
                  refine aw_tv (v' := (((osg (fun q => mI μ 75 (40 * i + q)) (kpt (fun q => mI μ 75 (40 * i + q)) n (mtF (fun q => mI μ 75 (40 * i + q)) n)) p 0).length : Nat) : Int)) (by rw [mI_wI, if_neg (by omega)]; exact e33) ?_
                  refine aw_iconst d_Mo_show_162 (in_c rfl) ?_
                  refine aw_iadd d_Mo_show_163 (by unfold inR; omega) ?_
                  refine aw_pc (pc' := 164) rfl ?_
                  refine aw_putI fd_Mo_written lk_Mo_168 (by omega) rfl d_Mo_show_164 (Or.inl rfl) ?_
                  refine aw_mm (μ' := (pgM (fun q => mI μ 75 (40 * i + q)) (kpt (fun q => mI μ 75 (40 * i + q)) n (mtF (fun q => mI μ 75 (40 * i + q)) n)) (wI (wI μ 67 0 0) 67 33 0) (p + 1))) (by rw [pgM, if_pos h143]) ?_
                  refine aw_iinc (lst' := [_, _, _, _, some (aI ((p + 1 : Nat) : Int)), _, _]) d_Mo_show_167 (Nat.le_of_ble_eq_true rfl) rfl (by unfold inR; omega) rfl ?_
                  refine aw_goto (tgt := 33) d_Mo_show_170 rfl ?_
                  exact ih (n - (p + 1)) (by omega) (p + 1) nb _ _ _ rfl ⟨by omega, fun e he => (hw.2 e he).trans ⟨fun ⟨q, q1, q2⟩ => ⟨q, by omega, q2⟩, fun ⟨q, q1, q2⟩ => ⟨q, (by by_cases z : q = p; (rw [z] at q2; exact absurd q2.1 h83); omega), q2⟩⟩⟩
              · refine aw_iconst d_Mo_show_134 (in_c rfl) ?_
                refine aw_goto (tgt := 139) d_Mo_show_135 rfl ?_
                refine aw_istore (lst' := [_, _, _, _, _, _, some (aI (bI ((kpt (fun q => mI μ 75 (40 * i + q)) n (mtF (fun q => mI μ 75 (40 * i + q)) n)) p)))]) d_Mo_show_139 (Nat.le_of_ble_eq_true rfl) (by rw [show ((kpt (fun q => mI μ 75 (40 * i + q)) n (mtF (fun q => mI μ 75 (40 * i + q)) n)) p) = true from by unfold kpt; rw [if_neg h83, if_pos h120]; exact (anyB_iff _).mpr (by obtain ⟨q, q1, q2, q3, q4⟩ := (hw.2 p (by omega)).mp ((sr_bit (by omega)).mp (hz130.mp h131)); exact ⟨q, q1, by rw [decide_eq_true q2, q3, decide_eq_true q4]; rfl⟩)]; rfl) ?_
                refine aw_iload d_Mo_show_141 rfl ?_
                refine aw_if_eq (tgt := 167) d_Mo_show_143 rfl (fun h143 => ?_) (fun h143 => ?_)
                · replace h143 := bz h143
                  refine aw_mm (μ' := (pgM (fun q => mI μ 75 (40 * i + q)) (kpt (fun q => mI μ 75 (40 * i + q)) n (mtF (fun q => mI μ 75 (40 * i + q)) n)) (wI (wI μ 67 0 0) 67 33 0) (p + 1))) (by rw [pgM, if_neg (by rw [h143]; decide)]) ?_
                  refine aw_iinc (lst' := [_, _, _, _, some (aI ((p + 1 : Nat) : Int)), _, _]) d_Mo_show_167 (Nat.le_of_ble_eq_true rfl) rfl (by unfold inR; omega) rfl ?_
                  refine aw_goto (tgt := 33) d_Mo_show_170 rfl ?_
                  exact ih (n - (p + 1)) (by omega) (p + 1) nb _ _ _ rfl ⟨by omega, fun e he => (hw.2 e he).trans ⟨fun ⟨q, q1, q2⟩ => ⟨q, by omega, q2⟩, fun ⟨q, q1, q2⟩ => ⟨q, (by by_cases z : q = p; (rw [z] at q2; exact absurd q2.1 h83); omega), q2⟩⟩⟩
                · replace h143 := bn h143
                  refine aw_aload_n d_Mo_show_146 rfl rfl ?_
                  refine aw_getR fd_Mo_page lk_Mo_83 (by omega) rfl d_Mo_show_147 (hRp _ _) ?_
                  refine aw_aload_n d_Mo_show_150 rfl rfl ?_
                  refine aw_getI fd_Mo_written lk_Mo_168 (by omega) rfl d_Mo_show_151 ?_
                  refine aw_tv (v' := (((osg (fun q => mI μ 75 (40 * i + q)) (kpt (fun q => mI μ 75 (40 * i + q)) n (mtF (fun q => mI μ 75 (40 * i + q)) n)) p 0).length : Nat) : Int)) e33 ?_
                  refine aw_iload d_Mo_show_154 rfl ?_
                  refine aw_iast (n := (osg (fun q => mI μ 75 (40 * i + q)) (kpt (fun q => mI μ 75 (40 * i + q)) n (mtF (fun q => mI μ 75 (40 * i + q)) n)) p 0).length) (by omega) rfl rfl (by omega) d_Mo_show_156 ?_
                  refine aw_aload_n d_Mo_show_157 rfl rfl ?_
                  refine aw_dup d_Mo_show_158 rfl ?_
                  refine aw_getI fd_Mo_written lk_Mo_168 (by omega) rfl d_Mo_show_159 ?_
                  refine aw_tv (v' := (((osg (fun q => mI μ 75 (40 * i + q)) (kpt (fun q => mI μ 75 (40 * i + q)) n (mtF (fun q => mI μ 75 (40 * i + q)) n)) p 0).length : Nat) : Int)) (by rw [mI_wI, if_neg (by omega)]; exact e33) ?_
                  refine aw_iconst d_Mo_show_162 (in_c rfl) ?_
                  refine aw_iadd d_Mo_show_163 (by unfold inR; omega) ?_
                  refine aw_pc (pc' := 164) rfl ?_
                  refine aw_putI fd_Mo_written lk_Mo_168 (by omega) rfl d_Mo_show_164 (Or.inl rfl) ?_
                  refine aw_mm (μ' := (pgM (fun q => mI μ 75 (40 * i + q)) (kpt (fun q => mI μ 75 (40 * i + q)) n (mtF (fun q => mI μ 75 (40 * i + q)) n)) (wI (wI μ 67 0 0) 67 33 0) (p + 1))) (by rw [pgM, if_pos h143]) ?_
                  refine aw_iinc (lst' := [_, _, _, _, some (aI ((p + 1 : Nat) : Int)), _, _]) d_Mo_show_167 (Nat.le_of_ble_eq_true rfl) rfl (by unfold inR; omega) rfl ?_
                  refine aw_goto (tgt := 33) d_Mo_show_170 rfl ?_
                  exact ih (n - (p + 1)) (by omega) (p + 1) nb _ _ _ rfl ⟨by omega, fun e he => (hw.2 e he).trans ⟨fun ⟨q, q1, q2⟩ => ⟨q, by omega, q2⟩, fun ⟨q, q1, q2⟩ => ⟨q, (by by_cases z : q = p; (rw [z] at q2; exact absurd q2.1 h83); omega), q2⟩⟩⟩
          · exact absurd h83 h62
        · refine aw_iconst d_Mo_show_72 (in_c rfl) ?_
          refine aw_goto (tgt := 77) d_Mo_show_73 rfl ?_
          refine aw_istore (lst' := [_, _, _, _, _, _, _]) d_Mo_show_77 (Nat.le_of_ble_eq_true rfl) rfl ?_
          refine aw_iload d_Mo_show_79 rfl ?_
          refine aw_bipush (z := 40) d_Mo_show_81 (in_c rfl) rfl ?_
          refine aw_icmp_ne (tgt := 116) d_Mo_show_83 rfl (fun h83 => ?_) (fun h83 => ?_)
          · refine aw_iload d_Mo_show_116 rfl ?_
            refine aw_bipush (z := 41) d_Mo_show_118 (in_c rfl) rfl ?_
            refine aw_icmp_ne (tgt := 141) d_Mo_show_120 rfl (fun h120 => ?_) (fun h120 => ?_)
            · refine aw_lc (lst' := [_, _, _, _, _, _, some (aI (bI ((kpt (fun q => mI μ 75 (40 * i + q)) n (mtF (fun q => mI μ 75 (40 * i + q)) n)) p)))]) (by (rw [show ((kpt (fun q => mI μ 75 (40 * i + q)) n (mtF (fun q => mI μ 75 (40 * i + q)) n)) p) = true from by unfold kpt; rw [if_neg h83, if_neg h120]]; rfl) <;> rfl) ?_
              refine aw_iload d_Mo_show_141 rfl ?_
              refine aw_if_eq (tgt := 167) d_Mo_show_143 rfl (fun h143 => ?_) (fun h143 => ?_)
              · replace h143 := bz h143
                refine aw_mm (μ' := (pgM (fun q => mI μ 75 (40 * i + q)) (kpt (fun q => mI μ 75 (40 * i + q)) n (mtF (fun q => mI μ 75 (40 * i + q)) n)) (wI (wI μ 67 0 0) 67 33 0) (p + 1))) (by rw [pgM, if_neg (by rw [h143]; decide)]) ?_
                refine aw_iinc (lst' := [_, _, _, _, some (aI ((p + 1 : Nat) : Int)), _, _]) d_Mo_show_167 (Nat.le_of_ble_eq_true rfl) rfl (by unfold inR; omega) rfl ?_
                refine aw_goto (tgt := 33) d_Mo_show_170 rfl ?_
                exact ih (n - (p + 1)) (by omega) (p + 1) nb _ _ _ rfl ⟨by omega, fun e he => (hw.2 e he).trans ⟨fun ⟨q, q1, q2⟩ => ⟨q, by omega, q2⟩, fun ⟨q, q1, q2⟩ => ⟨q, (by by_cases z : q = p; (rw [z] at q2; exact absurd q2.1 h83); omega), q2⟩⟩⟩
              · replace h143 := bn h143
                refine aw_aload_n d_Mo_show_146 rfl rfl ?_
                refine aw_getR fd_Mo_page lk_Mo_83 (by omega) rfl d_Mo_show_147 (hRp _ _) ?_
                refine aw_aload_n d_Mo_show_150 rfl rfl ?_
                refine aw_getI fd_Mo_written lk_Mo_168 (by omega) rfl d_Mo_show_151 ?_
                refine aw_tv (v' := (((osg (fun q => mI μ 75 (40 * i + q)) (kpt (fun q => mI μ 75 (40 * i + q)) n (mtF (fun q => mI μ 75 (40 * i + q)) n)) p 0).length : Nat) : Int)) e33 ?_
                refine aw_iload d_Mo_show_154 rfl ?_
                refine aw_iast (n := (osg (fun q => mI μ 75 (40 * i + q)) (kpt (fun q => mI μ 75 (40 * i + q)) n (mtF (fun q => mI μ 75 (40 * i + q)) n)) p 0).length) (by omega) rfl rfl (by omega) d_Mo_show_156 ?_
                refine aw_aload_n d_Mo_show_157 rfl rfl ?_
                refine aw_dup d_Mo_show_158 rfl ?_
                refine aw_getI fd_Mo_written lk_Mo_168 (by omega) rfl d_Mo_show_159 ?_
                refine aw_tv (v' := (((osg (fun q => mI μ 75 (40 * i + q)) (kpt (fun q => mI μ 75 (40 * i + q)) n (mtF (fun q => mI μ 75 (40 * i + q)) n)) p 0).length : Nat) : Int)) (by rw [mI_wI, if_neg (by omega)]; exact e33) ?_
                refine aw_iconst d_Mo_show_162 (in_c rfl) ?_
                refine aw_iadd d_Mo_show_163 (by unfold inR; omega) ?_
                refine aw_pc (pc' := 164) rfl ?_
                refine aw_putI fd_Mo_written lk_Mo_168 (by omega) rfl d_Mo_show_164 (Or.inl rfl) ?_
                refine aw_mm (μ' := (pgM (fun q => mI μ 75 (40 * i + q)) (kpt (fun q => mI μ 75 (40 * i + q)) n (mtF (fun q => mI μ 75 (40 * i + q)) n)) (wI (wI μ 67 0 0) 67 33 0) (p + 1))) (by rw [pgM, if_pos h143]) ?_
                refine aw_iinc (lst' := [_, _, _, _, some (aI ((p + 1 : Nat) : Int)), _, _]) d_Mo_show_167 (Nat.le_of_ble_eq_true rfl) rfl (by unfold inR; omega) rfl ?_
                refine aw_goto (tgt := 33) d_Mo_show_170 rfl ?_
                exact ih (n - (p + 1)) (by omega) (p + 1) nb _ _ _ rfl ⟨by omega, fun e he => (hw.2 e he).trans ⟨fun ⟨q, q1, q2⟩ => ⟨q, by omega, q2⟩, fun ⟨q, q1, q2⟩ => ⟨q, (by by_cases z : q = p; (rw [z] at q2; exact absurd q2.1 h83); omega), q2⟩⟩⟩
            · exact absurd h120 h69
          · exact absurd h83 h62
  refine aw_aload_n d_Mo_show_0 rfl rfl ?_
  refine aw_aload_n d_Mo_show_1 rfl rfl ?_
  refine aw_iload_n d_Mo_show_2 rfl rfl ?_
  refine aw_ve (as := [_]) rfl cv_Mo_159 (by omega) rfl rfl d_Mo_show_3 (Nat.le_of_ble_eq_true rfl) (d' := d - 1) (by omega) (g_Mo_isDecision (by omega) hi hd4) ?_
  refine aw_if_ne (tgt := 13) d_Mo_show_6 rfl (fun h6 => ?_) (fun h6 => absurd h6 (by omega))
  refine aw_iconst d_Mo_show_13 (in_c rfl) ?_
  refine aw_iconst d_Mo_show_14 (in_c rfl) ?_
  refine aw_ve (as := [_, _]) rfl cv_Mo_96 (by omega) rfl rfl d_Mo_show_15 (Nat.le_of_ble_eq_true rfl) (d' := d - 1) (by omega) (m_Mo_refused_0 (by omega)) ?_
  refine aw_if_eq (tgt := 23) d_Mo_show_18 rfl (fun h18 => ?_) (fun h18 => absurd rfl h18)
  refine aw_aload_n d_Mo_show_23 rfl rfl ?_
  refine aw_iconst d_Mo_show_24 (in_c rfl) ?_
  refine aw_pc (pc' := 25) rfl ?_
  refine aw_putI fd_Mo_written lk_Mo_168 (by omega) rfl d_Mo_show_25 (Or.inl rfl) ?_
  refine aw_lconst (b := 0) d_Mo_show_28 rfl ?_
  refine aw_lstore_n (lst' := [_, _, _, _, _, _, _]) d_Mo_show_29 rfl (Nat.le_of_ble_eq_true rfl) rfl ?_
  refine aw_iconst d_Mo_show_30 (in_c rfl) ?_
  refine aw_istore (lst' := [_, _, _, _, _, _, _]) d_Mo_show_31 (Nat.le_of_ble_eq_true rfl) rfl ?_
  refine aw_mm (μ' := (pgM (fun q => mI μ 75 (40 * i + q)) (kpt (fun q => mI μ 75 (40 * i + q)) n (mtF (fun q => mI μ 75 (40 * i + q)) n)) (wI (wI μ 67 0 0) 67 33 0) 0)) rfl ?_
  exact key (n - 0) 0 0 _ none none rfl ⟨Nat.zero_le _, fun e he => ⟨fun z => absurd z (by rw [show (0 : BitVec 64).getLsbD e = false from BitVec.getLsbD_zero]; decide), fun ⟨q, q1, _⟩ => absurd q1 (by omega)⟩⟩
end
