/-! the class: the table of all differences -/
section
theorem r19 {pg r : Nat} (h : r < 6) : R0 pg 19 r = some (20 + r) := by
  rcases (show r = 0 ∨ r = 1 ∨ r = 2 ∨ r = 3 ∨ r = 4 ∨ r = 5 by omega) with rfl | rfl | rfl | rfl | rfl | rfl <;> rfl
theorem sh20 {r : Nat} (h : r < 6) : shL[20 + r]? = some (0, 81) := by
  rcases (show r = 0 ∨ r = 1 ∨ r = 2 ∨ r = 3 ∨ r = 4 ∨ r = 5 by omega) with rfl | rfl | rfl | rfl | rfl | rfl <;> rfl
theorem rwN_6 {a b : Nat} (hb : b = 1 ∨ b = 2 ∨ b = 3) (h : a < b) : rwN a b < 6 := by
  rcases hb with rfl | rfl | rfl <;> (unfold rwN; omega)
theorem isD_26 {D : Nat} (h : isD D) : 26 < D ∧ D + 7 < 59 := by unfold isD at h; omega
variable {G : aG} {pg : Nat} {μ : aM}
set_option maxRecDepth 100000 in
theorem m_Wa_rowOf {d : Nat} (hd : 0 ≤ d) {a b : Nat} (hb : b = 1 ∨ b = 2 ∨ b = 3) (ha : a < 3) : AM G false d 0 0 y_Wa_rowOf [aI (a : Int), aI (b : Int)] 94 μ (Qe (some (aI ((rwN a b : Nat) : Int))) 94 μ) := by
  refine am_of (n := 0) pf_Wa_rowOf (Nat.le_of_ble_eq_true rfl) (by intro v hv; simp only [List.mem_cons, List.not_mem_nil, or_false] at hv; rcases hv with rfl | rfl <;> first | trivial | assumption | exact in_c rfl | exact bI_in _ | (show inR _; unfold inR; omega)) rfl ?_
  refine aw_iload_n d_Wa_rowOf_0 rfl rfl ?_
  refine aw_iload_n d_Wa_rowOf_1 rfl rfl ?_
  refine aw_iconst d_Wa_rowOf_2 (in_c rfl) ?_
  refine aw_isub d_Wa_rowOf_3 (by unfold inR; omega) ?_
  refine aw_imul d_Wa_rowOf_4 (by rcases hb with rfl | rfl | rfl <;> exact ⟨by decide, by decide⟩) ?_
  refine aw_iconst d_Wa_rowOf_5 (in_c rfl) ?_
  refine aw_idiv (a := b * (b - 1)) (b := 2) (by rcases hb with rfl | rfl | rfl <;> rfl) rfl (by omega) d_Wa_rowOf_6 ?_
  refine aw_iload_n d_Wa_rowOf_7 rfl rfl ?_
  refine aw_iadd d_Wa_rowOf_8 (by rcases hb with rfl | rfl | rfl <;> (unfold inR; omega)) ?_
  exact aw_iret d_Wa_rowOf_9 rfl ⟨by rw [rwN]; rfl, rfl, rfl⟩
set_option maxRecDepth 100000 in
theorem m_Wa_bitsFor {d : Nat} (hd : 1 ≤ d) (hR : ∀ k j, mR μ k j = R0 pg k j) {a b : Nat} (hb : b = 1 ∨ b = 2 ∨ b = 3) (ha : a < b) {δ : Int} (h1 : -40 ≤ δ) (h2 : δ ≤ 40) : AM G false d 0 0 y_Wa_bitsFor [aP 18, aI (a : Int), aI (b : Int), aI δ] 94 μ (Qe (some (aI (mI μ (20 + rwN a b) (δ + 40).toNat))) 94 μ) := by
  refine am_of (n := 0) pf_Wa_bitsFor (Nat.le_of_ble_eq_true rfl) (by intro v hv; simp only [List.mem_cons, List.not_mem_nil, or_false] at hv; rcases hv with rfl | rfl | rfl | rfl <;> first | trivial | assumption | exact in_c rfl | exact bI_in _ | (show inR _; unfold inR; omega)) rfl ?_
  have h6 := rwN_6 hb ha
  refine aw_aload_n d_Wa_bitsFor_0 rfl rfl ?_
  refine aw_getR fd_Wa_bits lk_Wa_13 (by omega) rfl d_Wa_bitsFor_1 (hR _ _) ?_
  refine aw_iload_n d_Wa_bitsFor_4 rfl rfl ?_
  refine aw_iload_n d_Wa_bitsFor_5 rfl rfl ?_
  refine aw_se (as := [_, _]) rfl cs_Wa_66 d_Wa_bitsFor_6 (Nat.le_of_ble_eq_true rfl) (d' := d - 1) (by omega) (m_Wa_rowOf (by omega) hb (by omega)) ?_
  refine aw_aald5 (n := rwN a b) (by omega) rfl rfl h6 ((hR _ _).trans (r19 h6)) d_Wa_bitsFor_9 ?_
  refine aw_bipush (z := 40) d_Wa_bitsFor_10 (in_c rfl) rfl ?_
  refine aw_iload_n d_Wa_bitsFor_12 rfl rfl ?_
  refine aw_iadd d_Wa_bitsFor_13 (by unfold inR; omega) ?_
  refine aw_iald (n := (δ + 40).toNat) (by omega) (sh20 h6) (by omega) (by omega) d_Wa_bitsFor_14 ?_
  exact aw_iret d_Wa_bitsFor_15 rfl ⟨rfl, rfl, rfl⟩
set_option maxRecDepth 100000 in
theorem m_Wa_enter {d : Nat} (hd : 1 ≤ d) (hR : ∀ k j, mR μ k j = R0 pg k j) {l v : Nat} (hl : l < 8) (hv : v < 64) {f s : Int} (hf : mI μ 6 l = f) (hs : mI μ 7 l = s) (hI : okI f s) (hk0 : 0 ≤ mI μ 5 l) {Hf : Int → Bool} (hH : ∀ δ, decide (hz (mI μ 5 l) δ (mI μ 8 l) = 1) = Hf δ) (h0 : ∀ b, b < 81 → 0 ≤ mI μ (20 + rwD f s) b) : AM G false d 0 0 y_Wa_enter [aP 18, aI (l : Int), aI (v : Int)] 94 μ (Qe none 94 (enM Hf (rwD f s) (tnd f s) v μ 81)) := by
  refine am_of (n := 5) pf_Wa_enter (Nat.le_of_ble_eq_true rfl) (by intro v hv; simp only [List.mem_cons, List.not_mem_nil, or_false] at hv; rcases hv with rfl | rfl | rfl <;> first | trivial | assumption | exact in_c rfl | exact bI_in _ | (show inR _; unfold inR; omega)) rfl ?_
  have h6 := rwD_6 hI
  have hI1 := hI.1.1
  have hI2 := hI.1.2
  have hI3 := hI.2.1.1
  have hI4 := hI.2.1.2
  have hI5 := hI.2.2
  have hsc : 0 ≤ sc2 s ∧ sc2 s ≤ 3 ∧ ¬ sc2 s = f := by unfold sc2; split <;> omega
  have key : ∀ (m : Nat) (t : Nat), 81 - t = m → t ≤ 81 → AW G false y_Wa_enter d 0 0 (Qe none 94 (enM Hf (rwD f s) (tnd f s) v μ 81)) 74 [some (aP 18), some (aI (l : Int)), some (aI (v : Int)), some (aI f), some (aI (sc2 s)), some (aI (bI (tnd f s))), some (aI ((rwD f s : Nat) : Int)), some (aI ((t : Int) - 40))] [] 94 (enM Hf (rwD f s) (tnd f s) v μ t) := by
    intro m
    induction m using Nat.strongRecOn with | _ m ih =>
    intro t hm ht
    have hFr := enM_fr Hf h6 (tnd f s) v μ t
    have hRt : ∀ a b, mR (enM Hf (rwD f s) (tnd f s) v μ t) a b = R0 pg a b := fun a b => (hFr.2.2 a b).trans (hR a b)
    have e5 : mI (enM Hf (rwD f s) (tnd f s) v μ t) 5 l = mI μ 5 l := hFr.1 _ _ (by omega)
    have e8 : mI (enM Hf (rwD f s) (tnd f s) v μ t) 8 l = mI μ 8 l := hFr.1 _ _ (by omega)
    have hnn : ∀ e, e < 81 → mI (enM Hf (rwD f s) (tnd f s) v μ t) (20 + rwD f s) e = (((mI (enM Hf (rwD f s) (tnd f s) v μ t) (20 + rwD f s) e).toNat : Nat) : Int) := fun e he => by have := (enM_has (h := Hf) (tn := tnd f s) (v := v) h0 t ht).2 e he; rw [this]; rfl
    have hix : t < 81 → (if tnd f s = true then 80 - t else t) ≤ 80 := fun _ => by split <;> omega
    refine aw_iload d_Wa_enter_74 rfl ?_
    refine aw_bipush (z := 40) d_Wa_enter_76 (in_c rfl) rfl ?_
    refine aw_icmp_gt (tgt := 128) d_Wa_enter_78 rfl (fun h78 => ?_) (fun h78 => ?_)
    · exact aw_vret d_Wa_enter_128 rfl ⟨rfl, rfl, by rw [show t = 81 by omega]⟩
    · refine aw_aload_n d_Wa_enter_81 rfl rfl ?_
      refine aw_getR fd_Wa_conditions lk_Wa_20 (by omega) rfl d_Wa_enter_82 (hRt _ _) ?_
      refine aw_iload_n d_Wa_enter_85 rfl rfl ?_
      refine aw_iload d_Wa_enter_86 rfl ?_
      refine aw_ve (as := [_, _]) rfl cv_Wa_70 (by omega) rfl rfl d_Wa_enter_88 (Nat.le_of_ble_eq_true rfl) (d' := d - 1) (by omega) (m_Co_holds (μ := (enM Hf (rwD f s) (tnd f s) v μ t)) (by omega) hRt hl (by unfold inR; omega) (by rw [e5]; exact hk0)) ?_
      replace hix := hix (by omega)
      refine aw_tv (v' := bI (Hf ((t : Int) - 40))) (by rw [e5, e8, hz_01, hH]) ?_
      refine aw_if_eq (tgt := 122) d_Wa_enter_91 rfl (fun h91 => ?_) (fun h91 => ?_)
      · replace h91 := bz h91
        refine aw_mm (μ' := (enM Hf (rwD f s) (tnd f s) v μ (t + 1))) (by rw [enM, if_neg (by rw [h91]; decide)]) ?_
        refine aw_iinc (lst' := [_, _, _, _, _, _, _, some (aI (((t + 1 : Nat) : Int) - 40))]) d_Wa_enter_122 (Nat.le_of_ble_eq_true rfl) rfl (by unfold inR; omega) (by rw [show (t : Int) - 40 + 1 = ((t + 1 : Nat) : Int) - 40 by omega]; rfl) ?_
        refine aw_goto (tgt := 74) d_Wa_enter_125 rfl ?_
        exact ih (81 - (t + 1)) (by omega) (t + 1) rfl (by omega)
      · replace h91 := bn h91
        refine aw_aload_n d_Wa_enter_94 rfl rfl ?_
        refine aw_getR fd_Wa_bits lk_Wa_13 (by omega) rfl d_Wa_enter_95 (hRt _ _) ?_
        refine aw_iload d_Wa_enter_98 rfl ?_
        refine aw_aald5 (n := rwD f s) (by omega) rfl rfl h6 ((hRt _ _).trans (r19 h6)) d_Wa_enter_100 ?_
        refine aw_bipush (z := 40) d_Wa_enter_101 (in_c rfl) rfl ?_
        refine aw_iload d_Wa_enter_103 rfl ?_
        refine aw_if_eq (tgt := 114) d_Wa_enter_105 rfl (fun h105 => ?_) (fun h105 => ?_)
        · replace h105 := bz h105
          refine aw_iload d_Wa_enter_114 rfl ?_
          refine aw_iadd d_Wa_enter_116 (by unfold inR; omega) ?_
          refine aw_tv (v' := (((if tnd f s = true then 80 - t else t) : Nat) : Int)) (by rw [h105]; first | (rw [if_pos rfl]; omega) | (rw [if_neg (by decide)]; omega)) ?_
          refine aw_dup2 d_Wa_enter_117 rfl rfl ?_
          refine aw_iald (n := (if tnd f s = true then 80 - t else t)) (by omega) (sh20 h6) rfl (by omega) d_Wa_enter_118 ?_
          refine aw_tv (v' := (((mI (enM Hf (rwD f s) (tnd f s) v μ t) (20 + rwD f s) (if tnd f s = true then 80 - t else t)).toNat : Nat) : Int)) (hnn _ (by omega)) ?_
          refine aw_iload_n d_Wa_enter_119 rfl rfl ?_
          refine aw_ior (a := (mI (enM Hf (rwD f s) (tnd f s) v μ t) (20 + rwD f s) (if tnd f s = true then 80 - t else t)).toNat) (b := v) rfl rfl d_Wa_enter_120 ?_
          refine aw_iast (n := (if tnd f s = true then 80 - t else t)) (by omega) (sh20 h6) rfl (by omega) d_Wa_enter_121 ?_
          refine aw_mm (μ' := (enM Hf (rwD f s) (tnd f s) v μ (t + 1))) (by rw [enM, if_pos h91]) ?_
          refine aw_iinc (lst' := [_, _, _, _, _, _, _, some (aI (((t + 1 : Nat) : Int) - 40))]) d_Wa_enter_122 (Nat.le_of_ble_eq_true rfl) rfl (by unfold inR; omega) (by rw [show (t : Int) - 40 + 1 = ((t + 1 : Nat) : Int) - 40 by omega]; rfl) ?_
          refine aw_goto (tgt := 74) d_Wa_enter_125 rfl ?_
          exact ih (81 - (t + 1)) (by omega) (t + 1) rfl (by omega)
        · replace h105 := bn h105
          refine aw_iload d_Wa_enter_108 rfl ?_
          refine aw_ineg d_Wa_enter_110 (by unfold inR; omega) ?_
          refine aw_goto (tgt := 116) d_Wa_enter_111 rfl ?_
          refine aw_iadd d_Wa_enter_116 (by unfold inR; omega) ?_
          refine aw_tv (v' := (((if tnd f s = true then 80 - t else t) : Nat) : Int)) (by rw [h105]; first | (rw [if_pos rfl]; omega) | (rw [if_neg (by decide)]; omega)) ?_
          refine aw_dup2 d_Wa_enter_117 rfl rfl ?_
          refine aw_iald (n := (if tnd f s = true then 80 - t else t)) (by omega) (sh20 h6) rfl (by omega) d_Wa_enter_118 ?_
          refine aw_tv (v' := (((mI (enM Hf (rwD f s) (tnd f s) v μ t) (20 + rwD f s) (if tnd f s = true then 80 - t else t)).toNat : Nat) : Int)) (hnn _ (by omega)) ?_
          refine aw_iload_n d_Wa_enter_119 rfl rfl ?_
          refine aw_ior (a := (mI (enM Hf (rwD f s) (tnd f s) v μ t) (20 + rwD f s) (if tnd f s = true then 80 - t else t)).toNat) (b := v) rfl rfl d_Wa_enter_120 ?_
          refine aw_iast (n := (if tnd f s = true then 80 - t else t)) (by omega) (sh20 h6) rfl (by omega) d_Wa_enter_121 ?_
          refine aw_mm (μ' := (enM Hf (rwD f s) (tnd f s) v μ (t + 1))) (by rw [enM, if_pos h91]) ?_
          refine aw_iinc (lst' := [_, _, _, _, _, _, _, some (aI (((t + 1 : Nat) : Int) - 40))]) d_Wa_enter_122 (Nat.le_of_ble_eq_true rfl) rfl (by unfold inR; omega) (by rw [show (t : Int) - 40 + 1 = ((t + 1 : Nat) : Int) - 40 by omega]; rfl) ?_
          refine aw_goto (tgt := 74) d_Wa_enter_125 rfl ?_
          exact ih (81 - (t + 1)) (by omega) (t + 1) rfl (by omega)
  refine aw_aload_n d_Wa_enter_0 rfl rfl ?_
  refine aw_getR fd_Wa_conditions lk_Wa_20 (by omega) rfl d_Wa_enter_1 (hR _ _) ?_
  refine aw_iload_n d_Wa_enter_4 rfl rfl ?_
  refine aw_ve (as := [_]) rfl cv_Wa_58 (by omega) rfl rfl d_Wa_enter_5 (Nat.le_of_ble_eq_true rfl) (d' := d - 1) (by omega) (m_Co_firstOf (by omega) hR hl) ?_
  refine aw_tv (v' := f) hf ?_
  refine aw_istore_n (lst' := [_, _, _, _, _, _, _, _]) d_Wa_enter_8 rfl (Nat.le_of_ble_eq_true rfl) rfl ?_
  refine aw_aload_n d_Wa_enter_9 rfl rfl ?_
  refine aw_getR fd_Wa_conditions lk_Wa_20 (by omega) rfl d_Wa_enter_10 (hR _ _) ?_
  refine aw_iload_n d_Wa_enter_13 rfl rfl ?_
  refine aw_ve (as := [_]) rfl cv_Wa_63 (by omega) rfl rfl d_Wa_enter_14 (Nat.le_of_ble_eq_true rfl) (d' := d - 1) (by omega) (m_Co_secondOf (by omega) hR hl) ?_
  refine aw_tv (v' := s) hs ?_
  refine aw_iconst d_Wa_enter_17 (in_c rfl) ?_
  refine aw_icmp_ne (tgt := 25) d_Wa_enter_18 rfl (fun h18 => ?_) (fun h18 => ?_)
  · refine aw_aload_n d_Wa_enter_25 rfl rfl ?_
    refine aw_getR fd_Wa_conditions lk_Wa_20 (by omega) rfl d_Wa_enter_26 (hR _ _) ?_
    refine aw_iload_n d_Wa_enter_29 rfl rfl ?_
    refine aw_ve (as := [_]) rfl cv_Wa_63 (by omega) rfl rfl d_Wa_enter_30 (Nat.le_of_ble_eq_true rfl) (d' := d - 1) (by omega) (m_Co_secondOf (by omega) hR hl) ?_
    refine aw_tv (v' := sc2 s) (by rw [hs]; unfold sc2; rw [if_neg h18]) ?_
    refine aw_istore (lst' := [_, _, _, _, _, _, _, _]) d_Wa_enter_33 (Nat.le_of_ble_eq_true rfl) rfl ?_
    refine aw_iload d_Wa_enter_35 rfl ?_
    refine aw_iload_n d_Wa_enter_37 rfl rfl ?_
    refine aw_icmp_ge (tgt := 45) d_Wa_enter_38 rfl (fun h38 => ?_) (fun h38 => ?_)
    · refine aw_iconst d_Wa_enter_45 (in_c rfl) ?_
      have htn : tnd f s = false := decide_eq_false (by omega)
      refine aw_tv (v' := bI (tnd f s)) (by rw [htn]; rfl) ?_
      refine aw_istore (lst' := [_, _, _, _, _, _, _, _]) d_Wa_enter_46 (Nat.le_of_ble_eq_true rfl) rfl ?_
      refine aw_iload d_Wa_enter_48 rfl ?_
      refine aw_if_eq (tgt := 62) d_Wa_enter_50 rfl (fun h50 => ?_) (fun h50 => absurd (by rw [htn]; rfl) h50)
      refine aw_iload_n d_Wa_enter_62 rfl rfl ?_
      refine aw_tv (v' := ((f.toNat : Nat) : Int)) (by omega) ?_
      refine aw_iload d_Wa_enter_63 rfl ?_
      refine aw_tv (v' := (((sc2 s).toNat : Nat) : Int)) (by omega) ?_
      refine aw_se (as := [_, _]) rfl cs_Wa_66 d_Wa_enter_65 (Nat.le_of_ble_eq_true rfl) (d' := d - 1) (by omega) (m_Wa_rowOf (by omega) (by omega) (by omega)) ?_
      refine aw_tv (v' := ((rwD f s : Nat) : Int)) (by unfold rwD; rw [htn]; rfl) ?_
      refine aw_istore (lst' := [_, _, _, _, _, _, _, _]) d_Wa_enter_68 (Nat.le_of_ble_eq_true rfl) rfl ?_
      refine aw_bipush (z := (-40)) d_Wa_enter_70 (in_c rfl) rfl ?_
      refine aw_istore (lst' := [_, _, _, _, _, _, _, _]) d_Wa_enter_72 (Nat.le_of_ble_eq_true rfl) rfl ?_
      exact key (81 - 0) 0 rfl (Nat.zero_le _)
    · refine aw_iconst d_Wa_enter_41 (in_c rfl) ?_
      have htn : tnd f s = true := decide_eq_true (by omega)
      refine aw_tv (v' := bI (tnd f s)) (by rw [htn]; rfl) ?_
      refine aw_goto (tgt := 46) d_Wa_enter_42 rfl ?_
      refine aw_istore (lst' := [_, _, _, _, _, _, _, _]) d_Wa_enter_46 (Nat.le_of_ble_eq_true rfl) rfl ?_
      refine aw_iload d_Wa_enter_48 rfl ?_
      refine aw_if_eq (tgt := 62) d_Wa_enter_50 rfl (fun h50 => absurd h50 (by rw [htn]; decide)) (fun h50 => ?_)
      refine aw_iload d_Wa_enter_53 rfl ?_
      refine aw_tv (v' := (((sc2 s).toNat : Nat) : Int)) (by omega) ?_
      refine aw_iload_n d_Wa_enter_55 rfl rfl ?_
      refine aw_tv (v' := ((f.toNat : Nat) : Int)) (by omega) ?_
      refine aw_se (as := [_, _]) rfl cs_Wa_66 d_Wa_enter_56 (Nat.le_of_ble_eq_true rfl) (d' := d - 1) (by omega) (m_Wa_rowOf (by omega) (by omega) (by omega)) ?_
      refine aw_tv (v' := ((rwD f s : Nat) : Int)) (by unfold rwD; rw [htn]; rfl) ?_
      refine aw_goto (tgt := 68) d_Wa_enter_59 rfl ?_
      refine aw_istore (lst' := [_, _, _, _, _, _, _, _]) d_Wa_enter_68 (Nat.le_of_ble_eq_true rfl) rfl ?_
      refine aw_bipush (z := (-40)) d_Wa_enter_70 (in_c rfl) rfl ?_
      refine aw_pc (pc' := 72) rfl ?_
      refine aw_istore (lst' := [_, _, _, _, _, _, _, _]) d_Wa_enter_72 (Nat.le_of_ble_eq_true rfl) rfl ?_
      exact key (81 - 0) 0 rfl (Nat.zero_le _)
  · refine aw_iconst d_Wa_enter_21 (in_c rfl) ?_
    refine aw_tv (v' := sc2 s) (by unfold sc2; rw [if_pos h18]) ?_
    refine aw_goto (tgt := 33) d_Wa_enter_22 rfl ?_
    refine aw_istore (lst' := [_, _, _, _, _, _, _, _]) d_Wa_enter_33 (Nat.le_of_ble_eq_true rfl) rfl ?_
    refine aw_iload d_Wa_enter_35 rfl ?_
    refine aw_iload_n d_Wa_enter_37 rfl rfl ?_
    refine aw_icmp_ge (tgt := 45) d_Wa_enter_38 rfl (fun h38 => ?_) (fun h38 => ?_)
    · refine aw_iconst d_Wa_enter_45 (in_c rfl) ?_
      have htn : tnd f s = false := decide_eq_false (by omega)
      refine aw_tv (v' := bI (tnd f s)) (by rw [htn]; rfl) ?_
      refine aw_istore (lst' := [_, _, _, _, _, _, _, _]) d_Wa_enter_46 (Nat.le_of_ble_eq_true rfl) rfl ?_
      refine aw_iload d_Wa_enter_48 rfl ?_
      refine aw_if_eq (tgt := 62) d_Wa_enter_50 rfl (fun h50 => ?_) (fun h50 => absurd (by rw [htn]; rfl) h50)
      refine aw_iload_n d_Wa_enter_62 rfl rfl ?_
      refine aw_tv (v' := ((f.toNat : Nat) : Int)) (by omega) ?_
      refine aw_iload d_Wa_enter_63 rfl ?_
      refine aw_tv (v' := (((sc2 s).toNat : Nat) : Int)) (by omega) ?_
      refine aw_se (as := [_, _]) rfl cs_Wa_66 d_Wa_enter_65 (Nat.le_of_ble_eq_true rfl) (d' := d - 1) (by omega) (m_Wa_rowOf (by omega) (by omega) (by omega)) ?_
      refine aw_tv (v' := ((rwD f s : Nat) : Int)) (by unfold rwD; rw [htn]; rfl) ?_
      refine aw_istore (lst' := [_, _, _, _, _, _, _, _]) d_Wa_enter_68 (Nat.le_of_ble_eq_true rfl) rfl ?_
      refine aw_bipush (z := (-40)) d_Wa_enter_70 (in_c rfl) rfl ?_
      refine aw_istore (lst' := [_, _, _, _, _, _, _, _]) d_Wa_enter_72 (Nat.le_of_ble_eq_true rfl) rfl ?_
      exact key (81 - 0) 0 rfl (Nat.zero_le _)
    · refine aw_iconst d_Wa_enter_41 (in_c rfl) ?_
      have htn : tnd f s = true := decide_eq_true (by omega)
      refine aw_tv (v' := bI (tnd f s)) (by rw [htn]; rfl) ?_
      refine aw_goto (tgt := 46) d_Wa_enter_42 rfl ?_
      refine aw_istore (lst' := [_, _, _, _, _, _, _, _]) d_Wa_enter_46 (Nat.le_of_ble_eq_true rfl) rfl ?_
      refine aw_iload d_Wa_enter_48 rfl ?_
      refine aw_if_eq (tgt := 62) d_Wa_enter_50 rfl (fun h50 => absurd h50 (by rw [htn]; decide)) (fun h50 => ?_)
      refine aw_iload d_Wa_enter_53 rfl ?_
      refine aw_tv (v' := (((sc2 s).toNat : Nat) : Int)) (by omega) ?_
      refine aw_iload_n d_Wa_enter_55 rfl rfl ?_
      refine aw_tv (v' := ((f.toNat : Nat) : Int)) (by omega) ?_
      refine aw_se (as := [_, _]) rfl cs_Wa_66 d_Wa_enter_56 (Nat.le_of_ble_eq_true rfl) (d' := d - 1) (by omega) (m_Wa_rowOf (by omega) (by omega) (by omega)) ?_
      refine aw_tv (v' := ((rwD f s : Nat) : Int)) (by unfold rwD; rw [htn]; rfl) ?_
      refine aw_goto (tgt := 68) d_Wa_enter_59 rfl ?_
      refine aw_istore (lst' := [_, _, _, _, _, _, _, _]) d_Wa_enter_68 (Nat.le_of_ble_eq_true rfl) rfl ?_
      refine aw_bipush (z := (-40)) d_Wa_enter_70 (in_c rfl) rfl ?_
      refine aw_pc (pc' := 72) rfl ?_
      refine aw_istore (lst' := [_, _, _, _, _, _, _, _]) d_Wa_enter_72 (Nat.le_of_ble_eq_true rfl) rfl ?_
      exact key (81 - 0) 0 rfl (Nat.zero_le _)
set_option maxRecDepth 100000 in
theorem m_Wa_fillBits {d : Nat} (hd : 2 ≤ d) {D : Nat} (hD : isD D) (hR : ∀ k j, mR μ k j = R0 pg k j) {k : Nat} (hk : mI μ D 7 = (k : Int)) (h6k : k ≤ 6) (hlt : ∀ j, j < k → 0 ≤ mI μ (D + 3) j ∧ mI μ (D + 3) j < 8) (hoi : ∀ j, j < k → okI (mI μ 6 (mI μ (D + 3) j).toNat) (mI μ 7 (mI μ (D + 3) j).toNat)) (hkd : ∀ j, j < k → 0 ≤ mI μ 5 (mI μ (D + 3) j).toNat)  : AM G false d 0 0 y_Wa_fillBits [aP 18, aP D] 94 μ (Qe none 94 (fbM (fun j => mI μ 6 (mI μ (D + 3) j).toNat) (fun j => mI μ 7 (mI μ (D + 3) j).toNat) (fun j δ => decide (hz (mI μ 5 (mI μ (D + 3) j).toNat) δ (mI μ 8 (mI μ (D + 3) j).toNat) = 1)) μ k)) := by
  refine am_of (n := 2) pf_Wa_fillBits (Nat.le_of_ble_eq_true rfl) (by intro v hv; simp only [List.mem_cons, List.not_mem_nil, or_false] at hv; rcases hv with rfl | rfl <;> first | trivial | assumption | exact in_c rfl | exact bI_in _ | (show inR _; unfold inR; omega)) rfl ?_
  have h26 := isD_26 hD
  have key2 : ∀ (m : Nat) (j : Nat) (o3 : Option aV), k - j = m → j ≤ k → AW G false y_Wa_fillBits d 0 0 (Qe none 94 (fbM (fun j => mI μ 6 (mI μ (D + 3) j).toNat) (fun j => mI μ 7 (mI μ (D + 3) j).toNat) (fun j δ => decide (hz (mI μ 5 (mI μ (D + 3) j).toNat) δ (mI μ 8 (mI μ (D + 3) j).toNat) = 1)) μ k)) 47 [some (aP 18), some (aP D), some (aI (j : Int)), o3] [] 94 (fbM (fun j => mI μ 6 (mI μ (D + 3) j).toNat) (fun j => mI μ 7 (mI μ (D + 3) j).toNat) (fun j δ => decide (hz (mI μ 5 (mI μ (D + 3) j).toNat) δ (mI μ 8 (mI μ (D + 3) j).toNat) = 1)) μ j) := by
    intro m
    induction m using Nat.strongRecOn with | _ m ih =>
    intro j o3 hm hj
    have hFr : FrB μ (fbM (fun j => mI μ 6 (mI μ (D + 3) j).toNat) (fun j => mI μ 7 (mI μ (D + 3) j).toNat) (fun j δ => decide (hz (mI μ 5 (mI μ (D + 3) j).toNat) δ (mI μ 8 (mI μ (D + 3) j).toNat) = 1)) μ j) := fbM_fr j (fun j' h' => hoi j' (by omega))
    have hRj : ∀ a b, mR (fbM (fun j => mI μ 6 (mI μ (D + 3) j).toNat) (fun j => mI μ 7 (mI μ (D + 3) j).toNat) (fun j δ => decide (hz (mI μ 5 (mI μ (D + 3) j).toNat) δ (mI μ 8 (mI μ (D + 3) j).toNat) = 1)) μ j) a b = R0 pg a b := fun a b => (hFr.2.2 a b).trans (hR a b)
    have hkj : mI (fbM (fun j => mI μ 6 (mI μ (D + 3) j).toNat) (fun j => mI μ 7 (mI μ (D + 3) j).toNat) (fun j δ => decide (hz (mI μ 5 (mI μ (D + 3) j).toNat) δ (mI μ 8 (mI μ (D + 3) j).toNat) = 1)) μ j) D 7 = (k : Int) := (hFr.1 _ _ (by omega)).trans hk
    refine aw_iload_n d_Wa_fillBits_47 rfl rfl ?_
    refine aw_aload_n d_Wa_fillBits_48 rfl rfl ?_
    refine aw_ve (as := []) rfl cv_Wa_47 (by have := ltD hD; omega) (shD0 hD) rfl d_Wa_fillBits_49 (Nat.le_of_ble_eq_true rfl) (d' := d - 1) (by omega) (m_De_size (by omega) hD) ?_
    refine aw_tv (v' := (k : Int)) hkj ?_
    refine aw_icmp_ge (tgt := 73) d_Wa_fillBits_52 rfl (fun h52 => ?_) (fun h52 => ?_)
    · exact aw_vret d_Wa_fillBits_73 rfl ⟨rfl, rfl, by rw [show j = k by omega]⟩
    · refine aw_aload_n d_Wa_fillBits_55 rfl rfl ?_
      refine aw_aload_n d_Wa_fillBits_56 rfl rfl ?_
      refine aw_iload_n d_Wa_fillBits_57 rfl rfl ?_
      refine aw_ve (as := [_]) rfl cv_Wa_51 (by have := ltD hD; omega) (shD0 hD) rfl d_Wa_fillBits_58 (Nat.le_of_ble_eq_true rfl) (d' := d - 1) (by omega) (m_De_letterOf (μ := (fbM (fun j => mI μ 6 (mI μ (D + 3) j).toNat) (fun j => mI μ 7 (mI μ (D + 3) j).toNat) (fun j δ => decide (hz (mI μ 5 (mI μ (D + 3) j).toNat) δ (mI μ 8 (mI μ (D + 3) j).toNat) = 1)) μ j)) (by omega) hD hRj (by omega)) ?_
      have hl9 := hlt j (by omega)
      refine aw_tv (v' := (((mI μ (D + 3) j).toNat : Nat) : Int)) (by rw [hFr.1 _ _ (by omega)]; omega) ?_
      refine aw_iconst d_Wa_fillBits_61 (in_c rfl) ?_
      refine aw_iload_n d_Wa_fillBits_62 rfl rfl ?_
      have hpj := Nat.pow_le_pow_right (n := 2) (by omega) (show j ≤ 5 by omega)
      refine aw_ishl (a := 1) (k0 := j) rfl rfl (by omega) (by omega) d_Wa_fillBits_63 ?_
      refine aw_tv (v' := ((2 ^ j : Nat) : Int)) (by rw [Nat.one_mul]) ?_
      refine aw_ve (as := [_, _]) rfl cv_Wa_54 (by omega) rfl rfl d_Wa_fillBits_64 (Nat.le_of_ble_eq_true rfl) (d' := d - 1) (by omega) (m_Wa_enter (μ := (fbM (fun j => mI μ 6 (mI μ (D + 3) j).toNat) (fun j => mI μ 7 (mI μ (D + 3) j).toNat) (fun j δ => decide (hz (mI μ 5 (mI μ (D + 3) j).toNat) δ (mI μ 8 (mI μ (D + 3) j).toNat) = 1)) μ j)) (l := (mI μ (D + 3) j).toNat) (v := 2 ^ j) (f := mI μ 6 (mI μ (D + 3) j).toNat) (s := mI μ 7 (mI μ (D + 3) j).toNat) (Hf := (fun j δ => decide (hz (mI μ 5 (mI μ (D + 3) j).toNat) δ (mI μ 8 (mI μ (D + 3) j).toNat) = 1)) j) (by omega) hRj (by omega) (by omega) (hFr.1 _ _ (by omega)) (hFr.1 _ _ (by omega)) (hoi j (by omega)) (by rw [hFr.1 _ _ (by omega)]; exact hkd j (by omega)) (fun δ => by rw [hFr.1 _ _ (by omega), hFr.1 _ _ (by omega)]) (fun b hb => by rw [fbM_has j (fun j' h' => hoi j' (by omega)) _ (rwD_6 (hoi j (by omega))) b hb]; omega)) ?_
      refine aw_mm (μ' := (fbM (fun j => mI μ 6 (mI μ (D + 3) j).toNat) (fun j => mI μ 7 (mI μ (D + 3) j).toNat) (fun j δ => decide (hz (mI μ 5 (mI μ (D + 3) j).toNat) δ (mI μ 8 (mI μ (D + 3) j).toNat) = 1)) μ (j + 1))) rfl ?_
      refine aw_iinc (lst' := [_, _, some (aI (((j + 1 : Nat) : Int))), _]) d_Wa_fillBits_67 (Nat.le_of_ble_eq_true rfl) rfl (by unfold inR; omega) rfl ?_
      refine aw_goto (tgt := 47) d_Wa_fillBits_70 rfl ?_
      exact ih (k - (j + 1)) (by omega) (j + 1) _ rfl (by omega)
  have key : ∀ (m : Nat) (r : Nat) (o3 : Option aV), 6 - r = m → r ≤ 6 → AW G false y_Wa_fillBits d 0 0 (Qe none 94 (fbM (fun j => mI μ 6 (mI μ (D + 3) j).toNat) (fun j => mI μ 7 (mI μ (D + 3) j).toNat) (fun j δ => decide (hz (mI μ 5 (mI μ (D + 3) j).toNat) δ (mI μ 8 (mI μ (D + 3) j).toNat) = 1)) μ k)) 2 [some (aP 18), some (aP D), some (aI (r : Int)), o3] [] 94 (zbM μ r) := by
    intro m
    induction m using Nat.strongRecOn with | _ m ih =>
    intro r o3 hm hr
    have hRr : ∀ a b, mR (zbM μ r) a b = R0 pg a b := fun a b => ((zbM_fr μ r hr).2.2 a b).trans (hR a b)
    have inn : ∀ (m2 : Nat) (e : Nat), 81 - e = m2 → (r < 6 ∧ e ≤ 81) → AW G false y_Wa_fillBits d 0 0 (Qe none 94 (fbM (fun j => mI μ 6 (mI μ (D + 3) j).toNat) (fun j => mI μ 7 (mI μ (D + 3) j).toNat) (fun j δ => decide (hz (mI μ 5 (mI μ (D + 3) j).toNat) δ (mI μ 8 (mI μ (D + 3) j).toNat) = 1)) μ k)) 13 [some (aP 18), some (aP D), some (aI (r : Int)), some (aI (e : Int))] [] 94 (zrM (zbM μ r) r e) := by
      intro m2
      induction m2 using Nat.strongRecOn with | _ m2 ih2 =>
      intro e hm2 he
      have hRe : ∀ a b, mR (zrM (zbM μ r) r e) a b = R0 pg a b := fun a b => ((zrM_fr (zbM μ r) he.1 e).2.2 a b).trans (hRr a b)
      refine aw_iload_n d_Wa_fillBits_13 rfl rfl ?_
      refine aw_aload_n d_Wa_fillBits_14 rfl rfl ?_
      refine aw_getR fd_Wa_bits lk_Wa_13 (by omega) rfl d_Wa_fillBits_15 (hRe _ _) ?_
      refine aw_iload_n d_Wa_fillBits_18 rfl rfl ?_
      refine aw_aald5 (n := r) (by omega) rfl rfl he.1 ((hRe _ _).trans (r19 he.1)) d_Wa_fillBits_19 ?_
      refine aw_alen (by omega) (sh20 he.1) (by decide) rfl d_Wa_fillBits_20 (in_c rfl) ?_
      refine aw_icmp_ge (tgt := 39) d_Wa_fillBits_21 rfl (fun h21 => ?_) (fun h21 => ?_)
      · refine aw_iinc (lst' := [_, _, some (aI (((r + 1 : Nat) : Int))), _]) d_Wa_fillBits_39 (Nat.le_of_ble_eq_true rfl) rfl (by unfold inR; omega) rfl ?_
        refine aw_goto (tgt := 2) d_Wa_fillBits_42 rfl ?_
        refine aw_mm (μ' := (zbM μ (r + 1))) (by rw [show e = 81 by omega]; rfl) ?_
        exact ih (6 - (r + 1)) (by omega) (r + 1) _ rfl (by omega)
      · refine aw_aload_n d_Wa_fillBits_24 rfl rfl ?_
        refine aw_getR fd_Wa_bits lk_Wa_13 (by omega) rfl d_Wa_fillBits_25 (hRe _ _) ?_
        refine aw_iload_n d_Wa_fillBits_28 rfl rfl ?_
        refine aw_aald5 (n := r) (by omega) rfl rfl he.1 ((hRe _ _).trans (r19 he.1)) d_Wa_fillBits_29 ?_
        refine aw_iload_n d_Wa_fillBits_30 rfl rfl ?_
        refine aw_iconst d_Wa_fillBits_31 (in_c rfl) ?_
        refine aw_iast (n := e) (by omega) (sh20 he.1) rfl (by omega) d_Wa_fillBits_32 ?_
        refine aw_mm (μ' := (zrM (zbM μ r) r (e + 1))) rfl ?_
        refine aw_iinc (lst' := [_, _, _, some (aI (((e + 1 : Nat) : Int)))]) d_Wa_fillBits_33 (Nat.le_of_ble_eq_true rfl) rfl (by unfold inR; omega) rfl ?_
        refine aw_goto (tgt := 13) d_Wa_fillBits_36 rfl ?_
        exact ih2 (81 - (e + 1)) (by omega) (e + 1) rfl ⟨he.1, by omega⟩
    refine aw_iload_n d_Wa_fillBits_2 rfl rfl ?_
    refine aw_aload_n d_Wa_fillBits_3 rfl rfl ?_
    refine aw_getR fd_Wa_bits lk_Wa_13 (by omega) rfl d_Wa_fillBits_4 (hRr _ _) ?_
    refine aw_alen (by omega) rfl (by decide) rfl d_Wa_fillBits_7 (in_c rfl) ?_
    refine aw_icmp_ge (tgt := 45) d_Wa_fillBits_8 rfl (fun h8 => ?_) (fun h8 => ?_)
    · refine aw_mm (μ' := (fbM (fun j => mI μ 6 (mI μ (D + 3) j).toNat) (fun j => mI μ 7 (mI μ (D + 3) j).toNat) (fun j δ => decide (hz (mI μ 5 (mI μ (D + 3) j).toNat) δ (mI μ 8 (mI μ (D + 3) j).toNat) = 1)) μ 0)) (by rw [fbM, show r = 6 by omega]) ?_
      refine aw_iconst d_Wa_fillBits_45 (in_c rfl) ?_
      refine aw_istore_n (lst' := [_, _, _, _]) d_Wa_fillBits_46 rfl (Nat.le_of_ble_eq_true rfl) rfl ?_
      exact key2 (k - 0) 0 _ rfl (Nat.zero_le _)
    · refine aw_iconst d_Wa_fillBits_11 (in_c rfl) ?_
      refine aw_istore_n (lst' := [_, _, _, _]) d_Wa_fillBits_12 rfl (Nat.le_of_ble_eq_true rfl) rfl ?_
      refine aw_mm (μ' := (zrM (zbM μ r) r 0)) rfl ?_
      exact inn (81 - 0) 0 rfl ⟨by omega, Nat.zero_le _⟩
  refine aw_iconst d_Wa_fillBits_0 (in_c rfl) ?_
  refine aw_istore_n (lst' := [_, _, _, _]) d_Wa_fillBits_1 rfl (Nat.le_of_ble_eq_true rfl) rfl ?_
  refine aw_mm (μ' := zbM μ 0) rfl ?_
  exact key (6 - 0) 0 none rfl (Nat.zero_le _)
set_option maxRecDepth 100000 in
theorem m_De_meet {d : Nat} (hd : 1 ≤ d) {D : Nat} (hD : isD D) (hR : ∀ k j, mR μ k j = R0 pg k j) {w : Nat} (hw : w < 64) {x y z : Int} (hx : inR x) (hy : inR y) (hz0 : inR z) : AM G false d 0 0 y_De_meet [aP D, aI (w : Int), aI x, aI y, aI z] 94 μ (Qe none 94 (meS D w x y z μ)) := by
  refine am_of (n := 1) pf_De_meet (Nat.le_of_ble_eq_true rfl) (by intro v hv; simp only [List.mem_cons, List.not_mem_nil, or_false] at hv; rcases hv with rfl | rfl | rfl | rfl | rfl <;> first | trivial | assumption | exact in_c rfl | exact bI_in _ | (show inR _; unfold inR; omega)) rfl ?_
  refine aw_aload_n d_De_meet_0 rfl rfl ?_
  refine aw_getL fd_De_feasibleWords lk_De_43 (by have := ltD hD; omega) (shD0 hD) d_De_meet_1 ?_
  refine aw_iload_n d_De_meet_4 rfl rfl ?_
  refine aw_se (as := [_, _]) rfl cs_De_93 d_De_meet_5 (Nat.le_of_ble_eq_true rfl) (d' := d - 1) (by omega) (m_MC_contains (by omega) hw) ?_
  refine aw_if_ne (tgt := 57) d_De_meet_8 rfl (fun h8 => ?_) (fun h8 => ?_)
  · replace h8 := ite_n h8
    exact aw_vret d_De_meet_57 rfl ⟨rfl, rfl, by unfold meS; rw [if_pos h8]⟩
  · replace h8 := ite_z h8
    refine aw_aload_n d_De_meet_11 rfl rfl ?_
    refine aw_dup d_De_meet_12 rfl ?_
    refine aw_getL fd_De_feasibleWords lk_De_43 (by have := ltD hD; omega) (shD0 hD) d_De_meet_13 ?_
    refine aw_lconst (b := 1) d_De_meet_16 rfl ?_
    refine aw_iload_n d_De_meet_17 rfl rfl ?_
    refine aw_lshl (k0 := w) rfl hw d_De_meet_18 ?_
    refine aw_lor d_De_meet_19 ?_
    refine aw_putL fd_De_feasibleWords lk_De_43 (by have := ltD hD; omega) (shD0 hD) d_De_meet_20 (Or.inl rfl) ?_
    refine aw_iload_n d_De_meet_23 rfl rfl ?_
    refine aw_iconst d_De_meet_24 (in_c rfl) ?_
    refine aw_imul d_De_meet_25 (by unfold inR; omega) ?_
    refine aw_pc (pc' := 26) rfl ?_
    refine aw_istore (lst' := [_, _, _, _, _, _]) d_De_meet_26 (Nat.le_of_ble_eq_true rfl) rfl ?_
    refine aw_aload_n d_De_meet_28 rfl rfl ?_
    refine aw_getR fd_De_vectors lk_De_32 (by have := ltD hD; omega) (shD0 hD) d_De_meet_29 ((hR _ _).trans (rD6 hD)) ?_
    refine aw_iload d_De_meet_32 rfl ?_
    refine aw_iload_n d_De_meet_34 rfl rfl ?_
    refine aw_iast (n := 3 * w) (by have := ltD hD; omega) (shD7 hD) (by omega) (by omega) d_De_meet_35 ?_
    refine aw_aload_n d_De_meet_36 rfl rfl ?_
    refine aw_getR fd_De_vectors lk_De_32 (by have := ltD hD; omega) (shD0 hD) d_De_meet_37 ((hR _ _).trans (rD6 hD)) ?_
    refine aw_iload d_De_meet_40 rfl ?_
    refine aw_iconst d_De_meet_42 (in_c rfl) ?_
    refine aw_iadd d_De_meet_43 (by unfold inR; omega) ?_
    refine aw_iload_n d_De_meet_44 rfl rfl ?_
    refine aw_pc (pc' := 45) rfl ?_
    refine aw_iast (n := 3 * w + 1) (by have := ltD hD; omega) (shD7 hD) (by omega) (by omega) d_De_meet_45 ?_
    refine aw_aload_n d_De_meet_46 rfl rfl ?_
    refine aw_getR fd_De_vectors lk_De_32 (by have := ltD hD; omega) (shD0 hD) d_De_meet_47 ((hR _ _).trans (rD6 hD)) ?_
    refine aw_iload d_De_meet_50 rfl ?_
    refine aw_iconst d_De_meet_52 (in_c rfl) ?_
    refine aw_iadd d_De_meet_53 (by unfold inR; omega) ?_
    refine aw_iload d_De_meet_54 rfl ?_
    refine aw_iast (n := 3 * w + 2) (by have := ltD hD; omega) (shD7 hD) (by omega) (by omega) d_De_meet_56 ?_
    exact aw_vret d_De_meet_57 rfl ⟨rfl, rfl, by unfold meS; rw [if_neg h8]⟩
end
