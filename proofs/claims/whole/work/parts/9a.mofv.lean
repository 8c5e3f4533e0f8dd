/-! the reference goes through all vectors -/
section
theorem fvS_hit {w : Nat} {x y z : Int} {m : aM} (h : ¬ mI m 80 w = 0) : fvS w x y z m = m := by unfold fvS; rw [if_pos h]
theorem fvS_new {w : Nat} {x y z : Int} {m : aM} (h : mI m 80 w = 0) : fvS w x y z m = wI (wI (wI (wI m 80 w 1) 81 (3 * w) x) 81 (3 * w + 1) y) 81 (3 * w + 2) z := by unfold fvS; rw [if_neg (fun q => q h)]
theorem oU_V {μ m : aM} (h : FrV μ m) (i j : Nat) : oU m i j = oU μ i j := by unfold oU; rw [h.1 _ _ (by omega) (by omega)]
theorem oHd_V {μ m : aM} (h : FrV μ m) (l : Nat) (x y z : Int) : oHd m l x y z = oHd μ l x y z := by
  unfold oHd; rw [h.1 70 l (by omega) (by omega), h.1 71 l (by omega) (by omega), h.1 72 l (by omega) (by omega), h.1 73 l (by omega) (by omega)]
theorem oWd_V {μ m : aM} (h : FrV μ m) (i k : Nat) (x y z : Int) : oWd m i k x y z = oWd μ i k x y z := by
  unfold oWd
  exact wb_ext k (fun j _ => by rw [oU_V h, oHd_V h])
theorem okM_V {μ m : aM} (h : FrV μ m) {l : Nat} {x y z : Int} (ho : okM μ l x y z) : okM m l x y z := by
  unfold okM at ho ⊢
  rw [h.1 70 l (by omega) (by omega), h.1 71 l (by omega) (by omega), h.1 72 l (by omega) (by omega)]
  exact ho
variable {G : aG} {pg : Nat} {μ : aM}
set_option maxRecDepth 100000 in
theorem m_Mo_findVectors {d : Nat} (hd : 2 ≤ d) (hR : ∀ k j, mR μ k j = R0 pg k j) {i : Nat} (h4 : i < 4) {k : Nat} (hk : mI μ 78 i = (k : Int)) (h6 : k ≤ 6) (hu : ∀ j, j < 6 → 0 ≤ mI μ 79 (6 * i + j) ∧ mI μ 79 (6 * i + j) < 8) {lx hxx ly hy lz hzz : Int} (e1 : mI μ 68 0 = lx) (e2 : mI μ 69 0 = hxx) (e3 : (if 1 < mI μ 67 1 then mI μ 68 1 else 0) = ly) (e4 : (if 1 < mI μ 67 1 then mI μ 69 1 else 0) = hy) (e5 : (if 2 < mI μ 67 1 then mI μ 68 2 else 0) = lz) (e6 : (if 2 < mI μ 67 1 then mI μ 69 2 else 0) = hzz) (g1 : -20 ≤ lx ∧ lx ≤ hxx ∧ hxx ≤ 20) (g2 : -20 ≤ ly ∧ ly ≤ hy ∧ hy ≤ 20) (g3 : -20 ≤ lz ∧ lz ≤ hzz ∧ hzz ≤ 20) (hok : ∀ x y z : Int, (-20 ≤ x ∧ x ≤ 20) → (-20 ≤ y ∧ y ≤ 20) → (-20 ≤ z ∧ z ≤ 20) → ∀ j, j < k → okM μ (oU μ i j) x y z)  : AM G false d 0 0 y_Mo_findVectors [aP 67, aI (i : Int)] 94 μ (Qe none 94 (fvX (oWd μ i k) i lx (ln lx hxx) ly (ln ly hy) lz (ln lz hzz) μ)) := by
  refine am_of (n := 4) pf_Mo_findVectors (Nat.le_of_ble_eq_true rfl) (by intro v hv; simp only [List.mem_cons, List.not_mem_nil, or_false] at hv; rcases hv with rfl | rfl <;> first | trivial | assumption | exact in_c rfl | exact bI_in _ | (show inR _; unfold inR; omega)) rfl ?_
  have key : ∀ (m : Nat) (a : Nat) (o3 o4 o5 : Option aV), ln lx hxx - a = m → a ≤ ln lx hxx → AW G false y_Mo_findVectors d 0 0 (Qe none 94 (fvX (oWd μ i k) i lx (ln lx hxx) ly (ln ly hy) lz (ln lz hzz) μ)) 7 [some (aP 67), some (aI (i : Int)), some (aI (lx + (a : Int))), o3, o4, o5] [] 94 (itr (fun x => fvY (oWd μ i k) i ly (ln ly hy) lz (ln lz hzz) x) lx a μ) := by
    intro m
    induction m using Nat.strongRecOn with | _ m ih =>
    intro a o3 o4 o5 hm ha
    have hFx : FrV μ (itr (fun x => fvY (oWd μ i k) i ly (ln ly hy) lz (ln lz hzz) x) lx a μ) := FrV_it (FrV.refl _) (fun v m => FrV_it (FrV.refl m) (fun v' m' => FrV_it (FrV.refl m') (fun v'' m'' => FrV_fv _ _ _ _ m'') _) _) _
    have hRx : ∀ a' b', mR (itr (fun x => fvY (oWd μ i k) i ly (ln ly hy) lz (ln lz hzz) x) lx a μ) a' b' = R0 pg a' b' := fun a' b' => (hFx.2.2 a' b').trans (hR a' b')
    have hnx : mI (itr (fun x => fvY (oWd μ i k) i ly (ln ly hy) lz (ln lz hzz) x) lx a μ) 67 1 = mI μ 67 1 := hFx.1 _ _ (by omega) (by omega)
    have hlx : ∀ j', mI (itr (fun x => fvY (oWd μ i k) i ly (ln ly hy) lz (ln lz hzz) x) lx a μ) 68 j' = mI μ 68 j' := fun j' => hFx.1 _ _ (by omega) (by omega)
    have hhx : ∀ j', mI (itr (fun x => fvY (oWd μ i k) i ly (ln ly hy) lz (ln lz hzz) x) lx a μ) 69 j' = mI μ 69 j' := fun j' => hFx.1 _ _ (by omega) (by omega)
    have mid : ∀ (m2 : Nat) (b : Nat) (o4 o5 : Option aV), ln ly hy - b = m2 → ((lx + (a : Int)) ≤ hxx ∧ b ≤ ln ly hy) → AW G false y_Mo_findVectors d 0 0 (Qe none 94 (fvX (oWd μ i k) i lx (ln lx hxx) ly (ln ly hy) lz (ln lz hzz) μ)) 36 [some (aP 67), some (aI (i : Int)), some (aI (lx + (a : Int))), some (aI (ly + (b : Int))), o4, o5] [] 94 (itr (fun y => fvZ (oWd μ i k) i lz (ln lz hzz) (lx + (a : Int)) y) ly b (itr (fun x => fvY (oWd μ i k) i ly (ln ly hy) lz (ln lz hzz) x) lx a μ)) := by
      intro m2
      induction m2 using Nat.strongRecOn with | _ m2 ih2 =>
      intro b o4 o5 hm2 hb
      have hFy : FrV μ (itr (fun y => fvZ (oWd μ i k) i lz (ln lz hzz) (lx + (a : Int)) y) ly b (itr (fun x => fvY (oWd μ i k) i ly (ln ly hy) lz (ln lz hzz) x) lx a μ)) := FrV_it hFx (fun v' m' => FrV_it (FrV.refl m') (fun v'' m'' => FrV_fv _ _ _ _ m'') _) _
      have hRy : ∀ a' b', mR (itr (fun y => fvZ (oWd μ i k) i lz (ln lz hzz) (lx + (a : Int)) y) ly b (itr (fun x => fvY (oWd μ i k) i ly (ln ly hy) lz (ln lz hzz) x) lx a μ)) a' b' = R0 pg a' b' := fun a' b' => (hFy.2.2 a' b').trans (hR a' b')
      have hny : mI (itr (fun y => fvZ (oWd μ i k) i lz (ln lz hzz) (lx + (a : Int)) y) ly b (itr (fun x => fvY (oWd μ i k) i ly (ln ly hy) lz (ln lz hzz) x) lx a μ)) 67 1 = mI μ 67 1 := hFy.1 _ _ (by omega) (by omega)
      have hly : ∀ j', mI (itr (fun y => fvZ (oWd μ i k) i lz (ln lz hzz) (lx + (a : Int)) y) ly b (itr (fun x => fvY (oWd μ i k) i ly (ln ly hy) lz (ln lz hzz) x) lx a μ)) 68 j' = mI μ 68 j' := fun j' => hFy.1 _ _ (by omega) (by omega)
      have hhy : ∀ j', mI (itr (fun y => fvZ (oWd μ i k) i lz (ln lz hzz) (lx + (a : Int)) y) ly b (itr (fun x => fvY (oWd μ i k) i ly (ln ly hy) lz (ln lz hzz) x) lx a μ)) 69 j' = mI μ 69 j' := fun j' => hFy.1 _ _ (by omega) (by omega)
      have inn : ∀ (m3 : Nat) (c : Nat) (o5 : Option aV), ln lz hzz - c = m3 → ((ly + (b : Int)) ≤ hy ∧ c ≤ ln lz hzz) → AW G false y_Mo_findVectors d 0 0 (Qe none 94 (fvX (oWd μ i k) i lx (ln lx hxx) ly (ln ly hy) lz (ln lz hzz) μ)) 78 [some (aP 67), some (aI (i : Int)), some (aI (lx + (a : Int))), some (aI (ly + (b : Int))), some (aI (lz + (c : Int))), o5] [] 94 (itr (fun z => fvS (64 * i + oWd μ i k (lx + (a : Int)) (ly + (b : Int)) z) (lx + (a : Int)) (ly + (b : Int)) z) lz c (itr (fun y => fvZ (oWd μ i k) i lz (ln lz hzz) (lx + (a : Int)) y) ly b (itr (fun x => fvY (oWd μ i k) i ly (ln ly hy) lz (ln lz hzz) x) lx a μ))) := by
        intro m3
        induction m3 using Nat.strongRecOn with | _ m3 ih3 =>
        intro c o5 hm3 hc
        have hFz : FrV μ (itr (fun z => fvS (64 * i + oWd μ i k (lx + (a : Int)) (ly + (b : Int)) z) (lx + (a : Int)) (ly + (b : Int)) z) lz c (itr (fun y => fvZ (oWd μ i k) i lz (ln lz hzz) (lx + (a : Int)) y) ly b (itr (fun x => fvY (oWd μ i k) i ly (ln ly hy) lz (ln lz hzz) x) lx a μ))) := FrV_it hFy (fun v'' m'' => FrV_fv _ _ _ _ m'') _
        have hRz : ∀ a' b', mR (itr (fun z => fvS (64 * i + oWd μ i k (lx + (a : Int)) (ly + (b : Int)) z) (lx + (a : Int)) (ly + (b : Int)) z) lz c (itr (fun y => fvZ (oWd μ i k) i lz (ln lz hzz) (lx + (a : Int)) y) ly b (itr (fun x => fvY (oWd μ i k) i ly (ln ly hy) lz (ln lz hzz) x) lx a μ))) a' b' = R0 pg a' b' := fun a' b' => (hFz.2.2 a' b').trans (hR a' b')
        have hnz : mI (itr (fun z => fvS (64 * i + oWd μ i k (lx + (a : Int)) (ly + (b : Int)) z) (lx + (a : Int)) (ly + (b : Int)) z) lz c (itr (fun y => fvZ (oWd μ i k) i lz (ln lz hzz) (lx + (a : Int)) y) ly b (itr (fun x => fvY (oWd μ i k) i ly (ln ly hy) lz (ln lz hzz) x) lx a μ))) 67 1 = mI μ 67 1 := hFz.1 _ _ (by omega) (by omega)
        have hlz : ∀ j', mI (itr (fun z => fvS (64 * i + oWd μ i k (lx + (a : Int)) (ly + (b : Int)) z) (lx + (a : Int)) (ly + (b : Int)) z) lz c (itr (fun y => fvZ (oWd μ i k) i lz (ln lz hzz) (lx + (a : Int)) y) ly b (itr (fun x => fvY (oWd μ i k) i ly (ln ly hy) lz (ln lz hzz) x) lx a μ))) 68 j' = mI μ 68 j' := fun j' => hFz.1 _ _ (by omega) (by omega)
        have hhz : ∀ j', mI (itr (fun z => fvS (64 * i + oWd μ i k (lx + (a : Int)) (ly + (b : Int)) z) (lx + (a : Int)) (ly + (b : Int)) z) lz c (itr (fun y => fvZ (oWd μ i k) i lz (ln lz hzz) (lx + (a : Int)) y) ly b (itr (fun x => fvY (oWd μ i k) i ly (ln ly hy) lz (ln lz hzz) x) lx a μ))) 69 j' = mI μ 69 j' := fun j' => hFz.1 _ _ (by omega) (by omega)
        have hkz : mI (itr (fun z => fvS (64 * i + oWd μ i k (lx + (a : Int)) (ly + (b : Int)) z) (lx + (a : Int)) (ly + (b : Int)) z) lz c (itr (fun y => fvZ (oWd μ i k) i lz (ln lz hzz) (lx + (a : Int)) y) ly b (itr (fun x => fvY (oWd μ i k) i ly (ln ly hy) lz (ln lz hzz) x) lx a μ))) 78 i = (k : Int) := (hFz.1 _ _ (by omega) (by omega)).trans hk
        have huz : ∀ j', j' < 6 → 0 ≤ mI (itr (fun z => fvS (64 * i + oWd μ i k (lx + (a : Int)) (ly + (b : Int)) z) (lx + (a : Int)) (ly + (b : Int)) z) lz c (itr (fun y => fvZ (oWd μ i k) i lz (ln lz hzz) (lx + (a : Int)) y) ly b (itr (fun x => fvY (oWd μ i k) i ly (ln ly hy) lz (ln lz hzz) x) lx a μ))) 79 (6 * i + j') ∧ mI (itr (fun z => fvS (64 * i + oWd μ i k (lx + (a : Int)) (ly + (b : Int)) z) (lx + (a : Int)) (ly + (b : Int)) z) lz c (itr (fun y => fvZ (oWd μ i k) i lz (ln lz hzz) (lx + (a : Int)) y) ly b (itr (fun x => fvY (oWd μ i k) i ly (ln ly hy) lz (ln lz hzz) x) lx a μ))) 79 (6 * i + j') < 8 := fun j' z => by rw [hFz.1 _ _ (by omega) (by omega)]; exact hu j' z
        have hw64 : (oWd μ i k (lx + (a : Int)) (ly + (b : Int)) (lz + (c : Int))) < 64 := Nat.lt_of_lt_of_le (wb_lt _ k) (Nat.pow_le_pow_right (n := 2) (by omega) h6)
        refine aw_iload d_Mo_findVectors_78 rfl ?_
        refine aw_aload_n d_Mo_findVectors_80 rfl rfl ?_
        refine aw_getI fd_Mo_inputs lk_Mo_90 (by omega) rfl d_Mo_findVectors_81 ?_
        refine aw_tv (v' := mI μ 67 1) hnz ?_
        refine aw_iconst d_Mo_findVectors_84 (in_c rfl) ?_
        refine aw_icmp_le (tgt := 97) d_Mo_findVectors_85 rfl (fun h85 => ?_) (fun h85 => ?_)
        · refine aw_iconst d_Mo_findVectors_97 (in_c rfl) ?_
          refine aw_tv (v' := hzz) (by have := e6; rw [if_neg (by omega)] at this; omega) ?_
          refine aw_icmp_gt (tgt := 176) d_Mo_findVectors_98 rfl (fun h98 => ?_) (fun h98 => ?_)
          · refine aw_iinc (lst' := [_, _, _, some (aI (ly + ((b + 1 : Nat) : Int))), _, _]) d_Mo_findVectors_176 (Nat.le_of_ble_eq_true rfl) rfl (by unfold inR; omega) (by rw [show ly + (b : Int) + 1 = ly + ((b + 1 : Nat) : Int) by omega]; rfl) ?_
            refine aw_goto (tgt := 36) d_Mo_findVectors_179 rfl ?_
            refine aw_mm (μ' := (itr (fun y => fvZ (oWd μ i k) i lz (ln lz hzz) (lx + (a : Int)) y) ly (b + 1) (itr (fun x => fvY (oWd μ i k) i ly (ln ly hy) lz (ln lz hzz) x) lx a μ))) (by rw [show c = ln lz hzz by unfold ln at hc ⊢; omega]; rfl) ?_
            exact ih2 (ln ly hy - (b + 1)) (by unfold ln at hm2 ⊢; omega) (b + 1) _ _ rfl ⟨hb.1, by unfold ln; omega⟩
          · refine aw_bipush (z := 64) d_Mo_findVectors_101 (in_c rfl) rfl ?_
            refine aw_iload_n d_Mo_findVectors_103 rfl rfl ?_
            refine aw_imul d_Mo_findVectors_104 (by unfold inR; omega) ?_
            refine aw_aload_n d_Mo_findVectors_105 rfl rfl ?_
            refine aw_iload_n d_Mo_findVectors_106 rfl rfl ?_
            refine aw_iload_n d_Mo_findVectors_107 rfl rfl ?_
            refine aw_iload_n d_Mo_findVectors_108 rfl rfl ?_
            refine aw_iload d_Mo_findVectors_109 rfl ?_
            refine aw_ve (as := [_, _, _, _]) rfl cv_Mo_142 (by omega) rfl rfl d_Mo_findVectors_111 (Nat.le_of_ble_eq_true rfl) (d' := d - 1) (by omega) (m_Mo_wordOf (μ := (itr (fun z => fvS (64 * i + oWd μ i k (lx + (a : Int)) (ly + (b : Int)) z) (lx + (a : Int)) (ly + (b : Int)) z) lz c (itr (fun y => fvZ (oWd μ i k) i lz (ln lz hzz) (lx + (a : Int)) y) ly b (itr (fun x => fvY (oWd μ i k) i ly (ln ly hy) lz (ln lz hzz) x) lx a μ)))) (i := i) (k := k) (by omega) hRz h4 hkz h6 (by unfold inR; omega) (by unfold inR; omega) (by unfold inR; omega) huz (fun j' hj' => by rw [oU_V hFz]; exact okM_V hFz (hok _ _ _ (by omega) (by omega) (by omega) j' hj'))) ?_
            refine aw_tv (v' := (((oWd μ i k (lx + (a : Int)) (ly + (b : Int)) (lz + (c : Int))) : Nat) : Int)) (by rw [oWd_V hFz]) ?_
            refine aw_iadd d_Mo_findVectors_114 (by unfold inR; omega) ?_
            refine aw_tv (v' := ((64 * i + (oWd μ i k (lx + (a : Int)) (ly + (b : Int)) (lz + (c : Int))) : Nat) : Int)) (by omega) ?_
            refine aw_istore (lst' := [_, _, _, _, _, _]) d_Mo_findVectors_115 (Nat.le_of_ble_eq_true rfl) rfl ?_
            refine aw_pc (pc' := 117) rfl ?_
            refine aw_aload_n d_Mo_findVectors_117 rfl rfl ?_
            refine aw_getR fd_Mo_can lk_Mo_47 (by omega) rfl d_Mo_findVectors_118 (hRz _ _) ?_
            refine aw_iload d_Mo_findVectors_121 rfl ?_
            refine aw_zald (n := 64 * i + (oWd μ i k (lx + (a : Int)) (ly + (b : Int)) (lz + (c : Int)))) (by omega) rfl rfl (by omega) d_Mo_findVectors_123 ?_
            refine aw_if_ne (tgt := 170) d_Mo_findVectors_124 rfl (fun h124 => ?_) (fun h124 => ?_)
            · refine aw_mm (μ' := (itr (fun z => fvS (64 * i + oWd μ i k (lx + (a : Int)) (ly + (b : Int)) z) (lx + (a : Int)) (ly + (b : Int)) z) lz (c + 1) (itr (fun y => fvZ (oWd μ i k) i lz (ln lz hzz) (lx + (a : Int)) y) ly b (itr (fun x => fvY (oWd μ i k) i ly (ln ly hy) lz (ln lz hzz) x) lx a μ)))) ((fvS_hit h124).symm) ?_
              refine aw_iinc (lst' := [_, _, _, _, some (aI (lz + ((c + 1 : Nat) : Int))), _]) d_Mo_findVectors_170 (Nat.le_of_ble_eq_true rfl) rfl (by unfold inR; omega) (by rw [show lz + (c : Int) + 1 = lz + ((c + 1 : Nat) : Int) by omega]; rfl) ?_
              refine aw_goto (tgt := 78) d_Mo_findVectors_173 rfl ?_
              exact ih3 (ln lz hzz - (c + 1)) (by unfold ln at hm3 ⊢; omega) (c + 1) _ rfl ⟨hc.1, by unfold ln; omega⟩
            · refine aw_aload_n d_Mo_findVectors_127 rfl rfl ?_
              refine aw_getR fd_Mo_can lk_Mo_47 (by omega) rfl d_Mo_findVectors_128 (hRz _ _) ?_
              refine aw_iload d_Mo_findVectors_131 rfl ?_
              refine aw_iconst d_Mo_findVectors_133 (in_c rfl) ?_
              refine aw_zast (n := 64 * i + (oWd μ i k (lx + (a : Int)) (ly + (b : Int)) (lz + (c : Int)))) (by omega) rfl rfl (by omega) (by omega) d_Mo_findVectors_134 ?_
              refine aw_aload_n d_Mo_findVectors_135 rfl rfl ?_
              refine aw_getR fd_Mo_vectors lk_Mo_50 (by omega) rfl d_Mo_findVectors_136 (hRz _ _) ?_
              refine aw_iconst d_Mo_findVectors_139 (in_c rfl) ?_
              refine aw_iload d_Mo_findVectors_140 rfl ?_
              refine aw_imul d_Mo_findVectors_142 (by unfold inR; omega) ?_
              refine aw_iload_n d_Mo_findVectors_143 rfl rfl ?_
              refine aw_pc (pc' := 144) rfl ?_
              refine aw_iast (n := 3 * (64 * i + (oWd μ i k (lx + (a : Int)) (ly + (b : Int)) (lz + (c : Int))))) (by omega) rfl (by omega) (by omega) d_Mo_findVectors_144 ?_
              refine aw_aload_n d_Mo_findVectors_145 rfl rfl ?_
              refine aw_getR fd_Mo_vectors lk_Mo_50 (by omega) rfl d_Mo_findVectors_146 (hRz _ _) ?_
              refine aw_iconst d_Mo_findVectors_149 (in_c rfl) ?_
              refine aw_iload d_Mo_findVectors_150 rfl ?_
              refine aw_imul d_Mo_findVectors_152 (by unfold inR; omega) ?_
              refine aw_iconst d_Mo_findVectors_153 (in_c rfl) ?_
              refine aw_iadd d_Mo_findVectors_154 (by unfold inR; omega) ?_
              refine aw_iload_n d_Mo_findVectors_155 rfl rfl ?_
              refine aw_iast (n := 3 * (64 * i + (oWd μ i k (lx + (a : Int)) (ly + (b : Int)) (lz + (c : Int)))) + 1) (by omega) rfl (by omega) (by omega) d_Mo_findVectors_156 ?_
              refine aw_aload_n d_Mo_findVectors_157 rfl rfl ?_
              refine aw_getR fd_Mo_vectors lk_Mo_50 (by omega) rfl d_Mo_findVectors_158 (hRz _ _) ?_
              refine aw_pc (pc' := 161) rfl ?_
              refine aw_iconst d_Mo_findVectors_161 (in_c rfl) ?_
              refine aw_iload d_Mo_findVectors_162 rfl ?_
              refine aw_imul d_Mo_findVectors_164 (by unfold inR; omega) ?_
              refine aw_iconst d_Mo_findVectors_165 (in_c rfl) ?_
              refine aw_iadd d_Mo_findVectors_166 (by unfold inR; omega) ?_
              refine aw_iload d_Mo_findVectors_167 rfl ?_
              refine aw_iast (n := 3 * (64 * i + (oWd μ i k (lx + (a : Int)) (ly + (b : Int)) (lz + (c : Int)))) + 2) (by omega) rfl (by omega) (by omega) d_Mo_findVectors_169 ?_
              refine aw_mm (μ' := (itr (fun z => fvS (64 * i + oWd μ i k (lx + (a : Int)) (ly + (b : Int)) z) (lx + (a : Int)) (ly + (b : Int)) z) lz (c + 1) (itr (fun y => fvZ (oWd μ i k) i lz (ln lz hzz) (lx + (a : Int)) y) ly b (itr (fun x => fvY (oWd μ i k) i ly (ln ly hy) lz (ln lz hzz) x) lx a μ)))) ((fvS_new h124).symm) ?_
              refine aw_iinc (lst' := [_, _, _, _, some (aI (lz + ((c + 1 : Nat) : Int))), _]) d_Mo_findVectors_170 (Nat.le_of_ble_eq_true rfl) rfl (by unfold inR; omega) (by rw [show lz + (c : Int) + 1 = lz + ((c + 1 : Nat) : Int) by omega]; rfl) ?_
              refine aw_goto (tgt := 78) d_Mo_findVectors_173 rfl ?_
              exact ih3 (ln lz hzz - (c + 1)) (by unfold ln at hm3 ⊢; omega) (c + 1) _ rfl ⟨hc.1, by unfold ln; omega⟩
        · refine aw_aload_n d_Mo_findVectors_88 rfl rfl ?_
          refine aw_getR fd_Mo_high lk_Mo_13 (by omega) rfl d_Mo_findVectors_89 (hRz _ _) ?_
          refine aw_iconst d_Mo_findVectors_92 (in_c rfl) ?_
          refine aw_iald (n := 2) (by omega) rfl rfl (by omega) d_Mo_findVectors_93 ?_
          refine aw_tv (v' := hzz) ((hhz 2).trans (by have := e6; rw [if_pos (by omega)] at this; omega)) ?_
          refine aw_goto (tgt := 98) d_Mo_findVectors_94 rfl ?_
          refine aw_icmp_gt (tgt := 176) d_Mo_findVectors_98 rfl (fun h98 => ?_) (fun h98 => ?_)
          · refine aw_iinc (lst' := [_, _, _, some (aI (ly + ((b + 1 : Nat) : Int))), _, _]) d_Mo_findVectors_176 (Nat.le_of_ble_eq_true rfl) rfl (by unfold inR; omega) (by rw [show ly + (b : Int) + 1 = ly + ((b + 1 : Nat) : Int) by omega]; rfl) ?_
            refine aw_goto (tgt := 36) d_Mo_findVectors_179 rfl ?_
            refine aw_mm (μ' := (itr (fun y => fvZ (oWd μ i k) i lz (ln lz hzz) (lx + (a : Int)) y) ly (b + 1) (itr (fun x => fvY (oWd μ i k) i ly (ln ly hy) lz (ln lz hzz) x) lx a μ))) (by rw [show c = ln lz hzz by unfold ln at hc ⊢; omega]; rfl) ?_
            exact ih2 (ln ly hy - (b + 1)) (by unfold ln at hm2 ⊢; omega) (b + 1) _ _ rfl ⟨hb.1, by unfold ln; omega⟩
          · refine aw_bipush (z := 64) d_Mo_findVectors_101 (in_c rfl) rfl ?_
            refine aw_iload_n d_Mo_findVectors_103 rfl rfl ?_
            refine aw_imul d_Mo_findVectors_104 (by unfold inR; omega) ?_
            refine aw_aload_n d_Mo_findVectors_105 rfl rfl ?_
            refine aw_iload_n d_Mo_findVectors_106 rfl rfl ?_
            refine aw_iload_n d_Mo_findVectors_107 rfl rfl ?_
            refine aw_iload_n d_Mo_findVectors_108 rfl rfl ?_
            refine aw_iload d_Mo_findVectors_109 rfl ?_
            refine aw_ve (as := [_, _, _, _]) rfl cv_Mo_142 (by omega) rfl rfl d_Mo_findVectors_111 (Nat.le_of_ble_eq_true rfl) (d' := d - 1) (by omega) (m_Mo_wordOf (μ := (itr (fun z => fvS (64 * i + oWd μ i k (lx + (a : Int)) (ly + (b : Int)) z) (lx + (a : Int)) (ly + (b : Int)) z) lz c (itr (fun y => fvZ (oWd μ i k) i lz (ln lz hzz) (lx + (a : Int)) y) ly b (itr (fun x => fvY (oWd μ i k) i ly (ln ly hy) lz (ln lz hzz) x) lx a μ)))) (i := i) (k := k) (by omega) hRz h4 hkz h6 (by unfold inR; omega) (by unfold inR; omega) (by unfold inR; omega) huz (fun j' hj' => by rw [oU_V hFz]; exact okM_V hFz (hok _ _ _ (by omega) (by omega) (by omega) j' hj'))) ?_
            refine aw_tv (v' := (((oWd μ i k (lx + (a : Int)) (ly + (b : Int)) (lz + (c : Int))) : Nat) : Int)) (by rw [oWd_V hFz]) ?_
            refine aw_iadd d_Mo_findVectors_114 (by unfold inR; omega) ?_
            refine aw_tv (v' := ((64 * i + (oWd μ i k (lx + (a : Int)) (ly + (b : Int)) (lz + (c : Int))) : Nat) : Int)) (by omega) ?_
            refine aw_istore (lst' := [_, _, _, _, _, _]) d_Mo_findVectors_115 (Nat.le_of_ble_eq_true rfl) rfl ?_
            refine aw_pc (pc' := 117) rfl ?_
            refine aw_aload_n d_Mo_findVectors_117 rfl rfl ?_
            refine aw_getR fd_Mo_can lk_Mo_47 (by omega) rfl d_Mo_findVectors_118 (hRz _ _) ?_
            refine aw_iload d_Mo_findVectors_121 rfl ?_
            refine aw_zald (n := 64 * i + (oWd μ i k (lx + (a : Int)) (ly + (b : Int)) (lz + (c : Int)))) (by omega) rfl rfl (by omega) d_Mo_findVectors_123 ?_
            refine aw_if_ne (tgt := 170) d_Mo_findVectors_124 rfl (fun h124 => ?_) (fun h124 => ?_)
            · refine aw_mm (μ' := (itr (fun z => fvS (64 * i + oWd μ i k (lx + (a : Int)) (ly + (b : Int)) z) (lx + (a : Int)) (ly + (b : Int)) z) lz (c + 1) (itr (fun y => fvZ (oWd μ i k) i lz (ln lz hzz) (lx + (a : Int)) y) ly b (itr (fun x => fvY (oWd μ i k) i ly (ln ly hy) lz (ln lz hzz) x) lx a μ)))) ((fvS_hit h124).symm) ?_
              refine aw_iinc (lst' := [_, _, _, _, some (aI (lz + ((c + 1 : Nat) : Int))), _]) d_Mo_findVectors_170 (Nat.le_of_ble_eq_true rfl) rfl (by unfold inR; omega) (by rw [show lz + (c : Int) + 1 = lz + ((c + 1 : Nat) : Int) by omega]; rfl) ?_
              refine aw_goto (tgt := 78) d_Mo_findVectors_173 rfl ?_
              exact ih3 (ln lz hzz - (c + 1)) (by unfold ln at hm3 ⊢; omega) (c + 1) _ rfl ⟨hc.1, by unfold ln; omega⟩
            · refine aw_aload_n d_Mo_findVectors_127 rfl rfl ?_
              refine aw_getR fd_Mo_can lk_Mo_47 (by omega) rfl d_Mo_findVectors_128 (hRz _ _) ?_
              refine aw_iload d_Mo_findVectors_131 rfl ?_
              refine aw_iconst d_Mo_findVectors_133 (in_c rfl) ?_
              refine aw_zast (n := 64 * i + (oWd μ i k (lx + (a : Int)) (ly + (b : Int)) (lz + (c : Int)))) (by omega) rfl rfl (by omega) (by omega) d_Mo_findVectors_134 ?_
              refine aw_aload_n d_Mo_findVectors_135 rfl rfl ?_
              refine aw_getR fd_Mo_vectors lk_Mo_50 (by omega) rfl d_Mo_findVectors_136 (hRz _ _) ?_
              refine aw_iconst d_Mo_findVectors_139 (in_c rfl) ?_
              refine aw_iload d_Mo_findVectors_140 rfl ?_
              refine aw_imul d_Mo_findVectors_142 (by unfold inR; omega) ?_
              refine aw_iload_n d_Mo_findVectors_143 rfl rfl ?_
              refine aw_pc (pc' := 144) rfl ?_
              refine aw_iast (n := 3 * (64 * i + (oWd μ i k (lx + (a : Int)) (ly + (b : Int)) (lz + (c : Int))))) (by omega) rfl (by omega) (by omega) d_Mo_findVectors_144 ?_
              refine aw_aload_n d_Mo_findVectors_145 rfl rfl ?_
              refine aw_getR fd_Mo_vectors lk_Mo_50 (by omega) rfl d_Mo_findVectors_146 (hRz _ _) ?_
              refine aw_iconst d_Mo_findVectors_149 (in_c rfl) ?_
              refine aw_iload d_Mo_findVectors_150 rfl ?_
              refine aw_imul d_Mo_findVectors_152 (by unfold inR; omega) ?_
              refine aw_iconst d_Mo_findVectors_153 (in_c rfl) ?_
              refine aw_iadd d_Mo_findVectors_154 (by unfold inR; omega) ?_
              refine aw_iload_n d_Mo_findVectors_155 rfl rfl ?_
              refine aw_iast (n := 3 * (64 * i + (oWd μ i k (lx + (a : Int)) (ly + (b : Int)) (lz + (c : Int)))) + 1) (by omega) rfl (by omega) (by omega) d_Mo_findVectors_156 ?_
              refine aw_aload_n d_Mo_findVectors_157 rfl rfl ?_
              refine aw_getR fd_Mo_vectors lk_Mo_50 (by omega) rfl d_Mo_findVectors_158 (hRz _ _) ?_
              refine aw_pc (pc' := 161) rfl ?_
              refine aw_iconst d_Mo_findVectors_161 (in_c rfl) ?_
              refine aw_iload d_Mo_findVectors_162 rfl ?_
              refine aw_imul d_Mo_findVectors_164 (by unfold inR; omega) ?_
              refine aw_iconst d_Mo_findVectors_165 (in_c rfl) ?_
              refine aw_iadd d_Mo_findVectors_166 (by unfold inR; omega) ?_
              refine aw_iload d_Mo_findVectors_167 rfl ?_
              refine aw_iast (n := 3 * (64 * i + (oWd μ i k (lx + (a : Int)) (ly + (b : Int)) (lz + (c : Int)))) + 2) (by omega) rfl (by omega) (by omega) d_Mo_findVectors_169 ?_
              refine aw_mm (μ' := (itr (fun z => fvS (64 * i + oWd μ i k (lx + (a : Int)) (ly + (b : Int)) z) (lx + (a : Int)) (ly + (b : Int)) z) lz (c + 1) (itr (fun y => fvZ (oWd μ i k) i lz (ln lz hzz) (lx + (a : Int)) y) ly b (itr (fun x => fvY (oWd μ i k) i ly (ln ly hy) lz (ln lz hzz) x) lx a μ)))) ((fvS_new h124).symm) ?_
              refine aw_iinc (lst' := [_, _, _, _, some (aI (lz + ((c + 1 : Nat) : Int))), _]) d_Mo_findVectors_170 (Nat.le_of_ble_eq_true rfl) rfl (by unfold inR; omega) (by rw [show lz + (c : Int) + 1 = lz + ((c + 1 : Nat) : Int) by omega]; rfl) ?_
              refine aw_goto (tgt := 78) d_Mo_findVectors_173 rfl ?_
              exact ih3 (ln lz hzz - (c + 1)) (by unfold ln at hm3 ⊢; omega) (c + 1) _ rfl ⟨hc.1, by unfold ln; omega⟩
      refine aw_iload_n d_Mo_findVectors_36 rfl rfl ?_
      refine aw_aload_n d_Mo_findVectors_37 rfl rfl ?_
      refine aw_getI fd_Mo_inputs lk_Mo_90 (by omega) rfl d_Mo_findVectors_38 ?_
      refine aw_tv (v' := mI μ 67 1) hny ?_
      refine aw_iconst d_Mo_findVectors_41 (in_c rfl) ?_
      refine aw_icmp_le (tgt := 54) d_Mo_findVectors_42 rfl (fun h42 => ?_) (fun h42 => ?_)
      · refine aw_iconst d_Mo_findVectors_54 (in_c rfl) ?_
        refine aw_tv (v' := hy) (by have := e4; rw [if_neg (by omega)] at this; omega) ?_
        refine aw_icmp_gt (tgt := 182) d_Mo_findVectors_55 rfl (fun h55 => ?_) (fun h55 => ?_)
        · refine aw_iinc (lst' := [_, _, some (aI (lx + ((a + 1 : Nat) : Int))), _, _, _]) d_Mo_findVectors_182 (Nat.le_of_ble_eq_true rfl) rfl (by unfold inR; omega) (by rw [show lx + (a : Int) + 1 = lx + ((a + 1 : Nat) : Int) by omega]; rfl) ?_
          refine aw_goto (tgt := 7) d_Mo_findVectors_185 rfl ?_
          refine aw_mm (μ' := (itr (fun x => fvY (oWd μ i k) i ly (ln ly hy) lz (ln lz hzz) x) lx (a + 1) μ)) (by rw [show b = ln ly hy by unfold ln at hb ⊢; omega]; rfl) ?_
          exact ih (ln lx hxx - (a + 1)) (by unfold ln at hm ⊢; omega) (a + 1) _ _ _ rfl (by unfold ln; omega)
        · refine aw_aload_n d_Mo_findVectors_58 rfl rfl ?_
          refine aw_getI fd_Mo_inputs lk_Mo_90 (by omega) rfl d_Mo_findVectors_59 ?_
          refine aw_tv (v' := mI μ 67 1) hny ?_
          refine aw_iconst d_Mo_findVectors_62 (in_c rfl) ?_
          refine aw_icmp_le (tgt := 75) d_Mo_findVectors_63 rfl (fun h63 => ?_) (fun h63 => ?_)
          · refine aw_iconst d_Mo_findVectors_75 (in_c rfl) ?_
            refine aw_tv (v' := lz + ((0 : Nat) : Int)) (by have := e5; rw [if_neg (by omega)] at this; omega) ?_
            refine aw_istore (lst' := [_, _, _, _, _, _]) d_Mo_findVectors_76 (Nat.le_of_ble_eq_true rfl) rfl ?_
            exact inn (ln lz hzz - 0) 0 _ rfl ⟨by omega, Nat.zero_le _⟩
          · refine aw_aload_n d_Mo_findVectors_66 rfl rfl ?_
            refine aw_getR fd_Mo_low lk_Mo_7 (by omega) rfl d_Mo_findVectors_67 (hRy _ _) ?_
            refine aw_iconst d_Mo_findVectors_70 (in_c rfl) ?_
            refine aw_iald (n := 2) (by omega) rfl rfl (by omega) d_Mo_findVectors_71 ?_
            refine aw_tv (v' := lz + ((0 : Nat) : Int)) ((hly 2).trans (by have := e5; rw [if_pos (by omega)] at this; omega)) ?_
            refine aw_goto (tgt := 76) d_Mo_findVectors_72 rfl ?_
            refine aw_istore (lst' := [_, _, _, _, _, _]) d_Mo_findVectors_76 (Nat.le_of_ble_eq_true rfl) rfl ?_
            exact inn (ln lz hzz - 0) 0 _ rfl ⟨by omega, Nat.zero_le _⟩
      · refine aw_aload_n d_Mo_findVectors_45 rfl rfl ?_
        refine aw_getR fd_Mo_high lk_Mo_13 (by omega) rfl d_Mo_findVectors_46 (hRy _ _) ?_
        refine aw_iconst d_Mo_findVectors_49 (in_c rfl) ?_
        refine aw_iald (n := 1) (by omega) rfl rfl (by omega) d_Mo_findVectors_50 ?_
        refine aw_tv (v' := hy) ((hhy 1).trans (by have := e4; rw [if_pos (by omega)] at this; omega)) ?_
        refine aw_goto (tgt := 55) d_Mo_findVectors_51 rfl ?_
        refine aw_icmp_gt (tgt := 182) d_Mo_findVectors_55 rfl (fun h55 => ?_) (fun h55 => ?_)
        · refine aw_iinc (lst' := [_, _, some (aI (lx + ((a + 1 : Nat) : Int))), _, _, _]) d_Mo_findVectors_182 (Nat.le_of_ble_eq_true rfl) rfl (by unfold inR; omega) (by rw [show lx + (a : Int) + 1 = lx + ((a + 1 : Nat) : Int) by omega]; rfl) ?_
          refine aw_goto (tgt := 7) d_Mo_findVectors_185 rfl ?_
          refine aw_mm (μ' := (itr (fun x => fvY (oWd μ i k) i ly (ln ly hy) lz (ln lz hzz) x) lx (a + 1) μ)) (by rw [show b = ln ly hy by unfold ln at hb ⊢; omega]; rfl) ?_
          exact ih (ln lx hxx - (a + 1)) (by unfold ln at hm ⊢; omega) (a + 1) _ _ _ rfl (by unfold ln; omega)
        · refine aw_aload_n d_Mo_findVectors_58 rfl rfl ?_
          refine aw_getI fd_Mo_inputs lk_Mo_90 (by omega) rfl d_Mo_findVectors_59 ?_
          refine aw_tv (v' := mI μ 67 1) hny ?_
          refine aw_iconst d_Mo_findVectors_62 (in_c rfl) ?_
          refine aw_icmp_le (tgt := 75) d_Mo_findVectors_63 rfl (fun h63 => ?_) (fun h63 => ?_)
          · refine aw_iconst d_Mo_findVectors_75 (in_c rfl) ?_
            refine aw_tv (v' := lz + ((0 : Nat) : Int)) (by have := e5; rw [if_neg (by omega)] at this; omega) ?_
            refine aw_istore (lst' := [_, _, _, _, _, _]) d_Mo_findVectors_76 (Nat.le_of_ble_eq_true rfl) rfl ?_
            exact inn (ln lz hzz - 0) 0 _ rfl ⟨by omega, Nat.zero_le _⟩
          · refine aw_aload_n d_Mo_findVectors_66 rfl rfl ?_
            refine aw_getR fd_Mo_low lk_Mo_7 (by omega) rfl d_Mo_findVectors_67 (hRy _ _) ?_
            refine aw_iconst d_Mo_findVectors_70 (in_c rfl) ?_
            refine aw_iald (n := 2) (by omega) rfl rfl (by omega) d_Mo_findVectors_71 ?_
            refine aw_tv (v' := lz + ((0 : Nat) : Int)) ((hly 2).trans (by have := e5; rw [if_pos (by omega)] at this; omega)) ?_
            refine aw_goto (tgt := 76) d_Mo_findVectors_72 rfl ?_
            refine aw_istore (lst' := [_, _, _, _, _, _]) d_Mo_findVectors_76 (Nat.le_of_ble_eq_true rfl) rfl ?_
            exact inn (ln lz hzz - 0) 0 _ rfl ⟨by omega, Nat.zero_le _⟩
    refine aw_iload_n d_Mo_findVectors_7 rfl rfl ?_
    refine aw_aload_n d_Mo_findVectors_8 rfl rfl ?_
    refine aw_getR fd_Mo_high lk_Mo_13 (by omega) rfl d_Mo_findVectors_9 (hRx _ _) ?_
    refine aw_iconst d_Mo_findVectors_12 (in_c rfl) ?_
    refine aw_iald (n := 0) (by omega) rfl rfl (by omega) d_Mo_findVectors_13 ?_
    refine aw_tv (v' := hxx) ((hhx 0).trans e2) ?_
    refine aw_icmp_gt (tgt := 188) d_Mo_findVectors_14 rfl (fun h14 => ?_) (fun h14 => ?_)
    · exact aw_vret d_Mo_findVectors_188 rfl ⟨rfl, rfl, by rw [show a = ln lx hxx by unfold ln at ha ⊢; omega]; rfl⟩
    · refine aw_aload_n d_Mo_findVectors_17 rfl rfl ?_
      refine aw_getI fd_Mo_inputs lk_Mo_90 (by omega) rfl d_Mo_findVectors_18 ?_
      refine aw_tv (v' := mI μ 67 1) hnx ?_
      refine aw_iconst d_Mo_findVectors_21 (in_c rfl) ?_
      refine aw_icmp_le (tgt := 34) d_Mo_findVectors_22 rfl (fun h22 => ?_) (fun h22 => ?_)
      · refine aw_iconst d_Mo_findVectors_34 (in_c rfl) ?_
        refine aw_tv (v' := ly + ((0 : Nat) : Int)) (by have := e3; rw [if_neg (by omega)] at this; omega) ?_
        refine aw_istore_n (lst' := [_, _, _, _, _, _]) d_Mo_findVectors_35 rfl (Nat.le_of_ble_eq_true rfl) rfl ?_
        exact mid (ln ly hy - 0) 0 _ _ rfl ⟨by omega, Nat.zero_le _⟩
      · refine aw_aload_n d_Mo_findVectors_25 rfl rfl ?_
        refine aw_getR fd_Mo_low lk_Mo_7 (by omega) rfl d_Mo_findVectors_26 (hRx _ _) ?_
        refine aw_iconst d_Mo_findVectors_29 (in_c rfl) ?_
        refine aw_iald (n := 1) (by omega) rfl rfl (by omega) d_Mo_findVectors_30 ?_
        refine aw_tv (v' := ly + ((0 : Nat) : Int)) ((hlx 1).trans (by have := e3; rw [if_pos (by omega)] at this; omega)) ?_
        refine aw_goto (tgt := 35) d_Mo_findVectors_31 rfl ?_
        refine aw_istore_n (lst' := [_, _, _, _, _, _]) d_Mo_findVectors_35 rfl (Nat.le_of_ble_eq_true rfl) rfl ?_
        exact mid (ln ly hy - 0) 0 _ _ rfl ⟨by omega, Nat.zero_le _⟩
  refine aw_aload_n d_Mo_findVectors_0 rfl rfl ?_
  refine aw_getR fd_Mo_low lk_Mo_7 (by omega) rfl d_Mo_findVectors_1 (hR _ _) ?_
  refine aw_iconst d_Mo_findVectors_4 (in_c rfl) ?_
  refine aw_iald (n := 0) (by omega) rfl rfl (by omega) d_Mo_findVectors_5 ?_
  refine aw_tv (v' := lx) e1 ?_
  refine aw_istore_n (lst' := [_, _, _, _, _, _]) d_Mo_findVectors_6 rfl (Nat.le_of_ble_eq_true rfl) rfl ?_
  refine aw_lc (lst' := [some (aP 67), some (aI (i : Int)), some (aI (lx + ((0 : Nat) : Int))), none, none, none]) (by rw [show lx + ((0 : Nat) : Int) = lx by omega]; rfl) ?_
  exact key (ln lx hxx - 0) 0 none none none rfl (Nat.zero_le _)
end
