/-! feasible -/
section
def cn (f : Nat → Bool) : Nat → Nat
  | 0 => 0
  | n + 1 => cn f n + (if f n then 1 else 0)
theorem cn_le (f : Nat → Bool) : ∀ n, cn f n ≤ n
  | 0 => Nat.le_refl _
  | n + 1 => by have := cn_le f n; rw [cn]; split <;> omega
theorem cn_ext {f g : Nat → Bool} : ∀ n, (∀ j, j < n → f j = g j) → cn f n = cn g n
  | 0, _ => rfl
  | n + 1, h => by rw [cn, cn, h n (by omega), cn_ext n (fun j hj => h j (by omega))]
theorem cn_more {f : Nat → Bool} {n : Nat} : ∀ m, n ≤ m → (∀ j, n ≤ j → j < m → f j = false) → cn f m = cn f n
  | 0, h, _ => by rw [show n = 0 from Nat.le_zero.mp h]
  | m + 1, h, hf => by
    by_cases e : n = m + 1
    · rw [e]
    · rw [cn, hf m (by omega) (by omega), cn_more m (by omega) (fun j h1 h2 => hf j h1 (by omega))]
      rfl
theorem cn_shift (f : Nat → Bool) : ∀ n, cn f (n + 1) = (if f 0 then 1 else 0) + cn (fun j => f (j + 1)) n
  | 0 => by simp [cn]
  | n + 1 => by
    rw [cn, cn_shift f n, cn]
    omega
theorem cnt_cn : ∀ (k x : Nat), cnt k x = cn (fun j => x.testBit j) k
  | 0, x => rfl
  | k + 1, x => by
    rw [cnt, cnt_cn k (x / 2), cn_shift]
    have e : (fun j => (x / 2).testBit j) = (fun j => x.testBit (j + 1)) := funext fun j => by rw [Nat.testBit_succ]
    rw [e]
    have h0 : x.testBit 0 = decide (x % 2 = 1) := Nat.testBit_zero x
    rw [h0]
    rcases Nat.mod_two_eq_zero_or_one x with h | h <;> rw [h] <;> simp
variable {G : aG} {pg : Nat} {μ : aM}
set_option maxRecDepth 100000 in
theorem g_Mo_feasible {d : Nat} (hd : 2 ≤ d) {i : Nat} (hi : (i : Int) < mI μ 67 11) (h4 : mI μ 67 11 ≤ 4) {k : Nat} (hk : mI μ 78 i = (k : Int)) (h6 : k ≤ 6) (hR : ∀ k j, mR μ k j = R0 pg k j)  : AM G false d 0 0 y_Mo_feasible [aP 67, aI (i : Int)] 94 μ (Qe (some (aI ((cn (fun j => decide (¬ mI μ 80 (64 * i + j) = 0)) (2 ^ k) : Nat) : Int))) 94 (wI μ 67 0 0)) := by
  refine am_of (n := 2) pf_Mo_feasible (Nat.le_of_ble_eq_true rfl) (by intro v hv; simp only [List.mem_cons, List.not_mem_nil, or_false] at hv; rcases hv with rfl | rfl <;> first | trivial | assumption | exact in_c rfl | (show inR _; unfold inR; omega)) rfl ?_
  have hpw : 2 ^ k ≤ 64 := Nat.pow_le_pow_right (n := 2) (by omega) h6
  have key : ∀ (m : Nat) (w : Nat), 2 ^ k - w = m → w ≤ 2 ^ k → AW G false y_Mo_feasible d 0 0 (Qe (some (aI ((cn (fun j => decide (¬ mI μ 80 (64 * i + j) = 0)) (2 ^ k) : Nat) : Int))) 94 (wI μ 67 0 0)) 27 [some (aP 67), some (aI (i : Int)), some (aI ((cn (fun j => decide (¬ mI μ 80 (64 * i + j) = 0)) w : Nat) : Int)), some (aI (w : Int))] [] 94 (wI μ 67 0 0) := by
    intro m
    induction m using Nat.strongRecOn with | _ m ih =>
    intro w hm hw
    refine aw_iload_n d_Mo_feasible_27 rfl rfl ?_
    refine aw_iconst d_Mo_feasible_28 (in_c rfl) ?_
    refine aw_aload_n d_Mo_feasible_29 rfl rfl ?_
    refine aw_getR fd_Mo_many lk_Mo_41 (by omega) rfl d_Mo_feasible_30 (hR _ _) ?_
    refine aw_iload_n d_Mo_feasible_33 rfl rfl ?_
    refine aw_iald (n := i) (by omega) rfl rfl (by omega) d_Mo_feasible_34 ?_
    refine aw_tv (v' := (k : Int)) hk ?_
    refine aw_ishl (a := 1) (k0 := k) rfl rfl (by omega) (by omega) d_Mo_feasible_35 ?_
    refine aw_tv (v' := ((2 ^ k : Nat) : Int)) (by rw [Nat.one_mul]) ?_
    refine aw_icmp_ge (tgt := 67) d_Mo_feasible_36 rfl (fun h36 => ?_) (fun h36 => ?_)
    · refine aw_iload_n d_Mo_feasible_67 rfl rfl ?_
      exact aw_iret d_Mo_feasible_68 rfl ⟨by rw [show w = 2 ^ k by omega], rfl, rfl⟩
    · refine aw_aload_n d_Mo_feasible_39 rfl rfl ?_
      refine aw_getR fd_Mo_can lk_Mo_47 (by omega) rfl d_Mo_feasible_40 (hR _ _) ?_
      refine aw_bipush (z := 64) d_Mo_feasible_43 (in_c rfl) rfl ?_
      refine aw_iload_n d_Mo_feasible_45 rfl rfl ?_
      refine aw_imul d_Mo_feasible_46 (by unfold inR; omega) ?_
      refine aw_iload_n d_Mo_feasible_47 rfl rfl ?_
      refine aw_iadd d_Mo_feasible_48 (by unfold inR; omega) ?_
      refine aw_zald (n := 64 * i + w) (by omega) rfl (by omega) (by omega) d_Mo_feasible_49 ?_
      have hcl := cn_le (fun j => decide (¬ mI μ 80 (64 * i + j) = 0)) w
      refine aw_tv (v' := mI μ 80 (64 * i + w)) rfl ?_
      refine aw_if_eq (tgt := 59) d_Mo_feasible_50 rfl (fun h50 => ?_) (fun h50 => ?_)
      · refine aw_iload_n d_Mo_feasible_59 rfl rfl ?_
        refine aw_tv (v' := ((cn (fun j => decide (¬ mI μ 80 (64 * i + j) = 0)) (w + 1) : Nat) : Int)) (by rw [cn, if_neg (by simpa using h50)]; omega) ?_
        refine aw_istore_n (lst' := [_, _, _, _]) d_Mo_feasible_60 rfl (Nat.le_of_ble_eq_true rfl) rfl ?_
        refine aw_iinc (lst' := [_, _, _, some (aI ((w + 1 : Nat) : Int))]) d_Mo_feasible_61 (Nat.le_of_ble_eq_true rfl) rfl (by unfold inR; omega) rfl ?_
        refine aw_goto (tgt := 27) d_Mo_feasible_64 rfl ?_
        exact ih (2 ^ k - (w + 1)) (by omega) (w + 1) rfl (by omega)
      · refine aw_iload_n d_Mo_feasible_53 rfl rfl ?_
        refine aw_iconst d_Mo_feasible_54 (in_c rfl) ?_
        refine aw_iadd d_Mo_feasible_55 (by unfold inR; omega) ?_
        refine aw_tv (v' := ((cn (fun j => decide (¬ mI μ 80 (64 * i + j) = 0)) (w + 1) : Nat) : Int)) (by rw [cn, if_pos (by simpa using h50)]; omega) ?_
        refine aw_goto (tgt := 60) d_Mo_feasible_56 rfl ?_
        refine aw_istore_n (lst' := [_, _, _, _]) d_Mo_feasible_60 rfl (Nat.le_of_ble_eq_true rfl) rfl ?_
        refine aw_iinc (lst' := [_, _, _, some (aI ((w + 1 : Nat) : Int))]) d_Mo_feasible_61 (Nat.le_of_ble_eq_true rfl) rfl (by unfold inR; omega) rfl ?_
        refine aw_goto (tgt := 27) d_Mo_feasible_64 rfl ?_
        exact ih (2 ^ k - (w + 1)) (by omega) (w + 1) rfl (by omega)
  refine aw_aload_n d_Mo_feasible_0 rfl rfl ?_
  refine aw_aload_n d_Mo_feasible_1 rfl rfl ?_
  refine aw_iload_n d_Mo_feasible_2 rfl rfl ?_
  refine aw_ve (as := [_]) rfl cv_Mo_159 (by omega) rfl rfl d_Mo_feasible_3 (Nat.le_of_ble_eq_true rfl) (d' := d - 1) (by omega) (g_Mo_isDecision (by omega) hi h4) ?_
  refine aw_if_ne (tgt := 13) d_Mo_feasible_6 rfl (fun h6 => ?_) (fun h6 => absurd h6 (by omega))
  refine aw_iconst d_Mo_feasible_13 (in_c rfl) ?_
  refine aw_iconst d_Mo_feasible_14 (in_c rfl) ?_
  refine aw_ve (as := [_, _]) rfl cv_Mo_96 (by omega) rfl rfl d_Mo_feasible_15 (Nat.le_of_ble_eq_true rfl) (d' := d - 1) (by omega) (m_Mo_refused_0 (by omega)) ?_
  refine aw_if_eq (tgt := 23) d_Mo_feasible_18 rfl (fun h18 => ?_) (fun h18 => absurd (by omega) h18)
  refine aw_iconst d_Mo_feasible_23 (in_c rfl) ?_
  refine aw_istore_n (lst' := [_, _, _, _]) d_Mo_feasible_24 rfl (Nat.le_of_ble_eq_true rfl) rfl ?_
  refine aw_pc (pc' := 25) rfl ?_
  refine aw_iconst d_Mo_feasible_25 (in_c rfl) ?_
  refine aw_istore_n (lst' := [_, _, _, _]) d_Mo_feasible_26 rfl (Nat.le_of_ble_eq_true rfl) rfl ?_
  exact key (2 ^ k - 0) 0 rfl (Nat.zero_le _)
set_option maxRecDepth 100000 in
theorem m_MC_feasible {d : Nat} (hd : 1 ≤ d) {i : Nat} (hi : (i : Int) < mI μ 0 10) (h4 : mI μ 0 10 ≤ 4) (hR : ∀ k j, mR μ k j = R0 pg k j)  : AM G false d 3 18 y_MC_feasible [aP 0, aI (i : Int)] 94 μ (Qe (some (aI ((cnt 64 (mL μ (27 + 8 * i) 9).toNat : Nat) : Int))) 94 μ) := by
  refine am_of (n := 0) pf_MC_feasible (Nat.le_of_ble_eq_true rfl) (by intro v hv; simp only [List.mem_cons, List.not_mem_nil, or_false] at hv; rcases hv with rfl | rfl <;> first | trivial | assumption | exact in_c rfl | (show inR _; unfold inR; omega)) rfl ?_
  refine aw_aload_n d_MC_feasible_0 rfl rfl ?_
  refine aw_iload_n d_MC_feasible_1 rfl rfl ?_
  refine aw_ve (as := [_]) rfl cv_MC_140 (by omega) rfl rfl d_MC_feasible_2 (Nat.le_of_ble_eq_true rfl) (d' := d - 1) (by omega) (m_MC_decisionAt (by omega) hi h4 hR) ?_
  refine aw_ve (as := []) rfl cv_MC_150 (by omega) (shD0 (isD_of (show i < 4 by omega))) rfl d_MC_feasible_5 (Nat.le_of_ble_eq_true rfl) (d' := d - 1) (by omega) (m_De_feasibleWords (by omega) (isD_of (show i < 4 by omega))) ?_
  refine aw_se (as := [_]) rfl cs_MC_154 d_MC_feasible_8 (Nat.le_of_ble_eq_true rfl) (d' := d - 1) (by omega) (m_JL_bitCount (by omega)) ?_
  exact aw_iret d_MC_feasible_11 rfl ⟨rfl, rfl, rfl⟩
end
