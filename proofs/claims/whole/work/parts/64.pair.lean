/-! the reference: pairs -/
section
/-- the least place from w on, among m -/
def sF (f : Nat → Bool) : Nat → Nat → Option Nat
  | 0, _ => none
  | m + 1, w => if f w then some w else sF f m (w + 1)
/-- the first two words below N from v on, among m -/
def oF (f : Nat → Nat → Bool) (N : Nat) : Nat → Nat → Int
  | 0, _ => -1
  | m + 1, v => match sF (f v) (N - (v + 1)) (v + 1) with
    | some w => ((100 * v + w : Nat) : Int)
    | none => oF f N m (v + 1)
def pairS (f : Nat → Nat → Bool) (N : Nat) : Int := oF f N N 0
theorem sF_hit {f : Nat → Bool} {N w : Nat} (h : w < N) (hf : f w = true) : sF f (N - w) w = some w := by
  rw [show N - w = (N - (w + 1)) + 1 by omega, sF, if_pos hf]
theorem sF_miss {f : Nat → Bool} {N w : Nat} (h : w < N) (hf : f w = false) : sF f (N - w) w = sF f (N - (w + 1)) (w + 1) := by
  rw [show N - w = (N - (w + 1)) + 1 by omega, sF, hf]
  rfl
theorem sF_end {f : Nat → Bool} {N w : Nat} (h : N ≤ w) : sF f (N - w) w = none := by
  rw [show N - w = 0 by omega, sF]
theorem oF_hit {f : Nat → Nat → Bool} {N v w : Nat} (h : v < N) (hs : sF (f v) (N - (v + 1)) (v + 1) = some w) : oF f N (N - v) v = ((100 * v + w : Nat) : Int) := by
  rw [show N - v = (N - (v + 1)) + 1 by omega, oF, hs]
theorem oF_miss {f : Nat → Nat → Bool} {N v : Nat} (h : v < N) (hs : sF (f v) (N - (v + 1)) (v + 1) = none) : oF f N (N - v) v = oF f N (N - (v + 1)) (v + 1) := by
  rw [show N - v = (N - (v + 1)) + 1 by omega, oF, hs]
theorem oF_end {f : Nat → Nat → Bool} {N v : Nat} (h : N ≤ v) : oF f N (N - v) v = -1 := by
  rw [show N - v = 0 by omega, oF]
theorem aw_lc {G : aG} {x : Bool} {y : aY} {d bc bs : Nat} {Q : aQ → Nat → aM → Prop} {pc : Nat} {lst lst' : List (Option aV)} {st : List aV} {nn : Nat} {μ : aM} (h : lst = lst') (k : AW G x y d bc bs Q pc lst' st nn μ) : AW G x y d bc bs Q pc lst st nn μ := h ▸ k
variable {G : aG} {pg : Nat} {μ : aM}
set_option maxRecDepth 100000 in
theorem m_Mo_pairOf {d : Nat} (hd : 2 ≤ d) {i : Nat} (h4 : i < 4) {k : Nat} (hk : mI μ 78 i = (k : Int)) (h6 : k ≤ 6) {c : Nat} {q : Int} (hc : c < k) (hq0 : 0 ≤ q) (hq2 : q ≤ 2) (hse : ∀ j, j < 256 → 0 ≤ mI μ 83 j ∧ mI μ 83 j < 64) (hu : ∀ j, j < 6 → 0 ≤ mI μ 79 (6 * i + j) ∧ mI μ 79 (6 * i + j) < 8) (hR : ∀ k j, mR μ k j = R0 pg k j)  : AM G false d 0 0 y_Mo_pairOf [aP 67, aI (i : Int), aI (c : Int), aI q] 94 μ (Qe (some (aI (pairS (oW μ i k c q) (2 ^ k)))) 94 μ) := by
  refine am_of (n := 2) pf_Mo_pairOf (Nat.le_of_ble_eq_true rfl) (by intro v hv; simp only [List.mem_cons, List.not_mem_nil, or_false] at hv; rcases hv with rfl | rfl | rfl | rfl <;> first | trivial | assumption | exact in_c rfl | exact bI_in _ | (show inR _; unfold inR; omega)) rfl ?_
  have hpw : 2 ^ k ≤ 64 := Nat.pow_le_pow_right (n := 2) (by omega) h6
  have key : ∀ (m : Nat) (v : Nat) (o5 : Option aV), 2 ^ k - v = m → (v ≤ 2 ^ k ∧ pairS (oW μ i k c q) (2 ^ k) = oF (oW μ i k c q) (2 ^ k) (2 ^ k - v) v) → AW G false y_Mo_pairOf d 0 0 (Qe (some (aI (pairS (oW μ i k c q) (2 ^ k)))) 94 μ) 3 [some (aP 67), some (aI (i : Int)), some (aI (c : Int)), some (aI q), some (aI (v : Int)), o5] [] 94 μ := by
    intro m
    induction m using Nat.strongRecOn with | _ m ih =>
    intro v o5 hm hv
    have inn : ∀ (m2 : Nat) (w : Nat), 2 ^ k - w = m2 → (v < 2 ^ k ∧ v + 1 ≤ w ∧ w ≤ 2 ^ k ∧ sF ((oW μ i k c q) v) (2 ^ k - (v + 1)) (v + 1) = sF ((oW μ i k c q) v) (2 ^ k - w) w) → AW G false y_Mo_pairOf d 0 0 (Qe (some (aI (pairS (oW μ i k c q) (2 ^ k)))) 94 μ) 22 [some (aP 67), some (aI (i : Int)), some (aI (c : Int)), some (aI q), some (aI (v : Int)), some (aI (w : Int))] [] 94 μ := by
      intro m2
      induction m2 using Nat.strongRecOn with | _ m2 ih2 =>
      intro w hm2 hw
      refine aw_iload d_Mo_pairOf_22 rfl ?_
      refine aw_iconst d_Mo_pairOf_24 (in_c rfl) ?_
      refine aw_aload_n d_Mo_pairOf_25 rfl rfl ?_
      refine aw_getR fd_Mo_many lk_Mo_41 (by omega) rfl d_Mo_pairOf_26 (hR _ _) ?_
      refine aw_iload_n d_Mo_pairOf_29 rfl rfl ?_
      refine aw_iald (n := i) (by omega) rfl rfl (by omega) d_Mo_pairOf_30 ?_
      refine aw_tv (v' := (k : Int)) hk ?_
      refine aw_ishl (a := 1) (k0 := k) rfl rfl (by omega) (by omega) d_Mo_pairOf_31 ?_
      refine aw_tv (v' := ((2 ^ k : Nat) : Int)) (by rw [Nat.one_mul]) ?_
      refine aw_icmp_ge (tgt := 64) d_Mo_pairOf_32 rfl (fun h32 => ?_) (fun h32 => ?_)
      · refine aw_iinc (lst' := [_, _, _, _, some (aI ((v + 1 : Nat) : Int)), _]) d_Mo_pairOf_64 (Nat.le_of_ble_eq_true rfl) rfl (by unfold inR; omega) rfl ?_
        refine aw_goto (tgt := 3) d_Mo_pairOf_67 rfl ?_
        exact ih (2 ^ k - (v + 1)) (by omega) (v + 1) _ rfl ⟨by omega, hv.2.trans (oF_miss hw.1 (hw.2.2.2.trans (sF_end (by omega))))⟩
      · refine aw_aload_n d_Mo_pairOf_35 rfl rfl ?_
        refine aw_iload_n d_Mo_pairOf_36 rfl rfl ?_
        refine aw_iload_n d_Mo_pairOf_37 rfl rfl ?_
        refine aw_iload_n d_Mo_pairOf_38 rfl rfl ?_
        refine aw_iload d_Mo_pairOf_39 rfl ?_
        refine aw_iload d_Mo_pairOf_41 rfl ?_
        refine aw_ve (as := [_, _, _, _, _]) rfl cv_Mo_187 (by omega) rfl rfl d_Mo_pairOf_43 (Nat.le_of_ble_eq_true rfl) (d' := d - 1) (by omega) (m_Mo_shows (by omega) h4 hk h6 hc hq0 hq2 (by omega) (by omega) hse hu hR) ?_
        refine aw_if_eq (tgt := 58) d_Mo_pairOf_46 rfl (fun h46 => ?_) (fun h46 => ?_)
        · replace h46 := bz h46
          refine aw_iinc (lst' := [_, _, _, _, _, some (aI ((w + 1 : Nat) : Int))]) d_Mo_pairOf_58 (Nat.le_of_ble_eq_true rfl) rfl (by unfold inR; omega) rfl ?_
          refine aw_goto (tgt := 22) d_Mo_pairOf_61 rfl ?_
          exact ih2 (2 ^ k - (w + 1)) (by omega) (w + 1) rfl ⟨hw.1, by omega, by omega, hw.2.2.2.trans (sF_miss (by omega) h46)⟩
        · replace h46 := bn h46
          refine aw_bipush (z := 100) d_Mo_pairOf_49 (in_c rfl) rfl ?_
          refine aw_iload d_Mo_pairOf_51 rfl ?_
          refine aw_imul d_Mo_pairOf_53 (by unfold inR; omega) ?_
          refine aw_iload d_Mo_pairOf_54 rfl ?_
          refine aw_iadd d_Mo_pairOf_56 (by unfold inR; omega) ?_
          exact aw_iret d_Mo_pairOf_57 rfl ⟨by rw [hv.2, oF_hit hw.1 (hw.2.2.2.trans (sF_hit (by omega) h46))]; congr 3, rfl, rfl⟩
    refine aw_iload d_Mo_pairOf_3 rfl ?_
    refine aw_iconst d_Mo_pairOf_5 (in_c rfl) ?_
    refine aw_aload_n d_Mo_pairOf_6 rfl rfl ?_
    refine aw_getR fd_Mo_many lk_Mo_41 (by omega) rfl d_Mo_pairOf_7 (hR _ _) ?_
    refine aw_iload_n d_Mo_pairOf_10 rfl rfl ?_
    refine aw_iald (n := i) (by omega) rfl rfl (by omega) d_Mo_pairOf_11 ?_
    refine aw_tv (v' := (k : Int)) hk ?_
    refine aw_ishl (a := 1) (k0 := k) rfl rfl (by omega) (by omega) d_Mo_pairOf_12 ?_
    refine aw_tv (v' := ((2 ^ k : Nat) : Int)) (by rw [Nat.one_mul]) ?_
    refine aw_icmp_ge (tgt := 70) d_Mo_pairOf_13 rfl (fun h13 => ?_) (fun h13 => ?_)
    · refine aw_iconst d_Mo_pairOf_70 (in_c rfl) ?_
      exact aw_iret d_Mo_pairOf_71 rfl ⟨by rw [hv.2, oF_end (by omega)], rfl, rfl⟩
    · refine aw_iload d_Mo_pairOf_16 rfl ?_
      refine aw_iconst d_Mo_pairOf_18 (in_c rfl) ?_
      refine aw_iadd d_Mo_pairOf_19 (by unfold inR; omega) ?_
      refine aw_istore (lst' := [_, _, _, _, _, _]) d_Mo_pairOf_20 (Nat.le_of_ble_eq_true rfl) rfl ?_
      refine aw_lc (lst' := [some (aP 67), some (aI (i : Int)), some (aI (c : Int)), some (aI q), some (aI (v : Int)), some (aI ((v + 1 : Nat) : Int))]) rfl ?_
      exact inn (2 ^ k - (v + 1)) (v + 1) rfl ⟨by omega, Nat.le_refl _, by omega, rfl⟩
  refine aw_iconst d_Mo_pairOf_0 (in_c rfl) ?_
  refine aw_istore (lst' := [_, _, _, _, _, _]) d_Mo_pairOf_1 (Nat.le_of_ble_eq_true rfl) rfl ?_
  exact key (2 ^ k - 0) 0 none rfl ⟨Nat.zero_le _, rfl⟩
end
