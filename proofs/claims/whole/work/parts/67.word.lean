/-! the word of a vector -/
section
def wb (f : Nat → Bool) : Nat → Nat
  | 0 => 0
  | n + 1 => wb f n ||| (if f n then 2 ^ n else 0)
theorem wb_lt (f : Nat → Bool) : ∀ n, wb f n < 2 ^ n
  | 0 => by rw [wb]; decide
  | n + 1 => by
    have h := wb_lt f n
    have h2 : 2 ^ n < 2 ^ (n + 1) := Nat.pow_lt_pow_right (by omega) (by omega)
    rw [wb]
    exact Nat.or_lt_two_pow (by omega) (by split <;> omega)
theorem wb_bit (f : Nat → Bool) : ∀ n j, (wb f n).testBit j = (decide (j < n) && f j)
  | 0, j => by rw [wb, Nat.zero_testBit]; simp
  | n + 1, j => by
    rw [wb, Nat.testBit_or, wb_bit f n j]
    by_cases e : j = n
    · subst e
      cases hf : f j <;> simp [hf, Nat.testBit_two_pow_self]
    · have h : (if f n then 2 ^ n else 0).testBit j = false := by
        split
        · exact Nat.testBit_two_pow_of_ne (fun q => e q.symm)
        · exact Nat.zero_testBit j
      rw [h, Bool.or_false]
      have : decide (j < n + 1) = decide (j < n) := by simp only [decide_eq_decide]; omega
      rw [this]
theorem wb_step (f : Nat → Bool) (n : Nat) : wb f (n + 1) = if f n then wb f n ||| 2 ^ n else wb f n := by
  rw [wb]
  split
  · rfl
  · exact Nat.or_zero _
/-- an input's value in the recorded vector that begins at s, or nothing's -/
def rv (μ : aM) (s : Nat) (b : Int) : Int := if b = -1 then 0 else mI μ 64 (s + b.toNat)
def hF (μ : aM) (s l : Nat) : Bool := decide (hz (mI μ 5 l) (rv μ s (mI μ 6 l) - rv μ s (mI μ 7 l)) (mI μ 8 l) = 1)
theorem hz_01 (k v b : Int) : hz k v b = bI (decide (hz k v b = 1)) := by
  unfold hz
  split <;> rfl
/-- a condition as it may be, its vector's values in their ranges -/
def okL (μ : aM) (s l : Nat) : Prop := l < 8 ∧ 0 ≤ mI μ 5 l ∧ (0 ≤ mI μ 6 l ∧ mI μ 6 l < 3) ∧ (-1 ≤ mI μ 7 l ∧ mI μ 7 l < 3) ∧ (-20 ≤ rv μ s (mI μ 6 l) ∧ rv μ s (mI μ 6 l) ≤ 20) ∧ (-20 ≤ rv μ s (mI μ 7 l) ∧ rv μ s (mI μ 7 l) ≤ 20)
def pk3 (t x y z : Int) : Int := if t = 0 then x else if t = 1 then y else z
def sb3 (t x y z : Int) : Int := if t < 0 then 0 else pk3 t x y z
def oHd (μ : aM) (l : Nat) (x y z : Int) : Bool := decide (hz (mI μ 70 l) (pk3 (mI μ 71 l) x y z - sb3 (mI μ 72 l) x y z) (mI μ 73 l) = 1)
variable {G : aG} {pg : Nat} {μ : aM}
set_option maxRecDepth 100000 in
theorem m_Co_holdsFor {d : Nat} (hd : 1 ≤ d) (hR : ∀ k j, mR μ k j = R0 pg k j) {l s : Nat} (h8 : l < 8) (hs : s ≤ 33) (ho : okL μ s l) : AM G false d 0 0 y_Co_holdsFor [aP 4, aI (l : Int), aP 64, aI (s : Int)] 94 μ (Qe (some (aI (bI (hF μ s l)))) 94 μ) := by
  refine am_of (n := 1) pf_Co_holdsFor (Nat.le_of_ble_eq_true rfl) (by intro v hv; simp only [List.mem_cons, List.not_mem_nil, or_false] at hv; rcases hv with rfl | rfl | rfl | rfl <;> first | trivial | assumption | exact in_c rfl | exact bI_in _ | (show inR _; unfold inR; omega)) rfl ?_
  have ho' := ho
  obtain ⟨ho1, ho2, ho3, ho4, ho5, ho6⟩ := ho'
  have hrv7 : ¬ mI μ 7 l = -1 → 0 ≤ mI μ 7 l := fun q => by omega
  refine aw_aload_n d_Co_holdsFor_0 rfl rfl ?_
  refine aw_getR fd_Co_seconds lk_Co_18 (by omega) rfl d_Co_holdsFor_1 (hR _ _) ?_
  refine aw_iload_n d_Co_holdsFor_4 rfl rfl ?_
  refine aw_iald (n := l) (by omega) rfl rfl (by omega) d_Co_holdsFor_5 ?_
  refine aw_iconst d_Co_holdsFor_6 (in_c rfl) ?_
  refine aw_icmp_ne (tgt := 14) d_Co_holdsFor_7 rfl (fun h7 => ?_) (fun h7 => ?_)
  · refine aw_aload_n d_Co_holdsFor_14 rfl rfl ?_
    refine aw_iload_n d_Co_holdsFor_15 rfl rfl ?_
    refine aw_aload_n d_Co_holdsFor_16 rfl rfl ?_
    refine aw_getR fd_Co_seconds lk_Co_18 (by omega) rfl d_Co_holdsFor_17 (hR _ _) ?_
    refine aw_iload_n d_Co_holdsFor_20 rfl rfl ?_
    refine aw_iald (n := l) (by omega) rfl rfl (by omega) d_Co_holdsFor_21 ?_
    refine aw_iadd d_Co_holdsFor_22 (by unfold inR; omega) ?_
    refine aw_iald (n := s + (mI μ 7 l).toNat) (by omega) rfl (by omega) (by omega) d_Co_holdsFor_23 ?_
    refine aw_tv (v' := rv μ s (mI μ 7 l)) (by unfold rv; rw [if_neg (by omega)]) ?_
    refine aw_istore (lst' := [_, _, _, _, _]) d_Co_holdsFor_24 (Nat.le_of_ble_eq_true rfl) rfl ?_
    refine aw_aload_n d_Co_holdsFor_26 rfl rfl ?_
    refine aw_iload_n d_Co_holdsFor_27 rfl rfl ?_
    refine aw_pc (pc' := 28) rfl ?_
    refine aw_aload_n d_Co_holdsFor_28 rfl rfl ?_
    refine aw_iload_n d_Co_holdsFor_29 rfl rfl ?_
    refine aw_aload_n d_Co_holdsFor_30 rfl rfl ?_
    refine aw_getR fd_Co_firsts lk_Co_15 (by omega) rfl d_Co_holdsFor_31 (hR _ _) ?_
    refine aw_iload_n d_Co_holdsFor_34 rfl rfl ?_
    refine aw_iald (n := l) (by omega) rfl rfl (by omega) d_Co_holdsFor_35 ?_
    refine aw_iadd d_Co_holdsFor_36 (by unfold inR; omega) ?_
    refine aw_iald (n := s + (mI μ 6 l).toNat) (by omega) rfl (by omega) (by omega) d_Co_holdsFor_37 ?_
    refine aw_tv (v' := rv μ s (mI μ 6 l)) (by unfold rv; rw [if_neg (by omega)]) ?_
    refine aw_iload d_Co_holdsFor_38 rfl ?_
    refine aw_isub d_Co_holdsFor_40 (by unfold inR; omega) ?_
    refine aw_ve (as := [_, _]) rfl cv_Co_28 (by omega) rfl rfl d_Co_holdsFor_41 (Nat.le_of_ble_eq_true rfl) (d' := d - 1) (by omega) (m_Co_holds (by omega) hR (by omega) (by unfold inR; omega) ho.2.1) ?_
    refine aw_tv (v' := bI (hF μ s l)) (hz_01 _ _ _) ?_
    exact aw_zret d_Co_holdsFor_44 rfl (bI_nr _) ⟨rfl, rfl, rfl⟩
  · refine aw_iconst d_Co_holdsFor_10 (in_c rfl) ?_
    refine aw_tv (v' := rv μ s (mI μ 7 l)) (by unfold rv; rw [if_pos (by omega)]) ?_
    refine aw_goto (tgt := 24) d_Co_holdsFor_11 rfl ?_
    refine aw_istore (lst' := [_, _, _, _, _]) d_Co_holdsFor_24 (Nat.le_of_ble_eq_true rfl) rfl ?_
    refine aw_aload_n d_Co_holdsFor_26 rfl rfl ?_
    refine aw_iload_n d_Co_holdsFor_27 rfl rfl ?_
    refine aw_aload_n d_Co_holdsFor_28 rfl rfl ?_
    refine aw_iload_n d_Co_holdsFor_29 rfl rfl ?_
    refine aw_aload_n d_Co_holdsFor_30 rfl rfl ?_
    refine aw_getR fd_Co_firsts lk_Co_15 (by omega) rfl d_Co_holdsFor_31 (hR _ _) ?_
    refine aw_iload_n d_Co_holdsFor_34 rfl rfl ?_
    refine aw_iald (n := l) (by omega) rfl rfl (by omega) d_Co_holdsFor_35 ?_
    refine aw_pc (pc' := 36) rfl ?_
    refine aw_iadd d_Co_holdsFor_36 (by unfold inR; omega) ?_
    refine aw_iald (n := s + (mI μ 6 l).toNat) (by omega) rfl (by omega) (by omega) d_Co_holdsFor_37 ?_
    refine aw_tv (v' := rv μ s (mI μ 6 l)) (by unfold rv; rw [if_neg (by omega)]) ?_
    refine aw_iload d_Co_holdsFor_38 rfl ?_
    refine aw_isub d_Co_holdsFor_40 (by unfold inR; omega) ?_
    refine aw_ve (as := [_, _]) rfl cv_Co_28 (by omega) rfl rfl d_Co_holdsFor_41 (Nat.le_of_ble_eq_true rfl) (d' := d - 1) (by omega) (m_Co_holds (by omega) hR (by omega) (by unfold inR; omega) ho.2.1) ?_
    refine aw_tv (v' := bI (hF μ s l)) (hz_01 _ _ _) ?_
    exact aw_zret d_Co_holdsFor_44 rfl (bI_nr _) ⟨rfl, rfl, rfl⟩
set_option maxRecDepth 100000 in
theorem m_De_wordFor {d : Nat} (hd : 2 ≤ d) {D : Nat} (hD : isD D) (hR : ∀ k j, mR μ k j = R0 pg k j) {k : Nat} (hk : mI μ D 7 = (k : Int)) (h6 : k ≤ 6) {s : Nat} (hs : s ≤ 33) (hl : ∀ j, j < k → 0 ≤ mI μ (D + 3) j ∧ okL μ s (mI μ (D + 3) j).toNat) : AM G false d 0 0 y_De_wordFor [aP D, aP 64, aI (s : Int)] 94 μ (Qe (some (aI ((wb (fun j => hF μ s (mI μ (D + 3) j).toNat) k : Nat) : Int))) 94 μ) := by
  refine am_of (n := 2) pf_De_wordFor (Nat.le_of_ble_eq_true rfl) (by intro v hv; simp only [List.mem_cons, List.not_mem_nil, or_false] at hv; rcases hv with rfl | rfl | rfl <;> first | trivial | assumption | exact in_c rfl | exact bI_in _ | (show inR _; unfold inR; omega)) rfl ?_
  have key : ∀ (m : Nat) (j : Nat), k - j = m → j ≤ k → AW G false y_De_wordFor d 0 0 (Qe (some (aI ((wb (fun j => hF μ s (mI μ (D + 3) j).toNat) k : Nat) : Int))) 94 μ) 5 [some (aP D), some (aP 64), some (aI (s : Int)), some (aI ((wb (fun j => hF μ s (mI μ (D + 3) j).toNat) j : Nat) : Int)), some (aI (j : Int))] [] 94 μ := by
    intro m
    induction m using Nat.strongRecOn with | _ m ih =>
    intro j hm hj
    refine aw_iload d_De_wordFor_5 rfl ?_
    refine aw_aload_n d_De_wordFor_7 rfl rfl ?_
    refine aw_getI fd_De_count lk_De_35 (Nat.lt_of_le_of_lt (Nat.le_add_right _ 7) (ltD hD)) (shD0 hD) d_De_wordFor_8 ?_
    refine aw_tv (v' := (k : Int)) hk ?_
    refine aw_icmp_ge (tgt := 46) d_De_wordFor_11 rfl (fun h11 => ?_) (fun h11 => ?_)
    · refine aw_iload_n d_De_wordFor_46 rfl rfl ?_
      exact aw_iret d_De_wordFor_47 rfl ⟨by rw [show j = k by omega], rfl, rfl⟩
    · refine aw_aload_n d_De_wordFor_14 rfl rfl ?_
      refine aw_getR fd_De_conditions lk_De_46 (Nat.lt_of_le_of_lt (Nat.le_add_right _ 7) (ltD hD)) (shD0 hD) d_De_wordFor_15 ((hR _ _).trans (rD0 hD)) ?_
      refine aw_aload_n d_De_wordFor_18 rfl rfl ?_
      refine aw_getR fd_De_letters lk_De_18 (Nat.lt_of_le_of_lt (Nat.le_add_right _ 7) (ltD hD)) (shD0 hD) d_De_wordFor_19 ((hR _ _).trans (rD2 hD)) ?_
      refine aw_iload d_De_wordFor_22 rfl ?_
      refine aw_iald (n := j) (by have := ltD hD; omega) (shD3 hD) rfl (by omega) d_De_wordFor_24 ?_
      have hlj := hl j (by omega)
      have hwl := wb_lt (fun j => hF μ s (mI μ (D + 3) j).toNat) j
      have hpj : 2 ^ j ≤ 32 := Nat.pow_le_pow_right (n := 2) (by omega) (show j ≤ 5 by omega)
      refine aw_tv (v' := (((mI μ (D + 3) j).toNat : Nat) : Int)) (by omega) ?_
      refine aw_aload_n d_De_wordFor_25 rfl rfl ?_
      refine aw_iload_n d_De_wordFor_26 rfl rfl ?_
      refine aw_ve (as := [_, _, _]) rfl cv_De_97 (by omega) rfl rfl d_De_wordFor_27 (Nat.le_of_ble_eq_true rfl) (d' := d - 1) (by omega) (m_Co_holdsFor (by omega) hR hlj.2.1 hs hlj.2) ?_
      refine aw_if_eq (tgt := 40) d_De_wordFor_30 rfl (fun h30 => ?_) (fun h30 => ?_)
      · replace h30 := bz h30
        refine aw_lc (lst' := [_, _, _, some (aI ((wb (fun j => hF μ s (mI μ (D + 3) j).toNat) (j + 1) : Nat) : Int)), _]) (by rw [wb_step, if_neg (by rw [h30]; decide)]) ?_
        refine aw_iinc (lst' := [_, _, _, _, some (aI ((j + 1 : Nat) : Int))]) d_De_wordFor_40 (Nat.le_of_ble_eq_true rfl) rfl (by unfold inR; omega) rfl ?_
        refine aw_goto (tgt := 5) d_De_wordFor_43 rfl ?_
        exact ih (k - (j + 1)) (by omega) (j + 1) rfl (by omega)
      · replace h30 := bn h30
        refine aw_iload_n d_De_wordFor_33 rfl rfl ?_
        refine aw_iconst d_De_wordFor_34 (in_c rfl) ?_
        refine aw_iload d_De_wordFor_35 rfl ?_
        refine aw_ishl (a := 1) (k0 := j) rfl rfl (by omega) (by omega) d_De_wordFor_37 ?_
        refine aw_tv (v' := ((2 ^ j : Nat) : Int)) (by rw [Nat.one_mul]) ?_
        refine aw_ior (a := wb (fun j => hF μ s (mI μ (D + 3) j).toNat) j) (b := 2 ^ j) rfl rfl d_De_wordFor_38 ?_
        refine aw_tv (v' := ((wb (fun j => hF μ s (mI μ (D + 3) j).toNat) (j + 1) : Nat) : Int)) (by rw [wb_step, if_pos h30]) ?_
        refine aw_istore_n (lst' := [_, _, _, _, _]) d_De_wordFor_39 rfl (Nat.le_of_ble_eq_true rfl) rfl ?_
        refine aw_iinc (lst' := [_, _, _, _, some (aI ((j + 1 : Nat) : Int))]) d_De_wordFor_40 (Nat.le_of_ble_eq_true rfl) rfl (by unfold inR; omega) rfl ?_
        refine aw_goto (tgt := 5) d_De_wordFor_43 rfl ?_
        exact ih (k - (j + 1)) (by omega) (j + 1) rfl (by omega)
  refine aw_iconst d_De_wordFor_0 (in_c rfl) ?_
  refine aw_istore_n (lst' := [_, _, _, _, _]) d_De_wordFor_1 rfl (Nat.le_of_ble_eq_true rfl) rfl ?_
  refine aw_iconst d_De_wordFor_2 (in_c rfl) ?_
  refine aw_istore (lst' := [_, _, _, _, _]) d_De_wordFor_3 (Nat.le_of_ble_eq_true rfl) rfl ?_
  exact key (k - 0) 0 rfl (Nat.zero_le _)
set_option maxRecDepth 100000 in
theorem m_Mo_holds {d : Nat} (hd : 0 ≤ d) (hR : ∀ k j, mR μ k j = R0 pg k j) {l : Nat} {x y z : Int} (hx : inR x) (hy : inR y) (hz0 : inR z) (h8 : l < 8) (hp : -20 ≤ pk3 (mI μ 71 l) x y z ∧ pk3 (mI μ 71 l) x y z ≤ 20) (hs : -20 ≤ sb3 (mI μ 72 l) x y z ∧ sb3 (mI μ 72 l) x y z ≤ 20) (hk : 0 ≤ mI μ 70 l) : AM G false d 0 0 y_Mo_holds [aP 67, aI (l : Int), aI x, aI y, aI z] 94 μ (Qe (some (aI (bI (oHd μ l x y z)))) 94 μ) := by
  refine am_of (n := 4) pf_Mo_holds (Nat.le_of_ble_eq_true rfl) (by intro v hv; simp only [List.mem_cons, List.not_mem_nil, or_false] at hv; rcases hv with rfl | rfl | rfl | rfl | rfl <;> first | trivial | assumption | exact in_c rfl | exact bI_in _ | (show inR _; unfold inR; omega)) rfl ?_
  refine aw_aload_n d_Mo_holds_0 rfl rfl ?_
  refine aw_getR fd_Mo_one lk_Mo_19 (by omega) rfl d_Mo_holds_1 (hR _ _) ?_
  refine aw_iload_n d_Mo_holds_4 rfl rfl ?_
  refine aw_iald (n := l) (by omega) rfl rfl (by omega) d_Mo_holds_5 ?_
  refine aw_istore (lst' := [_, _, _, _, _, _, _, _, _]) d_Mo_holds_6 (Nat.le_of_ble_eq_true rfl) rfl ?_
  refine aw_aload_n d_Mo_holds_8 rfl rfl ?_
  refine aw_getR fd_Mo_two lk_Mo_22 (by omega) rfl d_Mo_holds_9 (hR _ _) ?_
  refine aw_iload_n d_Mo_holds_12 rfl rfl ?_
  refine aw_iald (n := l) (by omega) rfl rfl (by omega) d_Mo_holds_13 ?_
  refine aw_istore (lst' := [_, _, _, _, _, _, _, _, _]) d_Mo_holds_14 (Nat.le_of_ble_eq_true rfl) rfl ?_
  refine aw_iload d_Mo_holds_16 rfl ?_
  refine aw_pc (pc' := 18) rfl ?_
  refine aw_if_ne (tgt := 25) d_Mo_holds_18 rfl (fun h18 => ?_) (fun h18 => ?_)
  · refine aw_iload d_Mo_holds_25 rfl ?_
    refine aw_iconst d_Mo_holds_27 (in_c rfl) ?_
    refine aw_icmp_ne (tgt := 35) d_Mo_holds_28 rfl (fun h28 => ?_) (fun h28 => ?_)
    · refine aw_iload d_Mo_holds_35 rfl ?_
      refine aw_tv (v' := pk3 (mI μ 71 l) x y z) (by unfold pk3; rw [if_neg h18, if_neg h28]) ?_
      refine aw_istore (lst' := [_, _, _, _, _, _, _, _, _]) d_Mo_holds_37 (Nat.le_of_ble_eq_true rfl) rfl ?_
      refine aw_iload d_Mo_holds_39 rfl ?_
      refine aw_iload d_Mo_holds_41 rfl ?_
      refine aw_if_ge (tgt := 50) d_Mo_holds_43 rfl (fun h43 => ?_) (fun h43 => ?_)
      · refine aw_iload d_Mo_holds_50 rfl ?_
        refine aw_if_ne (tgt := 59) d_Mo_holds_52 rfl (fun h52 => ?_) (fun h52 => ?_)
        · refine aw_iload d_Mo_holds_59 rfl ?_
          refine aw_iconst d_Mo_holds_61 (in_c rfl) ?_
          refine aw_icmp_ne (tgt := 69) d_Mo_holds_62 rfl (fun h62 => ?_) (fun h62 => ?_)
          · refine aw_iload d_Mo_holds_69 rfl ?_
            refine aw_tv (v' := sb3 (mI μ 72 l) x y z) (by unfold sb3; rw [if_neg (by omega)]; unfold pk3; rw [if_neg h52, if_neg h62]) ?_
            refine aw_isub d_Mo_holds_71 (by unfold inR; omega) ?_
            refine aw_istore (lst' := [_, _, _, _, _, _, _, _, _]) d_Mo_holds_72 (Nat.le_of_ble_eq_true rfl) rfl ?_
            refine aw_aload_n d_Mo_holds_74 rfl rfl ?_
            refine aw_getR fd_Mo_bound lk_Mo_25 (by omega) rfl d_Mo_holds_75 (hR _ _) ?_
            refine aw_iload_n d_Mo_holds_78 rfl rfl ?_
            refine aw_iald (n := l) (by omega) rfl rfl (by omega) d_Mo_holds_79 ?_
            refine aw_istore (lst' := [_, _, _, _, _, _, _, _, _]) d_Mo_holds_80 (Nat.le_of_ble_eq_true rfl) rfl ?_
            refine aw_aload_n d_Mo_holds_82 rfl rfl ?_
            refine aw_getR fd_Mo_kind lk_Mo_16 (by omega) rfl d_Mo_holds_83 (hR _ _) ?_
            refine aw_iload_n d_Mo_holds_86 rfl rfl ?_
            refine aw_pc (pc' := 87) rfl ?_
            refine aw_iald (n := l) (by omega) rfl rfl (by omega) d_Mo_holds_87 ?_
            refine aw_if_ne (tgt := 106) d_Mo_holds_88 rfl (fun h88 => ?_) (fun h88 => ?_)
            · refine aw_aload_n d_Mo_holds_106 rfl rfl ?_
              refine aw_getR fd_Mo_kind lk_Mo_16 (by omega) rfl d_Mo_holds_107 (hR _ _) ?_
              refine aw_iload_n d_Mo_holds_110 rfl rfl ?_
              refine aw_iald (n := l) (by omega) rfl rfl (by omega) d_Mo_holds_111 ?_
              refine aw_iconst d_Mo_holds_112 (in_c rfl) ?_
              refine aw_icmp_ne (tgt := 131) d_Mo_holds_113 rfl (fun h113 => ?_) (fun h113 => ?_)
              · refine aw_aload_n d_Mo_holds_131 rfl rfl ?_
                refine aw_getR fd_Mo_kind lk_Mo_16 (by omega) rfl d_Mo_holds_132 (hR _ _) ?_
                refine aw_iload_n d_Mo_holds_135 rfl rfl ?_
                refine aw_iald (n := l) (by omega) rfl rfl (by omega) d_Mo_holds_136 ?_
                refine aw_iconst d_Mo_holds_137 (in_c rfl) ?_
                refine aw_icmp_ne (tgt := 156) d_Mo_holds_138 rfl (fun h138 => ?_) (fun h138 => ?_)
                · refine aw_iload d_Mo_holds_156 rfl ?_
                  refine aw_iload d_Mo_holds_158 rfl ?_
                  refine aw_icmp_eq (tgt := 167) d_Mo_holds_160 rfl (fun h160 => ?_) (fun h160 => ?_)
                  · refine aw_iconst d_Mo_holds_167 (in_c rfl) ?_
                    exact aw_zret d_Mo_holds_168 rfl rfl ⟨by first | (rw [show oHd μ l x y z = true from decide_eq_true (by unfold hz; rw [if_pos (by omega)])]; rfl) | (rw [show oHd μ l x y z = false from decide_eq_false (by unfold hz; rw [if_neg (by omega)]; decide)]; rfl), rfl, rfl⟩
                  · refine aw_iconst d_Mo_holds_163 (in_c rfl) ?_
                    refine aw_goto (tgt := 168) d_Mo_holds_164 rfl ?_
                    exact aw_zret d_Mo_holds_168 rfl rfl ⟨by first | (rw [show oHd μ l x y z = true from decide_eq_true (by unfold hz; rw [if_pos (by omega)])]; rfl) | (rw [show oHd μ l x y z = false from decide_eq_false (by unfold hz; rw [if_neg (by omega)]; decide)]; rfl), rfl, rfl⟩
                · refine aw_iload d_Mo_holds_141 rfl ?_
                  refine aw_iload d_Mo_holds_143 rfl ?_
                  refine aw_icmp_ne (tgt := 152) d_Mo_holds_145 rfl (fun h145 => ?_) (fun h145 => ?_)
                  · refine aw_iconst d_Mo_holds_152 (in_c rfl) ?_
                    refine aw_goto (tgt := 168) d_Mo_holds_153 rfl ?_
                    exact aw_zret d_Mo_holds_168 rfl rfl ⟨by first | (rw [show oHd μ l x y z = true from decide_eq_true (by unfold hz; rw [if_pos (by omega)])]; rfl) | (rw [show oHd μ l x y z = false from decide_eq_false (by unfold hz; rw [if_neg (by omega)]; decide)]; rfl), rfl, rfl⟩
                  · refine aw_iconst d_Mo_holds_148 (in_c rfl) ?_
                    refine aw_goto (tgt := 168) d_Mo_holds_149 rfl ?_
                    exact aw_zret d_Mo_holds_168 rfl rfl ⟨by first | (rw [show oHd μ l x y z = true from decide_eq_true (by unfold hz; rw [if_pos (by omega)])]; rfl) | (rw [show oHd μ l x y z = false from decide_eq_false (by unfold hz; rw [if_neg (by omega)]; decide)]; rfl), rfl, rfl⟩
              · refine aw_iload d_Mo_holds_116 rfl ?_
                refine aw_iload d_Mo_holds_118 rfl ?_
                refine aw_icmp_ge (tgt := 127) d_Mo_holds_120 rfl (fun h120 => ?_) (fun h120 => ?_)
                · refine aw_iconst d_Mo_holds_127 (in_c rfl) ?_
                  refine aw_goto (tgt := 168) d_Mo_holds_128 rfl ?_
                  exact aw_zret d_Mo_holds_168 rfl rfl ⟨by first | (rw [show oHd μ l x y z = true from decide_eq_true (by unfold hz; rw [if_pos (by omega)])]; rfl) | (rw [show oHd μ l x y z = false from decide_eq_false (by unfold hz; rw [if_neg (by omega)]; decide)]; rfl), rfl, rfl⟩
                · refine aw_iconst d_Mo_holds_123 (in_c rfl) ?_
                  refine aw_goto (tgt := 168) d_Mo_holds_124 rfl ?_
                  exact aw_zret d_Mo_holds_168 rfl rfl ⟨by first | (rw [show oHd μ l x y z = true from decide_eq_true (by unfold hz; rw [if_pos (by omega)])]; rfl) | (rw [show oHd μ l x y z = false from decide_eq_false (by unfold hz; rw [if_neg (by omega)]; decide)]; rfl), rfl, rfl⟩
            · refine aw_iload d_Mo_holds_91 rfl ?_
              refine aw_iload d_Mo_holds_93 rfl ?_
              refine aw_icmp_gt (tgt := 102) d_Mo_holds_95 rfl (fun h95 => ?_) (fun h95 => ?_)
              · refine aw_iconst d_Mo_holds_102 (in_c rfl) ?_
                refine aw_goto (tgt := 168) d_Mo_holds_103 rfl ?_
                exact aw_zret d_Mo_holds_168 rfl rfl ⟨by first | (rw [show oHd μ l x y z = true from decide_eq_true (by unfold hz; rw [if_pos (by omega)])]; rfl) | (rw [show oHd μ l x y z = false from decide_eq_false (by unfold hz; rw [if_neg (by omega)]; decide)]; rfl), rfl, rfl⟩
              · refine aw_iconst d_Mo_holds_98 (in_c rfl) ?_
                refine aw_goto (tgt := 168) d_Mo_holds_99 rfl ?_
                exact aw_zret d_Mo_holds_168 rfl rfl ⟨by first | (rw [show oHd μ l x y z = true from decide_eq_true (by unfold hz; rw [if_pos (by omega)])]; rfl) | (rw [show oHd μ l x y z = false from decide_eq_false (by unfold hz; rw [if_neg (by omega)]; decide)]; rfl), rfl, rfl⟩
          · refine aw_iload_n d_Mo_holds_65 rfl rfl ?_
            refine aw_tv (v' := sb3 (mI μ 72 l) x y z) (by unfold sb3; rw [if_neg (by omega)]; unfold pk3; rw [if_neg h52, if_pos h62]) ?_
            refine aw_goto (tgt := 71) d_Mo_holds_66 rfl ?_
            refine aw_isub d_Mo_holds_71 (by unfold inR; omega) ?_
            refine aw_istore (lst' := [_, _, _, _, _, _, _, _, _]) d_Mo_holds_72 (Nat.le_of_ble_eq_true rfl) rfl ?_
            refine aw_aload_n d_Mo_holds_74 rfl rfl ?_
            refine aw_getR fd_Mo_bound lk_Mo_25 (by omega) rfl d_Mo_holds_75 (hR _ _) ?_
            refine aw_iload_n d_Mo_holds_78 rfl rfl ?_
            refine aw_iald (n := l) (by omega) rfl rfl (by omega) d_Mo_holds_79 ?_
            refine aw_istore (lst' := [_, _, _, _, _, _, _, _, _]) d_Mo_holds_80 (Nat.le_of_ble_eq_true rfl) rfl ?_
            refine aw_aload_n d_Mo_holds_82 rfl rfl ?_
            refine aw_getR fd_Mo_kind lk_Mo_16 (by omega) rfl d_Mo_holds_83 (hR _ _) ?_
            refine aw_pc (pc' := 86) rfl ?_
            refine aw_iload_n d_Mo_holds_86 rfl rfl ?_
            refine aw_iald (n := l) (by omega) rfl rfl (by omega) d_Mo_holds_87 ?_
            refine aw_if_ne (tgt := 106) d_Mo_holds_88 rfl (fun h88 => ?_) (fun h88 => ?_)
            · refine aw_aload_n d_Mo_holds_106 rfl rfl ?_
              refine aw_getR fd_Mo_kind lk_Mo_16 (by omega) rfl d_Mo_holds_107 (hR _ _) ?_
              refine aw_iload_n d_Mo_holds_110 rfl rfl ?_
              refine aw_iald (n := l) (by omega) rfl rfl (by omega) d_Mo_holds_111 ?_
              refine aw_iconst d_Mo_holds_112 (in_c rfl) ?_
              refine aw_icmp_ne (tgt := 131) d_Mo_holds_113 rfl (fun h113 => ?_) (fun h113 => ?_)
              · refine aw_aload_n d_Mo_holds_131 rfl rfl ?_
                refine aw_getR fd_Mo_kind lk_Mo_16 (by omega) rfl d_Mo_holds_132 (hR _ _) ?_
                refine aw_iload_n d_Mo_holds_135 rfl rfl ?_
                refine aw_iald (n := l) (by omega) rfl rfl (by omega) d_Mo_holds_136 ?_
                refine aw_iconst d_Mo_holds_137 (in_c rfl) ?_
                refine aw_icmp_ne (tgt := 156) d_Mo_holds_138 rfl (fun h138 => ?_) (fun h138 => ?_)
                · refine aw_iload d_Mo_holds_156 rfl ?_
                  refine aw_iload d_Mo_holds_158 rfl ?_
                  refine aw_icmp_eq (tgt := 167) d_Mo_holds_160 rfl (fun h160 => ?_) (fun h160 => ?_)
                  · refine aw_iconst d_Mo_holds_167 (in_c rfl) ?_
                    exact aw_zret d_Mo_holds_168 rfl rfl ⟨by first | (rw [show oHd μ l x y z = true from decide_eq_true (by unfold hz; rw [if_pos (by omega)])]; rfl) | (rw [show oHd μ l x y z = false from decide_eq_false (by unfold hz; rw [if_neg (by omega)]; decide)]; rfl), rfl, rfl⟩
                  · refine aw_iconst d_Mo_holds_163 (in_c rfl) ?_
                    refine aw_goto (tgt := 168) d_Mo_holds_164 rfl ?_
                    exact aw_zret d_Mo_holds_168 rfl rfl ⟨by first | (rw [show oHd μ l x y z = true from decide_eq_true (by unfold hz; rw [if_pos (by omega)])]; rfl) | (rw [show oHd μ l x y z = false from decide_eq_false (by unfold hz; rw [if_neg (by omega)]; decide)]; rfl), rfl, rfl⟩
                · refine aw_iload d_Mo_holds_141 rfl ?_
                  refine aw_iload d_Mo_holds_143 rfl ?_
                  refine aw_icmp_ne (tgt := 152) d_Mo_holds_145 rfl (fun h145 => ?_) (fun h145 => ?_)
                  · refine aw_iconst d_Mo_holds_152 (in_c rfl) ?_
                    refine aw_goto (tgt := 168) d_Mo_holds_153 rfl ?_
                    exact aw_zret d_Mo_holds_168 rfl rfl ⟨by first | (rw [show oHd μ l x y z = true from decide_eq_true (by unfold hz; rw [if_pos (by omega)])]; rfl) | (rw [show oHd μ l x y z = false from decide_eq_false (by unfold hz; rw [if_neg (by omega)]; decide)]; rfl), rfl, rfl⟩
                  · refine aw_iconst d_Mo_holds_148 (in_c rfl) ?_
                    refine aw_goto (tgt := 168) d_Mo_holds_149 rfl ?_
                    exact aw_zret d_Mo_holds_168 rfl rfl ⟨by first | (rw [show oHd μ l x y z = true from decide_eq_true (by unfold hz; rw [if_pos (by omega)])]; rfl) | (rw [show oHd μ l x y z = false from decide_eq_false (by unfold hz; rw [if_neg (by omega)]; decide)]; rfl), rfl, rfl⟩
              · refine aw_iload d_Mo_holds_116 rfl ?_
                refine aw_iload d_Mo_holds_118 rfl ?_
                refine aw_icmp_ge (tgt := 127) d_Mo_holds_120 rfl (fun h120 => ?_) (fun h120 => ?_)
                · refine aw_iconst d_Mo_holds_127 (in_c rfl) ?_
                  refine aw_goto (tgt := 168) d_Mo_holds_128 rfl ?_
                  exact aw_zret d_Mo_holds_168 rfl rfl ⟨by first | (rw [show oHd μ l x y z = true from decide_eq_true (by unfold hz; rw [if_pos (by omega)])]; rfl) | (rw [show oHd μ l x y z = false from decide_eq_false (by unfold hz; rw [if_neg (by omega)]; decide)]; rfl), rfl, rfl⟩
                · refine aw_iconst d_Mo_holds_123 (in_c rfl) ?_
                  refine aw_goto (tgt := 168) d_Mo_holds_124 rfl ?_
                  exact aw_zret d_Mo_holds_168 rfl rfl ⟨by first | (rw [show oHd μ l x y z = true from decide_eq_true (by unfold hz; rw [if_pos (by omega)])]; rfl) | (rw [show oHd μ l x y z = false from decide_eq_false (by unfold hz; rw [if_neg (by omega)]; decide)]; rfl), rfl, rfl⟩
            · refine aw_iload d_Mo_holds_91 rfl ?_
              refine aw_iload d_Mo_holds_93 rfl ?_
              refine aw_icmp_gt (tgt := 102) d_Mo_holds_95 rfl (fun h95 => ?_) (fun h95 => ?_)
              · refine aw_iconst d_Mo_holds_102 (in_c rfl) ?_
                refine aw_goto (tgt := 168) d_Mo_holds_103 rfl ?_
                exact aw_zret d_Mo_holds_168 rfl rfl ⟨by first | (rw [show oHd μ l x y z = true from decide_eq_true (by unfold hz; rw [if_pos (by omega)])]; rfl) | (rw [show oHd μ l x y z = false from decide_eq_false (by unfold hz; rw [if_neg (by omega)]; decide)]; rfl), rfl, rfl⟩
              · refine aw_iconst d_Mo_holds_98 (in_c rfl) ?_
                refine aw_goto (tgt := 168) d_Mo_holds_99 rfl ?_
                exact aw_zret d_Mo_holds_168 rfl rfl ⟨by first | (rw [show oHd μ l x y z = true from decide_eq_true (by unfold hz; rw [if_pos (by omega)])]; rfl) | (rw [show oHd μ l x y z = false from decide_eq_false (by unfold hz; rw [if_neg (by omega)]; decide)]; rfl), rfl, rfl⟩
        · refine aw_iload_n d_Mo_holds_55 rfl rfl ?_
          refine aw_tv (v' := sb3 (mI μ 72 l) x y z) (by unfold sb3; rw [if_neg (by omega)]; unfold pk3; rw [if_pos h52]) ?_
          refine aw_goto (tgt := 71) d_Mo_holds_56 rfl ?_
          refine aw_isub d_Mo_holds_71 (by unfold inR; omega) ?_
          refine aw_istore (lst' := [_, _, _, _, _, _, _, _, _]) d_Mo_holds_72 (Nat.le_of_ble_eq_true rfl) rfl ?_
          refine aw_aload_n d_Mo_holds_74 rfl rfl ?_
          refine aw_getR fd_Mo_bound lk_Mo_25 (by omega) rfl d_Mo_holds_75 (hR _ _) ?_
          refine aw_iload_n d_Mo_holds_78 rfl rfl ?_
          refine aw_iald (n := l) (by omega) rfl rfl (by omega) d_Mo_holds_79 ?_
          refine aw_istore (lst' := [_, _, _, _, _, _, _, _, _]) d_Mo_holds_80 (Nat.le_of_ble_eq_true rfl) rfl ?_
          refine aw_aload_n d_Mo_holds_82 rfl rfl ?_
          refine aw_getR fd_Mo_kind lk_Mo_16 (by omega) rfl d_Mo_holds_83 (hR _ _) ?_
          refine aw_pc (pc' := 86) rfl ?_
          refine aw_iload_n d_Mo_holds_86 rfl rfl ?_
          refine aw_iald (n := l) (by omega) rfl rfl (by omega) d_Mo_holds_87 ?_
          refine aw_if_ne (tgt := 106) d_Mo_holds_88 rfl (fun h88 => ?_) (fun h88 => ?_)
          · refine aw_aload_n d_Mo_holds_106 rfl rfl ?_
            refine aw_getR fd_Mo_kind lk_Mo_16 (by omega) rfl d_Mo_holds_107 (hR _ _) ?_
            refine aw_iload_n d_Mo_holds_110 rfl rfl ?_
            refine aw_iald (n := l) (by omega) rfl rfl (by omega) d_Mo_holds_111 ?_
            refine aw_iconst d_Mo_holds_112 (in_c rfl) ?_
            refine aw_icmp_ne (tgt := 131) d_Mo_holds_113 rfl (fun h113 => ?_) (fun h113 => ?_)
            · refine aw_aload_n d_Mo_holds_131 rfl rfl ?_
              refine aw_getR fd_Mo_kind lk_Mo_16 (by omega) rfl d_Mo_holds_132 (hR _ _) ?_
              refine aw_iload_n d_Mo_holds_135 rfl rfl ?_
              refine aw_iald (n := l) (by omega) rfl rfl (by omega) d_Mo_holds_136 ?_
              refine aw_iconst d_Mo_holds_137 (in_c rfl) ?_
              refine aw_icmp_ne (tgt := 156) d_Mo_holds_138 rfl (fun h138 => ?_) (fun h138 => ?_)
              · refine aw_iload d_Mo_holds_156 rfl ?_
                refine aw_iload d_Mo_holds_158 rfl ?_
                refine aw_icmp_eq (tgt := 167) d_Mo_holds_160 rfl (fun h160 => ?_) (fun h160 => ?_)
                · refine aw_iconst d_Mo_holds_167 (in_c rfl) ?_
                  exact aw_zret d_Mo_holds_168 rfl rfl ⟨by first | (rw [show oHd μ l x y z = true from decide_eq_true (by unfold hz; rw [if_pos (by omega)])]; rfl) | (rw [show oHd μ l x y z = false from decide_eq_false (by unfold hz; rw [if_neg (by omega)]; decide)]; rfl), rfl, rfl⟩
                · refine aw_iconst d_Mo_holds_163 (in_c rfl) ?_
                  refine aw_goto (tgt := 168) d_Mo_holds_164 rfl ?_
                  exact aw_zret d_Mo_holds_168 rfl rfl ⟨by first | (rw [show oHd μ l x y z = true from decide_eq_true (by unfold hz; rw [if_pos (by omega)])]; rfl) | (rw [show oHd μ l x y z = false from decide_eq_false (by unfold hz; rw [if_neg (by omega)]; decide)]; rfl), rfl, rfl⟩
              · refine aw_iload d_Mo_holds_141 rfl ?_
                refine aw_iload d_Mo_holds_143 rfl ?_
                refine aw_icmp_ne (tgt := 152) d_Mo_holds_145 rfl (fun h145 => ?_) (fun h145 => ?_)
                · refine aw_iconst d_Mo_holds_152 (in_c rfl) ?_
                  refine aw_goto (tgt := 168) d_Mo_holds_153 rfl ?_
                  exact aw_zret d_Mo_holds_168 rfl rfl ⟨by first | (rw [show oHd μ l x y z = true from decide_eq_true (by unfold hz; rw [if_pos (by omega)])]; rfl) | (rw [show oHd μ l x y z = false from decide_eq_false (by unfold hz; rw [if_neg (by omega)]; decide)]; rfl), rfl, rfl⟩
                · refine aw_iconst d_Mo_holds_148 (in_c rfl) ?_
                  refine aw_goto (tgt := 168) d_Mo_holds_149 rfl ?_
                  exact aw_zret d_Mo_holds_168 rfl rfl ⟨by first | (rw [show oHd μ l x y z = true from decide_eq_true (by unfold hz; rw [if_pos (by omega)])]; rfl) | (rw [show oHd μ l x y z = false from decide_eq_false (by unfold hz; rw [if_neg (by omega)]; decide)]; rfl), rfl, rfl⟩
            · refine aw_iload d_Mo_holds_116 rfl ?_
              refine aw_iload d_Mo_holds_118 rfl ?_
              refine aw_icmp_ge (tgt := 127) d_Mo_holds_120 rfl (fun h120 => ?_) (fun h120 => ?_)
              · refine aw_iconst d_Mo_holds_127 (in_c rfl) ?_
                refine aw_goto (tgt := 168) d_Mo_holds_128 rfl ?_
                exact aw_zret d_Mo_holds_168 rfl rfl ⟨by first | (rw [show oHd μ l x y z = true from decide_eq_true (by unfold hz; rw [if_pos (by omega)])]; rfl) | (rw [show oHd μ l x y z = false from decide_eq_false (by unfold hz; rw [if_neg (by omega)]; decide)]; rfl), rfl, rfl⟩
              · refine aw_iconst d_Mo_holds_123 (in_c rfl) ?_
                refine aw_goto (tgt := 168) d_Mo_holds_124 rfl ?_
                exact aw_zret d_Mo_holds_168 rfl rfl ⟨by first | (rw [show oHd μ l x y z = true from decide_eq_true (by unfold hz; rw [if_pos (by omega)])]; rfl) | (rw [show oHd μ l x y z = false from decide_eq_false (by unfold hz; rw [if_neg (by omega)]; decide)]; rfl), rfl, rfl⟩
          · refine aw_iload d_Mo_holds_91 rfl ?_
            refine aw_iload d_Mo_holds_93 rfl ?_
            refine aw_icmp_gt (tgt := 102) d_Mo_holds_95 rfl (fun h95 => ?_) (fun h95 => ?_)
            · refine aw_iconst d_Mo_holds_102 (in_c rfl) ?_
              refine aw_goto (tgt := 168) d_Mo_holds_103 rfl ?_
              exact aw_zret d_Mo_holds_168 rfl rfl ⟨by first | (rw [show oHd μ l x y z = true from decide_eq_true (by unfold hz; rw [if_pos (by omega)])]; rfl) | (rw [show oHd μ l x y z = false from decide_eq_false (by unfold hz; rw [if_neg (by omega)]; decide)]; rfl), rfl, rfl⟩
            · refine aw_iconst d_Mo_holds_98 (in_c rfl) ?_
              refine aw_goto (tgt := 168) d_Mo_holds_99 rfl ?_
              exact aw_zret d_Mo_holds_168 rfl rfl ⟨by first | (rw [show oHd μ l x y z = true from decide_eq_true (by unfold hz; rw [if_pos (by omega)])]; rfl) | (rw [show oHd μ l x y z = false from decide_eq_false (by unfold hz; rw [if_neg (by omega)]; decide)]; rfl), rfl, rfl⟩
      · refine aw_iconst d_Mo_holds_46 (in_c rfl) ?_
        refine aw_tv (v' := sb3 (mI μ 72 l) x y z) (by unfold sb3; rw [if_pos (by omega)]) ?_
        refine aw_goto (tgt := 71) d_Mo_holds_47 rfl ?_
        refine aw_isub d_Mo_holds_71 (by unfold inR; omega) ?_
        refine aw_istore (lst' := [_, _, _, _, _, _, _, _, _]) d_Mo_holds_72 (Nat.le_of_ble_eq_true rfl) rfl ?_
        refine aw_aload_n d_Mo_holds_74 rfl rfl ?_
        refine aw_getR fd_Mo_bound lk_Mo_25 (by omega) rfl d_Mo_holds_75 (hR _ _) ?_
        refine aw_iload_n d_Mo_holds_78 rfl rfl ?_
        refine aw_iald (n := l) (by omega) rfl rfl (by omega) d_Mo_holds_79 ?_
        refine aw_istore (lst' := [_, _, _, _, _, _, _, _, _]) d_Mo_holds_80 (Nat.le_of_ble_eq_true rfl) rfl ?_
        refine aw_aload_n d_Mo_holds_82 rfl rfl ?_
        refine aw_getR fd_Mo_kind lk_Mo_16 (by omega) rfl d_Mo_holds_83 (hR _ _) ?_
        refine aw_pc (pc' := 86) rfl ?_
        refine aw_iload_n d_Mo_holds_86 rfl rfl ?_
        refine aw_iald (n := l) (by omega) rfl rfl (by omega) d_Mo_holds_87 ?_
        refine aw_if_ne (tgt := 106) d_Mo_holds_88 rfl (fun h88 => ?_) (fun h88 => ?_)
        · refine aw_aload_n d_Mo_holds_106 rfl rfl ?_
          refine aw_getR fd_Mo_kind lk_Mo_16 (by omega) rfl d_Mo_holds_107 (hR _ _) ?_
          refine aw_iload_n d_Mo_holds_110 rfl rfl ?_
          refine aw_iald (n := l) (by omega) rfl rfl (by omega) d_Mo_holds_111 ?_
          refine aw_iconst d_Mo_holds_112 (in_c rfl) ?_
          refine aw_icmp_ne (tgt := 131) d_Mo_holds_113 rfl (fun h113 => ?_) (fun h113 => ?_)
          · refine aw_aload_n d_Mo_holds_131 rfl rfl ?_
            refine aw_getR fd_Mo_kind lk_Mo_16 (by omega) rfl d_Mo_holds_132 (hR _ _) ?_
            refine aw_iload_n d_Mo_holds_135 rfl rfl ?_
            refine aw_iald (n := l) (by omega) rfl rfl (by omega) d_Mo_holds_136 ?_
            refine aw_iconst d_Mo_holds_137 (in_c rfl) ?_
            refine aw_icmp_ne (tgt := 156) d_Mo_holds_138 rfl (fun h138 => ?_) (fun h138 => ?_)
            · refine aw_iload d_Mo_holds_156 rfl ?_
              refine aw_iload d_Mo_holds_158 rfl ?_
              refine aw_icmp_eq (tgt := 167) d_Mo_holds_160 rfl (fun h160 => ?_) (fun h160 => ?_)
              · refine aw_iconst d_Mo_holds_167 (in_c rfl) ?_
                exact aw_zret d_Mo_holds_168 rfl rfl ⟨by first | (rw [show oHd μ l x y z = true from decide_eq_true (by unfold hz; rw [if_pos (by omega)])]; rfl) | (rw [show oHd μ l x y z = false from decide_eq_false (by unfold hz; rw [if_neg (by omega)]; decide)]; rfl), rfl, rfl⟩
              · refine aw_iconst d_Mo_holds_163 (in_c rfl) ?_
                refine aw_goto (tgt := 168) d_Mo_holds_164 rfl ?_
                exact aw_zret d_Mo_holds_168 rfl rfl ⟨by first | (rw [show oHd μ l x y z = true from decide_eq_true (by unfold hz; rw [if_pos (by omega)])]; rfl) | (rw [show oHd μ l x y z = false from decide_eq_false (by unfold hz; rw [if_neg (by omega)]; decide)]; rfl), rfl, rfl⟩
            · refine aw_iload d_Mo_holds_141 rfl ?_
              refine aw_iload d_Mo_holds_143 rfl ?_
              refine aw_icmp_ne (tgt := 152) d_Mo_holds_145 rfl (fun h145 => ?_) (fun h145 => ?_)
              · refine aw_iconst d_Mo_holds_152 (in_c rfl) ?_
                refine aw_goto (tgt := 168) d_Mo_holds_153 rfl ?_
                exact aw_zret d_Mo_holds_168 rfl rfl ⟨by first | (rw [show oHd μ l x y z = true from decide_eq_true (by unfold hz; rw [if_pos (by omega)])]; rfl) | (rw [show oHd μ l x y z = false from decide_eq_false (by unfold hz; rw [if_neg (by omega)]; decide)]; rfl), rfl, rfl⟩
              · refine aw_iconst d_Mo_holds_148 (in_c rfl) ?_
                refine aw_goto (tgt := 168) d_Mo_holds_149 rfl ?_
                exact aw_zret d_Mo_holds_168 rfl rfl ⟨by first | (rw [show oHd μ l x y z = true from decide_eq_true (by unfold hz; rw [if_pos (by omega)])]; rfl) | (rw [show oHd μ l x y z = false from decide_eq_false (by unfold hz; rw [if_neg (by omega)]; decide)]; rfl), rfl, rfl⟩
          · refine aw_iload d_Mo_holds_116 rfl ?_
            refine aw_iload d_Mo_holds_118 rfl ?_
            refine aw_icmp_ge (tgt := 127) d_Mo_holds_120 rfl (fun h120 => ?_) (fun h120 => ?_)
            · refine aw_iconst d_Mo_holds_127 (in_c rfl) ?_
              refine aw_goto (tgt := 168) d_Mo_holds_128 rfl ?_
              exact aw_zret d_Mo_holds_168 rfl rfl ⟨by first | (rw [show oHd μ l x y z = true from decide_eq_true (by unfold hz; rw [if_pos (by omega)])]; rfl) | (rw [show oHd μ l x y z = false from decide_eq_false (by unfold hz; rw [if_neg (by omega)]; decide)]; rfl), rfl, rfl⟩
            · refine aw_iconst d_Mo_holds_123 (in_c rfl) ?_
              refine aw_goto (tgt := 168) d_Mo_holds_124 rfl ?_
              exact aw_zret d_Mo_holds_168 rfl rfl ⟨by first | (rw [show oHd μ l x y z = true from decide_eq_true (by unfold hz; rw [if_pos (by omega)])]; rfl) | (rw [show oHd μ l x y z = false from decide_eq_false (by unfold hz; rw [if_neg (by omega)]; decide)]; rfl), rfl, rfl⟩
        · refine aw_iload d_Mo_holds_91 rfl ?_
          refine aw_iload d_Mo_holds_93 rfl ?_
          refine aw_icmp_gt (tgt := 102) d_Mo_holds_95 rfl (fun h95 => ?_) (fun h95 => ?_)
          · refine aw_iconst d_Mo_holds_102 (in_c rfl) ?_
            refine aw_goto (tgt := 168) d_Mo_holds_103 rfl ?_
            exact aw_zret d_Mo_holds_168 rfl rfl ⟨by first | (rw [show oHd μ l x y z = true from decide_eq_true (by unfold hz; rw [if_pos (by omega)])]; rfl) | (rw [show oHd μ l x y z = false from decide_eq_false (by unfold hz; rw [if_neg (by omega)]; decide)]; rfl), rfl, rfl⟩
          · refine aw_iconst d_Mo_holds_98 (in_c rfl) ?_
            refine aw_goto (tgt := 168) d_Mo_holds_99 rfl ?_
            exact aw_zret d_Mo_holds_168 rfl rfl ⟨by first | (rw [show oHd μ l x y z = true from decide_eq_true (by unfold hz; rw [if_pos (by omega)])]; rfl) | (rw [show oHd μ l x y z = false from decide_eq_false (by unfold hz; rw [if_neg (by omega)]; decide)]; rfl), rfl, rfl⟩
    · refine aw_iload_n d_Mo_holds_31 rfl rfl ?_
      refine aw_tv (v' := pk3 (mI μ 71 l) x y z) (by unfold pk3; rw [if_neg h18, if_pos h28]) ?_
      refine aw_goto (tgt := 37) d_Mo_holds_32 rfl ?_
      refine aw_istore (lst' := [_, _, _, _, _, _, _, _, _]) d_Mo_holds_37 (Nat.le_of_ble_eq_true rfl) rfl ?_
      refine aw_iload d_Mo_holds_39 rfl ?_
      refine aw_iload d_Mo_holds_41 rfl ?_
      refine aw_if_ge (tgt := 50) d_Mo_holds_43 rfl (fun h43 => ?_) (fun h43 => ?_)
      · refine aw_iload d_Mo_holds_50 rfl ?_
        refine aw_if_ne (tgt := 59) d_Mo_holds_52 rfl (fun h52 => ?_) (fun h52 => ?_)
        · refine aw_iload d_Mo_holds_59 rfl ?_
          refine aw_iconst d_Mo_holds_61 (in_c rfl) ?_
          refine aw_icmp_ne (tgt := 69) d_Mo_holds_62 rfl (fun h62 => ?_) (fun h62 => ?_)
          · refine aw_iload d_Mo_holds_69 rfl ?_
            refine aw_tv (v' := sb3 (mI μ 72 l) x y z) (by unfold sb3; rw [if_neg (by omega)]; unfold pk3; rw [if_neg h52, if_neg h62]) ?_
            refine aw_isub d_Mo_holds_71 (by unfold inR; omega) ?_
            refine aw_istore (lst' := [_, _, _, _, _, _, _, _, _]) d_Mo_holds_72 (Nat.le_of_ble_eq_true rfl) rfl ?_
            refine aw_aload_n d_Mo_holds_74 rfl rfl ?_
            refine aw_getR fd_Mo_bound lk_Mo_25 (by omega) rfl d_Mo_holds_75 (hR _ _) ?_
            refine aw_iload_n d_Mo_holds_78 rfl rfl ?_
            refine aw_iald (n := l) (by omega) rfl rfl (by omega) d_Mo_holds_79 ?_
            refine aw_istore (lst' := [_, _, _, _, _, _, _, _, _]) d_Mo_holds_80 (Nat.le_of_ble_eq_true rfl) rfl ?_
            refine aw_aload_n d_Mo_holds_82 rfl rfl ?_
            refine aw_getR fd_Mo_kind lk_Mo_16 (by omega) rfl d_Mo_holds_83 (hR _ _) ?_
            refine aw_iload_n d_Mo_holds_86 rfl rfl ?_
            refine aw_pc (pc' := 87) rfl ?_
            refine aw_iald (n := l) (by omega) rfl rfl (by omega) d_Mo_holds_87 ?_
            refine aw_if_ne (tgt := 106) d_Mo_holds_88 rfl (fun h88 => ?_) (fun h88 => ?_)
            · refine aw_aload_n d_Mo_holds_106 rfl rfl ?_
              refine aw_getR fd_Mo_kind lk_Mo_16 (by omega) rfl d_Mo_holds_107 (hR _ _) ?_
              refine aw_iload_n d_Mo_holds_110 rfl rfl ?_
              refine aw_iald (n := l) (by omega) rfl rfl (by omega) d_Mo_holds_111 ?_
              refine aw_iconst d_Mo_holds_112 (in_c rfl) ?_
              refine aw_icmp_ne (tgt := 131) d_Mo_holds_113 rfl (fun h113 => ?_) (fun h113 => ?_)
              · refine aw_aload_n d_Mo_holds_131 rfl rfl ?_
                refine aw_getR fd_Mo_kind lk_Mo_16 (by omega) rfl d_Mo_holds_132 (hR _ _) ?_
                refine aw_iload_n d_Mo_holds_135 rfl rfl ?_
                refine aw_iald (n := l) (by omega) rfl rfl (by omega) d_Mo_holds_136 ?_
                refine aw_iconst d_Mo_holds_137 (in_c rfl) ?_
                refine aw_icmp_ne (tgt := 156) d_Mo_holds_138 rfl (fun h138 => ?_) (fun h138 => ?_)
                · refine aw_iload d_Mo_holds_156 rfl ?_
                  refine aw_iload d_Mo_holds_158 rfl ?_
                  refine aw_icmp_eq (tgt := 167) d_Mo_holds_160 rfl (fun h160 => ?_) (fun h160 => ?_)
                  · refine aw_iconst d_Mo_holds_167 (in_c rfl) ?_
                    exact aw_zret d_Mo_holds_168 rfl rfl ⟨by first | (rw [show oHd μ l x y z = true from decide_eq_true (by unfold hz; rw [if_pos (by omega)])]; rfl) | (rw [show oHd μ l x y z = false from decide_eq_false (by unfold hz; rw [if_neg (by omega)]; decide)]; rfl), rfl, rfl⟩
                  · refine aw_iconst d_Mo_holds_163 (in_c rfl) ?_
                    refine aw_goto (tgt := 168) d_Mo_holds_164 rfl ?_
                    exact aw_zret d_Mo_holds_168 rfl rfl ⟨by first | (rw [show oHd μ l x y z = true from decide_eq_true (by unfold hz; rw [if_pos (by omega)])]; rfl) | (rw [show oHd μ l x y z = false from decide_eq_false (by unfold hz; rw [if_neg (by omega)]; decide)]; rfl), rfl, rfl⟩
                · refine aw_iload d_Mo_holds_141 rfl ?_
                  refine aw_iload d_Mo_holds_143 rfl ?_
                  refine aw_icmp_ne (tgt := 152) d_Mo_holds_145 rfl (fun h145 => ?_) (fun h145 => ?_)
                  · refine aw_iconst d_Mo_holds_152 (in_c rfl) ?_
                    refine aw_goto (tgt := 168) d_Mo_holds_153 rfl ?_
                    exact aw_zret d_Mo_holds_168 rfl rfl ⟨by first | (rw [show oHd μ l x y z = true from decide_eq_true (by unfold hz; rw [if_pos (by omega)])]; rfl) | (rw [show oHd μ l x y z = false from decide_eq_false (by unfold hz; rw [if_neg (by omega)]; decide)]; rfl), rfl, rfl⟩
                  · refine aw_iconst d_Mo_holds_148 (in_c rfl) ?_
                    refine aw_goto (tgt := 168) d_Mo_holds_149 rfl ?_
                    exact aw_zret d_Mo_holds_168 rfl rfl ⟨by first | (rw [show oHd μ l x y z = true from decide_eq_true (by unfold hz; rw [if_pos (by omega)])]; rfl) | (rw [show oHd μ l x y z = false from decide_eq_false (by unfold hz; rw [if_neg (by omega)]; decide)]; rfl), rfl, rfl⟩
              · refine aw_iload d_Mo_holds_116 rfl ?_
                refine aw_iload d_Mo_holds_118 rfl ?_
                refine aw_icmp_ge (tgt := 127) d_Mo_holds_120 rfl (fun h120 => ?_) (fun h120 => ?_)
                · refine aw_iconst d_Mo_holds_127 (in_c rfl) ?_
                  refine aw_goto (tgt := 168) d_Mo_holds_128 rfl ?_
                  exact aw_zret d_Mo_holds_168 rfl rfl ⟨by first | (rw [show oHd μ l x y z = true from decide_eq_true (by unfold hz; rw [if_pos (by omega)])]; rfl) | (rw [show oHd μ l x y z = false from decide_eq_false (by unfold hz; rw [if_neg (by omega)]; decide)]; rfl), rfl, rfl⟩
                · refine aw_iconst d_Mo_holds_123 (in_c rfl) ?_
                  refine aw_goto (tgt := 168) d_Mo_holds_124 rfl ?_
                  exact aw_zret d_Mo_holds_168 rfl rfl ⟨by first | (rw [show oHd μ l x y z = true from decide_eq_true (by unfold hz; rw [if_pos (by omega)])]; rfl) | (rw [show oHd μ l x y z = false from decide_eq_false (by unfold hz; rw [if_neg (by omega)]; decide)]; rfl), rfl, rfl⟩
            · refine aw_iload d_Mo_holds_91 rfl ?_
              refine aw_iload d_Mo_holds_93 rfl ?_
              refine aw_icmp_gt (tgt := 102) d_Mo_holds_95 rfl (fun h95 => ?_) (fun h95 => ?_)
              · refine aw_iconst d_Mo_holds_102 (in_c rfl) ?_
                refine aw_goto (tgt := 168) d_Mo_holds_103 rfl ?_
                exact aw_zret d_Mo_holds_168 rfl rfl ⟨by first | (rw [show oHd μ l x y z = true from decide_eq_true (by unfold hz; rw [if_pos (by omega)])]; rfl) | (rw [show oHd μ l x y z = false from decide_eq_false (by unfold hz; rw [if_neg (by omega)]; decide)]; rfl), rfl, rfl⟩
              · refine aw_iconst d_Mo_holds_98 (in_c rfl) ?_
                refine aw_goto (tgt := 168) d_Mo_holds_99 rfl ?_
                exact aw_zret d_Mo_holds_168 rfl rfl ⟨by first | (rw [show oHd μ l x y z = true from decide_eq_true (by unfold hz; rw [if_pos (by omega)])]; rfl) | (rw [show oHd μ l x y z = false from decide_eq_false (by unfold hz; rw [if_neg (by omega)]; decide)]; rfl), rfl, rfl⟩
          · refine aw_iload_n d_Mo_holds_65 rfl rfl ?_
            refine aw_tv (v' := sb3 (mI μ 72 l) x y z) (by unfold sb3; rw [if_neg (by omega)]; unfold pk3; rw [if_neg h52, if_pos h62]) ?_
            refine aw_goto (tgt := 71) d_Mo_holds_66 rfl ?_
            refine aw_isub d_Mo_holds_71 (by unfold inR; omega) ?_
            refine aw_istore (lst' := [_, _, _, _, _, _, _, _, _]) d_Mo_holds_72 (Nat.le_of_ble_eq_true rfl) rfl ?_
            refine aw_aload_n d_Mo_holds_74 rfl rfl ?_
            refine aw_getR fd_Mo_bound lk_Mo_25 (by omega) rfl d_Mo_holds_75 (hR _ _) ?_
            refine aw_iload_n d_Mo_holds_78 rfl rfl ?_
            refine aw_iald (n := l) (by omega) rfl rfl (by omega) d_Mo_holds_79 ?_
            refine aw_istore (lst' := [_, _, _, _, _, _, _, _, _]) d_Mo_holds_80 (Nat.le_of_ble_eq_true rfl) rfl ?_
            refine aw_aload_n d_Mo_holds_82 rfl rfl ?_
            refine aw_getR fd_Mo_kind lk_Mo_16 (by omega) rfl d_Mo_holds_83 (hR _ _) ?_
            refine aw_pc (pc' := 86) rfl ?_
            refine aw_iload_n d_Mo_holds_86 rfl rfl ?_
            refine aw_iald (n := l) (by omega) rfl rfl (by omega) d_Mo_holds_87 ?_
            refine aw_if_ne (tgt := 106) d_Mo_holds_88 rfl (fun h88 => ?_) (fun h88 => ?_)
            · refine aw_aload_n d_Mo_holds_106 rfl rfl ?_
              refine aw_getR fd_Mo_kind lk_Mo_16 (by omega) rfl d_Mo_holds_107 (hR _ _) ?_
              refine aw_iload_n d_Mo_holds_110 rfl rfl ?_
              refine aw_iald (n := l) (by omega) rfl rfl (by omega) d_Mo_holds_111 ?_
              refine aw_iconst d_Mo_holds_112 (in_c rfl) ?_
              refine aw_icmp_ne (tgt := 131) d_Mo_holds_113 rfl (fun h113 => ?_) (fun h113 => ?_)
              · refine aw_aload_n d_Mo_holds_131 rfl rfl ?_
                refine aw_getR fd_Mo_kind lk_Mo_16 (by omega) rfl d_Mo_holds_132 (hR _ _) ?_
                refine aw_iload_n d_Mo_holds_135 rfl rfl ?_
                refine aw_iald (n := l) (by omega) rfl rfl (by omega) d_Mo_holds_136 ?_
                refine aw_iconst d_Mo_holds_137 (in_c rfl) ?_
                refine aw_icmp_ne (tgt := 156) d_Mo_holds_138 rfl (fun h138 => ?_) (fun h138 => ?_)
                · refine aw_iload d_Mo_holds_156 rfl ?_
                  refine aw_iload d_Mo_holds_158 rfl ?_
                  refine aw_icmp_eq (tgt := 167) d_Mo_holds_160 rfl (fun h160 => ?_) (fun h160 => ?_)
                  · refine aw_iconst d_Mo_holds_167 (in_c rfl) ?_
                    exact aw_zret d_Mo_holds_168 rfl rfl ⟨by first | (rw [show oHd μ l x y z = true from decide_eq_true (by unfold hz; rw [if_pos (by omega)])]; rfl) | (rw [show oHd μ l x y z = false from decide_eq_false (by unfold hz; rw [if_neg (by omega)]; decide)]; rfl), rfl, rfl⟩
                  · refine aw_iconst d_Mo_holds_163 (in_c rfl) ?_
                    refine aw_goto (tgt := 168) d_Mo_holds_164 rfl ?_
                    exact aw_zret d_Mo_holds_168 rfl rfl ⟨by first | (rw [show oHd μ l x y z = true from decide_eq_true (by unfold hz; rw [if_pos (by omega)])]; rfl) | (rw [show oHd μ l x y z = false from decide_eq_false (by unfold hz; rw [if_neg (by omega)]; decide)]; rfl), rfl, rfl⟩
                · refine aw_iload d_Mo_holds_141 rfl ?_
                  refine aw_iload d_Mo_holds_143 rfl ?_
                  refine aw_icmp_ne (tgt := 152) d_Mo_holds_145 rfl (fun h145 => ?_) (fun h145 => ?_)
                  · refine aw_iconst d_Mo_holds_152 (in_c rfl) ?_
                    refine aw_goto (tgt := 168) d_Mo_holds_153 rfl ?_
                    exact aw_zret d_Mo_holds_168 rfl rfl ⟨by first | (rw [show oHd μ l x y z = true from decide_eq_true (by unfold hz; rw [if_pos (by omega)])]; rfl) | (rw [show oHd μ l x y z = false from decide_eq_false (by unfold hz; rw [if_neg (by omega)]; decide)]; rfl), rfl, rfl⟩
                  · refine aw_iconst d_Mo_holds_148 (in_c rfl) ?_
                    refine aw_goto (tgt := 168) d_Mo_holds_149 rfl ?_
                    exact aw_zret d_Mo_holds_168 rfl rfl ⟨by first | (rw [show oHd μ l x y z = true from decide_eq_true (by unfold hz; rw [if_pos (by omega)])]; rfl) | (rw [show oHd μ l x y z = false from decide_eq_false (by unfold hz; rw [if_neg (by omega)]; decide)]; rfl), rfl, rfl⟩
              · refine aw_iload d_Mo_holds_116 rfl ?_
                refine aw_iload d_Mo_holds_118 rfl ?_
                refine aw_icmp_ge (tgt := 127) d_Mo_holds_120 rfl (fun h120 => ?_) (fun h120 => ?_)
                · refine aw_iconst d_Mo_holds_127 (in_c rfl) ?_
                  refine aw_goto (tgt := 168) d_Mo_holds_128 rfl ?_
                  exact aw_zret d_Mo_holds_168 rfl rfl ⟨by first | (rw [show oHd μ l x y z = true from decide_eq_true (by unfold hz; rw [if_pos (by omega)])]; rfl) | (rw [show oHd μ l x y z = false from decide_eq_false (by unfold hz; rw [if_neg (by omega)]; decide)]; rfl), rfl, rfl⟩
                · refine aw_iconst d_Mo_holds_123 (in_c rfl) ?_
                  refine aw_goto (tgt := 168) d_Mo_holds_124 rfl ?_
                  exact aw_zret d_Mo_holds_168 rfl rfl ⟨by first | (rw [show oHd μ l x y z = true from decide_eq_true (by unfold hz; rw [if_pos (by omega)])]; rfl) | (rw [show oHd μ l x y z = false from decide_eq_false (by unfold hz; rw [if_neg (by omega)]; decide)]; rfl), rfl, rfl⟩
            · refine aw_iload d_Mo_holds_91 rfl ?_
              refine aw_iload d_Mo_holds_93 rfl ?_
              refine aw_icmp_gt (tgt := 102) d_Mo_holds_95 rfl (fun h95 => ?_) (fun h95 => ?_)
              · refine aw_iconst d_Mo_holds_102 (in_c rfl) ?_
                refine aw_goto (tgt := 168) d_Mo_holds_103 rfl ?_
                exact aw_zret d_Mo_holds_168 rfl rfl ⟨by first | (rw [show oHd μ l x y z = true from decide_eq_true (by unfold hz; rw [if_pos (by omega)])]; rfl) | (rw [show oHd μ l x y z = false from decide_eq_false (by unfold hz; rw [if_neg (by omega)]; decide)]; rfl), rfl, rfl⟩
              · refine aw_iconst d_Mo_holds_98 (in_c rfl) ?_
                refine aw_goto (tgt := 168) d_Mo_holds_99 rfl ?_
                exact aw_zret d_Mo_holds_168 rfl rfl ⟨by first | (rw [show oHd μ l x y z = true from decide_eq_true (by unfold hz; rw [if_pos (by omega)])]; rfl) | (rw [show oHd μ l x y z = false from decide_eq_false (by unfold hz; rw [if_neg (by omega)]; decide)]; rfl), rfl, rfl⟩
        · refine aw_iload_n d_Mo_holds_55 rfl rfl ?_
          refine aw_tv (v' := sb3 (mI μ 72 l) x y z) (by unfold sb3; rw [if_neg (by omega)]; unfold pk3; rw [if_pos h52]) ?_
          refine aw_goto (tgt := 71) d_Mo_holds_56 rfl ?_
          refine aw_isub d_Mo_holds_71 (by unfold inR; omega) ?_
          refine aw_istore (lst' := [_, _, _, _, _, _, _, _, _]) d_Mo_holds_72 (Nat.le_of_ble_eq_true rfl) rfl ?_
          refine aw_aload_n d_Mo_holds_74 rfl rfl ?_
          refine aw_getR fd_Mo_bound lk_Mo_25 (by omega) rfl d_Mo_holds_75 (hR _ _) ?_
          refine aw_iload_n d_Mo_holds_78 rfl rfl ?_
          refine aw_iald (n := l) (by omega) rfl rfl (by omega) d_Mo_holds_79 ?_
          refine aw_istore (lst' := [_, _, _, _, _, _, _, _, _]) d_Mo_holds_80 (Nat.le_of_ble_eq_true rfl) rfl ?_
          refine aw_aload_n d_Mo_holds_82 rfl rfl ?_
          refine aw_getR fd_Mo_kind lk_Mo_16 (by omega) rfl d_Mo_holds_83 (hR _ _) ?_
          refine aw_pc (pc' := 86) rfl ?_
          refine aw_iload_n d_Mo_holds_86 rfl rfl ?_
          refine aw_iald (n := l) (by omega) rfl rfl (by omega) d_Mo_holds_87 ?_
          refine aw_if_ne (tgt := 106) d_Mo_holds_88 rfl (fun h88 => ?_) (fun h88 => ?_)
          · refine aw_aload_n d_Mo_holds_106 rfl rfl ?_
            refine aw_getR fd_Mo_kind lk_Mo_16 (by omega) rfl d_Mo_holds_107 (hR _ _) ?_
            refine aw_iload_n d_Mo_holds_110 rfl rfl ?_
            refine aw_iald (n := l) (by omega) rfl rfl (by omega) d_Mo_holds_111 ?_
            refine aw_iconst d_Mo_holds_112 (in_c rfl) ?_
            refine aw_icmp_ne (tgt := 131) d_Mo_holds_113 rfl (fun h113 => ?_) (fun h113 => ?_)
            · refine aw_aload_n d_Mo_holds_131 rfl rfl ?_
              refine aw_getR fd_Mo_kind lk_Mo_16 (by omega) rfl d_Mo_holds_132 (hR _ _) ?_
              refine aw_iload_n d_Mo_holds_135 rfl rfl ?_
              refine aw_iald (n := l) (by omega) rfl rfl (by omega) d_Mo_holds_136 ?_
              refine aw_iconst d_Mo_holds_137 (in_c rfl) ?_
              refine aw_icmp_ne (tgt := 156) d_Mo_holds_138 rfl (fun h138 => ?_) (fun h138 => ?_)
              · refine aw_iload d_Mo_holds_156 rfl ?_
                refine aw_iload d_Mo_holds_158 rfl ?_
                refine aw_icmp_eq (tgt := 167) d_Mo_holds_160 rfl (fun h160 => ?_) (fun h160 => ?_)
                · refine aw_iconst d_Mo_holds_167 (in_c rfl) ?_
                  exact aw_zret d_Mo_holds_168 rfl rfl ⟨by first | (rw [show oHd μ l x y z = true from decide_eq_true (by unfold hz; rw [if_pos (by omega)])]; rfl) | (rw [show oHd μ l x y z = false from decide_eq_false (by unfold hz; rw [if_neg (by omega)]; decide)]; rfl), rfl, rfl⟩
                · refine aw_iconst d_Mo_holds_163 (in_c rfl) ?_
                  refine aw_goto (tgt := 168) d_Mo_holds_164 rfl ?_
                  exact aw_zret d_Mo_holds_168 rfl rfl ⟨by first | (rw [show oHd μ l x y z = true from decide_eq_true (by unfold hz; rw [if_pos (by omega)])]; rfl) | (rw [show oHd μ l x y z = false from decide_eq_false (by unfold hz; rw [if_neg (by omega)]; decide)]; rfl), rfl, rfl⟩
              · refine aw_iload d_Mo_holds_141 rfl ?_
                refine aw_iload d_Mo_holds_143 rfl ?_
                refine aw_icmp_ne (tgt := 152) d_Mo_holds_145 rfl (fun h145 => ?_) (fun h145 => ?_)
                · refine aw_iconst d_Mo_holds_152 (in_c rfl) ?_
                  refine aw_goto (tgt := 168) d_Mo_holds_153 rfl ?_
                  exact aw_zret d_Mo_holds_168 rfl rfl ⟨by first | (rw [show oHd μ l x y z = true from decide_eq_true (by unfold hz; rw [if_pos (by omega)])]; rfl) | (rw [show oHd μ l x y z = false from decide_eq_false (by unfold hz; rw [if_neg (by omega)]; decide)]; rfl), rfl, rfl⟩
                · refine aw_iconst d_Mo_holds_148 (in_c rfl) ?_
                  refine aw_goto (tgt := 168) d_Mo_holds_149 rfl ?_
                  exact aw_zret d_Mo_holds_168 rfl rfl ⟨by first | (rw [show oHd μ l x y z = true from decide_eq_true (by unfold hz; rw [if_pos (by omega)])]; rfl) | (rw [show oHd μ l x y z = false from decide_eq_false (by unfold hz; rw [if_neg (by omega)]; decide)]; rfl), rfl, rfl⟩
            · refine aw_iload d_Mo_holds_116 rfl ?_
              refine aw_iload d_Mo_holds_118 rfl ?_
              refine aw_icmp_ge (tgt := 127) d_Mo_holds_120 rfl (fun h120 => ?_) (fun h120 => ?_)
              · refine aw_iconst d_Mo_holds_127 (in_c rfl) ?_
                refine aw_goto (tgt := 168) d_Mo_holds_128 rfl ?_
                exact aw_zret d_Mo_holds_168 rfl rfl ⟨by first | (rw [show oHd μ l x y z = true from decide_eq_true (by unfold hz; rw [if_pos (by omega)])]; rfl) | (rw [show oHd μ l x y z = false from decide_eq_false (by unfold hz; rw [if_neg (by omega)]; decide)]; rfl), rfl, rfl⟩
              · refine aw_iconst d_Mo_holds_123 (in_c rfl) ?_
                refine aw_goto (tgt := 168) d_Mo_holds_124 rfl ?_
                exact aw_zret d_Mo_holds_168 rfl rfl ⟨by first | (rw [show oHd μ l x y z = true from decide_eq_true (by unfold hz; rw [if_pos (by omega)])]; rfl) | (rw [show oHd μ l x y z = false from decide_eq_false (by unfold hz; rw [if_neg (by omega)]; decide)]; rfl), rfl, rfl⟩
          · refine aw_iload d_Mo_holds_91 rfl ?_
            refine aw_iload d_Mo_holds_93 rfl ?_
            refine aw_icmp_gt (tgt := 102) d_Mo_holds_95 rfl (fun h95 => ?_) (fun h95 => ?_)
            · refine aw_iconst d_Mo_holds_102 (in_c rfl) ?_
              refine aw_goto (tgt := 168) d_Mo_holds_103 rfl ?_
              exact aw_zret d_Mo_holds_168 rfl rfl ⟨by first | (rw [show oHd μ l x y z = true from decide_eq_true (by unfold hz; rw [if_pos (by omega)])]; rfl) | (rw [show oHd μ l x y z = false from decide_eq_false (by unfold hz; rw [if_neg (by omega)]; decide)]; rfl), rfl, rfl⟩
            · refine aw_iconst d_Mo_holds_98 (in_c rfl) ?_
              refine aw_goto (tgt := 168) d_Mo_holds_99 rfl ?_
              exact aw_zret d_Mo_holds_168 rfl rfl ⟨by first | (rw [show oHd μ l x y z = true from decide_eq_true (by unfold hz; rw [if_pos (by omega)])]; rfl) | (rw [show oHd μ l x y z = false from decide_eq_false (by unfold hz; rw [if_neg (by omega)]; decide)]; rfl), rfl, rfl⟩
      · refine aw_iconst d_Mo_holds_46 (in_c rfl) ?_
        refine aw_tv (v' := sb3 (mI μ 72 l) x y z) (by unfold sb3; rw [if_pos (by omega)]) ?_
        refine aw_goto (tgt := 71) d_Mo_holds_47 rfl ?_
        refine aw_isub d_Mo_holds_71 (by unfold inR; omega) ?_
        refine aw_istore (lst' := [_, _, _, _, _, _, _, _, _]) d_Mo_holds_72 (Nat.le_of_ble_eq_true rfl) rfl ?_
        refine aw_aload_n d_Mo_holds_74 rfl rfl ?_
        refine aw_getR fd_Mo_bound lk_Mo_25 (by omega) rfl d_Mo_holds_75 (hR _ _) ?_
        refine aw_iload_n d_Mo_holds_78 rfl rfl ?_
        refine aw_iald (n := l) (by omega) rfl rfl (by omega) d_Mo_holds_79 ?_
        refine aw_istore (lst' := [_, _, _, _, _, _, _, _, _]) d_Mo_holds_80 (Nat.le_of_ble_eq_true rfl) rfl ?_
        refine aw_aload_n d_Mo_holds_82 rfl rfl ?_
        refine aw_getR fd_Mo_kind lk_Mo_16 (by omega) rfl d_Mo_holds_83 (hR _ _) ?_
        refine aw_pc (pc' := 86) rfl ?_
        refine aw_iload_n d_Mo_holds_86 rfl rfl ?_
        refine aw_iald (n := l) (by omega) rfl rfl (by omega) d_Mo_holds_87 ?_
        refine aw_if_ne (tgt := 106) d_Mo_holds_88 rfl (fun h88 => ?_) (fun h88 => ?_)
        · refine aw_aload_n d_Mo_holds_106 rfl rfl ?_
          refine aw_getR fd_Mo_kind lk_Mo_16 (by omega) rfl d_Mo_holds_107 (hR _ _) ?_
          refine aw_iload_n d_Mo_holds_110 rfl rfl ?_
          refine aw_iald (n := l) (by omega) rfl rfl (by omega) d_Mo_holds_111 ?_
          refine aw_iconst d_Mo_holds_112 (in_c rfl) ?_
          refine aw_icmp_ne (tgt := 131) d_Mo_holds_113 rfl (fun h113 => ?_) (fun h113 => ?_)
          · refine aw_aload_n d_Mo_holds_131 rfl rfl ?_
            refine aw_getR fd_Mo_kind lk_Mo_16 (by omega) rfl d_Mo_holds_132 (hR _ _) ?_
            refine aw_iload_n d_Mo_holds_135 rfl rfl ?_
            refine aw_iald (n := l) (by omega) rfl rfl (by omega) d_Mo_holds_136 ?_
            refine aw_iconst d_Mo_holds_137 (in_c rfl) ?_
            refine aw_icmp_ne (tgt := 156) d_Mo_holds_138 rfl (fun h138 => ?_) (fun h138 => ?_)
            · refine aw_iload d_Mo_holds_156 rfl ?_
              refine aw_iload d_Mo_holds_158 rfl ?_
              refine aw_icmp_eq (tgt := 167) d_Mo_holds_160 rfl (fun h160 => ?_) (fun h160 => ?_)
              · refine aw_iconst d_Mo_holds_167 (in_c rfl) ?_
                exact aw_zret d_Mo_holds_168 rfl rfl ⟨by first | (rw [show oHd μ l x y z = true from decide_eq_true (by unfold hz; rw [if_pos (by omega)])]; rfl) | (rw [show oHd μ l x y z = false from decide_eq_false (by unfold hz; rw [if_neg (by omega)]; decide)]; rfl), rfl, rfl⟩
              · refine aw_iconst d_Mo_holds_163 (in_c rfl) ?_
                refine aw_goto (tgt := 168) d_Mo_holds_164 rfl ?_
                exact aw_zret d_Mo_holds_168 rfl rfl ⟨by first | (rw [show oHd μ l x y z = true from decide_eq_true (by unfold hz; rw [if_pos (by omega)])]; rfl) | (rw [show oHd μ l x y z = false from decide_eq_false (by unfold hz; rw [if_neg (by omega)]; decide)]; rfl), rfl, rfl⟩
            · refine aw_iload d_Mo_holds_141 rfl ?_
              refine aw_iload d_Mo_holds_143 rfl ?_
              refine aw_icmp_ne (tgt := 152) d_Mo_holds_145 rfl (fun h145 => ?_) (fun h145 => ?_)
              · refine aw_iconst d_Mo_holds_152 (in_c rfl) ?_
                refine aw_goto (tgt := 168) d_Mo_holds_153 rfl ?_
                exact aw_zret d_Mo_holds_168 rfl rfl ⟨by first | (rw [show oHd μ l x y z = true from decide_eq_true (by unfold hz; rw [if_pos (by omega)])]; rfl) | (rw [show oHd μ l x y z = false from decide_eq_false (by unfold hz; rw [if_neg (by omega)]; decide)]; rfl), rfl, rfl⟩
              · refine aw_iconst d_Mo_holds_148 (in_c rfl) ?_
                refine aw_goto (tgt := 168) d_Mo_holds_149 rfl ?_
                exact aw_zret d_Mo_holds_168 rfl rfl ⟨by first | (rw [show oHd μ l x y z = true from decide_eq_true (by unfold hz; rw [if_pos (by omega)])]; rfl) | (rw [show oHd μ l x y z = false from decide_eq_false (by unfold hz; rw [if_neg (by omega)]; decide)]; rfl), rfl, rfl⟩
          · refine aw_iload d_Mo_holds_116 rfl ?_
            refine aw_iload d_Mo_holds_118 rfl ?_
            refine aw_icmp_ge (tgt := 127) d_Mo_holds_120 rfl (fun h120 => ?_) (fun h120 => ?_)
            · refine aw_iconst d_Mo_holds_127 (in_c rfl) ?_
              refine aw_goto (tgt := 168) d_Mo_holds_128 rfl ?_
              exact aw_zret d_Mo_holds_168 rfl rfl ⟨by first | (rw [show oHd μ l x y z = true from decide_eq_true (by unfold hz; rw [if_pos (by omega)])]; rfl) | (rw [show oHd μ l x y z = false from decide_eq_false (by unfold hz; rw [if_neg (by omega)]; decide)]; rfl), rfl, rfl⟩
            · refine aw_iconst d_Mo_holds_123 (in_c rfl) ?_
              refine aw_goto (tgt := 168) d_Mo_holds_124 rfl ?_
              exact aw_zret d_Mo_holds_168 rfl rfl ⟨by first | (rw [show oHd μ l x y z = true from decide_eq_true (by unfold hz; rw [if_pos (by omega)])]; rfl) | (rw [show oHd μ l x y z = false from decide_eq_false (by unfold hz; rw [if_neg (by omega)]; decide)]; rfl), rfl, rfl⟩
        · refine aw_iload d_Mo_holds_91 rfl ?_
          refine aw_iload d_Mo_holds_93 rfl ?_
          refine aw_icmp_gt (tgt := 102) d_Mo_holds_95 rfl (fun h95 => ?_) (fun h95 => ?_)
          · refine aw_iconst d_Mo_holds_102 (in_c rfl) ?_
            refine aw_goto (tgt := 168) d_Mo_holds_103 rfl ?_
            exact aw_zret d_Mo_holds_168 rfl rfl ⟨by first | (rw [show oHd μ l x y z = true from decide_eq_true (by unfold hz; rw [if_pos (by omega)])]; rfl) | (rw [show oHd μ l x y z = false from decide_eq_false (by unfold hz; rw [if_neg (by omega)]; decide)]; rfl), rfl, rfl⟩
          · refine aw_iconst d_Mo_holds_98 (in_c rfl) ?_
            refine aw_goto (tgt := 168) d_Mo_holds_99 rfl ?_
            exact aw_zret d_Mo_holds_168 rfl rfl ⟨by first | (rw [show oHd μ l x y z = true from decide_eq_true (by unfold hz; rw [if_pos (by omega)])]; rfl) | (rw [show oHd μ l x y z = false from decide_eq_false (by unfold hz; rw [if_neg (by omega)]; decide)]; rfl), rfl, rfl⟩
  · refine aw_iload_n d_Mo_holds_21 rfl rfl ?_
    refine aw_tv (v' := pk3 (mI μ 71 l) x y z) (by unfold pk3; rw [if_pos h18]) ?_
    refine aw_goto (tgt := 37) d_Mo_holds_22 rfl ?_
    refine aw_istore (lst' := [_, _, _, _, _, _, _, _, _]) d_Mo_holds_37 (Nat.le_of_ble_eq_true rfl) rfl ?_
    refine aw_iload d_Mo_holds_39 rfl ?_
    refine aw_iload d_Mo_holds_41 rfl ?_
    refine aw_if_ge (tgt := 50) d_Mo_holds_43 rfl (fun h43 => ?_) (fun h43 => ?_)
    · refine aw_iload d_Mo_holds_50 rfl ?_
      refine aw_if_ne (tgt := 59) d_Mo_holds_52 rfl (fun h52 => ?_) (fun h52 => ?_)
      · refine aw_iload d_Mo_holds_59 rfl ?_
        refine aw_iconst d_Mo_holds_61 (in_c rfl) ?_
        refine aw_icmp_ne (tgt := 69) d_Mo_holds_62 rfl (fun h62 => ?_) (fun h62 => ?_)
        · refine aw_iload d_Mo_holds_69 rfl ?_
          refine aw_tv (v' := sb3 (mI μ 72 l) x y z) (by unfold sb3; rw [if_neg (by omega)]; unfold pk3; rw [if_neg h52, if_neg h62]) ?_
          refine aw_isub d_Mo_holds_71 (by unfold inR; omega) ?_
          refine aw_istore (lst' := [_, _, _, _, _, _, _, _, _]) d_Mo_holds_72 (Nat.le_of_ble_eq_true rfl) rfl ?_
          refine aw_aload_n d_Mo_holds_74 rfl rfl ?_
          refine aw_getR fd_Mo_bound lk_Mo_25 (by omega) rfl d_Mo_holds_75 (hR _ _) ?_
          refine aw_iload_n d_Mo_holds_78 rfl rfl ?_
          refine aw_iald (n := l) (by omega) rfl rfl (by omega) d_Mo_holds_79 ?_
          refine aw_istore (lst' := [_, _, _, _, _, _, _, _, _]) d_Mo_holds_80 (Nat.le_of_ble_eq_true rfl) rfl ?_
          refine aw_aload_n d_Mo_holds_82 rfl rfl ?_
          refine aw_getR fd_Mo_kind lk_Mo_16 (by omega) rfl d_Mo_holds_83 (hR _ _) ?_
          refine aw_iload_n d_Mo_holds_86 rfl rfl ?_
          refine aw_pc (pc' := 87) rfl ?_
          refine aw_iald (n := l) (by omega) rfl rfl (by omega) d_Mo_holds_87 ?_
          refine aw_if_ne (tgt := 106) d_Mo_holds_88 rfl (fun h88 => ?_) (fun h88 => ?_)
          · refine aw_aload_n d_Mo_holds_106 rfl rfl ?_
            refine aw_getR fd_Mo_kind lk_Mo_16 (by omega) rfl d_Mo_holds_107 (hR _ _) ?_
            refine aw_iload_n d_Mo_holds_110 rfl rfl ?_
            refine aw_iald (n := l) (by omega) rfl rfl (by omega) d_Mo_holds_111 ?_
            refine aw_iconst d_Mo_holds_112 (in_c rfl) ?_
            refine aw_icmp_ne (tgt := 131) d_Mo_holds_113 rfl (fun h113 => ?_) (fun h113 => ?_)
            · refine aw_aload_n d_Mo_holds_131 rfl rfl ?_
              refine aw_getR fd_Mo_kind lk_Mo_16 (by omega) rfl d_Mo_holds_132 (hR _ _) ?_
              refine aw_iload_n d_Mo_holds_135 rfl rfl ?_
              refine aw_iald (n := l) (by omega) rfl rfl (by omega) d_Mo_holds_136 ?_
              refine aw_iconst d_Mo_holds_137 (in_c rfl) ?_
              refine aw_icmp_ne (tgt := 156) d_Mo_holds_138 rfl (fun h138 => ?_) (fun h138 => ?_)
              · refine aw_iload d_Mo_holds_156 rfl ?_
                refine aw_iload d_Mo_holds_158 rfl ?_
                refine aw_icmp_eq (tgt := 167) d_Mo_holds_160 rfl (fun h160 => ?_) (fun h160 => ?_)
                · refine aw_iconst d_Mo_holds_167 (in_c rfl) ?_
                  exact aw_zret d_Mo_holds_168 rfl rfl ⟨by first | (rw [show oHd μ l x y z = true from decide_eq_true (by unfold hz; rw [if_pos (by omega)])]; rfl) | (rw [show oHd μ l x y z = false from decide_eq_false (by unfold hz; rw [if_neg (by omega)]; decide)]; rfl), rfl, rfl⟩
                · refine aw_iconst d_Mo_holds_163 (in_c rfl) ?_
                  refine aw_goto (tgt := 168) d_Mo_holds_164 rfl ?_
                  exact aw_zret d_Mo_holds_168 rfl rfl ⟨by first | (rw [show oHd μ l x y z = true from decide_eq_true (by unfold hz; rw [if_pos (by omega)])]; rfl) | (rw [show oHd μ l x y z = false from decide_eq_false (by unfold hz; rw [if_neg (by omega)]; decide)]; rfl), rfl, rfl⟩
              · refine aw_iload d_Mo_holds_141 rfl ?_
                refine aw_iload d_Mo_holds_143 rfl ?_
                refine aw_icmp_ne (tgt := 152) d_Mo_holds_145 rfl (fun h145 => ?_) (fun h145 => ?_)
                · refine aw_iconst d_Mo_holds_152 (in_c rfl) ?_
                  refine aw_goto (tgt := 168) d_Mo_holds_153 rfl ?_
                  exact aw_zret d_Mo_holds_168 rfl rfl ⟨by first | (rw [show oHd μ l x y z = true from decide_eq_true (by unfold hz; rw [if_pos (by omega)])]; rfl) | (rw [show oHd μ l x y z = false from decide_eq_false (by unfold hz; rw [if_neg (by omega)]; decide)]; rfl), rfl, rfl⟩
                · refine aw_iconst d_Mo_holds_148 (in_c rfl) ?_
                  refine aw_goto (tgt := 168) d_Mo_holds_149 rfl ?_
                  exact aw_zret d_Mo_holds_168 rfl rfl ⟨by first | (rw [show oHd μ l x y z = true from decide_eq_true (by unfold hz; rw [if_pos (by omega)])]; rfl) | (rw [show oHd μ l x y z = false from decide_eq_false (by unfold hz; rw [if_neg (by omega)]; decide)]; rfl), rfl, rfl⟩
            · refine aw_iload d_Mo_holds_116 rfl ?_
              refine aw_iload d_Mo_holds_118 rfl ?_
              refine aw_icmp_ge (tgt := 127) d_Mo_holds_120 rfl (fun h120 => ?_) (fun h120 => ?_)
              · refine aw_iconst d_Mo_holds_127 (in_c rfl) ?_
                refine aw_goto (tgt := 168) d_Mo_holds_128 rfl ?_
                exact aw_zret d_Mo_holds_168 rfl rfl ⟨by first | (rw [show oHd μ l x y z = true from decide_eq_true (by unfold hz; rw [if_pos (by omega)])]; rfl) | (rw [show oHd μ l x y z = false from decide_eq_false (by unfold hz; rw [if_neg (by omega)]; decide)]; rfl), rfl, rfl⟩
              · refine aw_iconst d_Mo_holds_123 (in_c rfl) ?_
                refine aw_goto (tgt := 168) d_Mo_holds_124 rfl ?_
                exact aw_zret d_Mo_holds_168 rfl rfl ⟨by first | (rw [show oHd μ l x y z = true from decide_eq_true (by unfold hz; rw [if_pos (by omega)])]; rfl) | (rw [show oHd μ l x y z = false from decide_eq_false (by unfold hz; rw [if_neg (by omega)]; decide)]; rfl), rfl, rfl⟩
          · refine aw_iload d_Mo_holds_91 rfl ?_
            refine aw_iload d_Mo_holds_93 rfl ?_
            refine aw_icmp_gt (tgt := 102) d_Mo_holds_95 rfl (fun h95 => ?_) (fun h95 => ?_)
            · refine aw_iconst d_Mo_holds_102 (in_c rfl) ?_
              refine aw_goto (tgt := 168) d_Mo_holds_103 rfl ?_
              exact aw_zret d_Mo_holds_168 rfl rfl ⟨by first | (rw [show oHd μ l x y z = true from decide_eq_true (by unfold hz; rw [if_pos (by omega)])]; rfl) | (rw [show oHd μ l x y z = false from decide_eq_false (by unfold hz; rw [if_neg (by omega)]; decide)]; rfl), rfl, rfl⟩
            · refine aw_iconst d_Mo_holds_98 (in_c rfl) ?_
              refine aw_goto (tgt := 168) d_Mo_holds_99 rfl ?_
              exact aw_zret d_Mo_holds_168 rfl rfl ⟨by first | (rw [show oHd μ l x y z = true from decide_eq_true (by unfold hz; rw [if_pos (by omega)])]; rfl) | (rw [show oHd μ l x y z = false from decide_eq_false (by unfold hz; rw [if_neg (by omega)]; decide)]; rfl), rfl, rfl⟩
        · refine aw_iload_n d_Mo_holds_65 rfl rfl ?_
          refine aw_tv (v' := sb3 (mI μ 72 l) x y z) (by unfold sb3; rw [if_neg (by omega)]; unfold pk3; rw [if_neg h52, if_pos h62]) ?_
          refine aw_goto (tgt := 71) d_Mo_holds_66 rfl ?_
          refine aw_isub d_Mo_holds_71 (by unfold inR; omega) ?_
          refine aw_istore (lst' := [_, _, _, _, _, _, _, _, _]) d_Mo_holds_72 (Nat.le_of_ble_eq_true rfl) rfl ?_
          refine aw_aload_n d_Mo_holds_74 rfl rfl ?_
          refine aw_getR fd_Mo_bound lk_Mo_25 (by omega) rfl d_Mo_holds_75 (hR _ _) ?_
          refine aw_iload_n d_Mo_holds_78 rfl rfl ?_
          refine aw_iald (n := l) (by omega) rfl rfl (by omega) d_Mo_holds_79 ?_
          refine aw_istore (lst' := [_, _, _, _, _, _, _, _, _]) d_Mo_holds_80 (Nat.le_of_ble_eq_true rfl) rfl ?_
          refine aw_aload_n d_Mo_holds_82 rfl rfl ?_
          refine aw_getR fd_Mo_kind lk_Mo_16 (by omega) rfl d_Mo_holds_83 (hR _ _) ?_
          refine aw_pc (pc' := 86) rfl ?_
          refine aw_iload_n d_Mo_holds_86 rfl rfl ?_
          refine aw_iald (n := l) (by omega) rfl rfl (by omega) d_Mo_holds_87 ?_
          refine aw_if_ne (tgt := 106) d_Mo_holds_88 rfl (fun h88 => ?_) (fun h88 => ?_)
          · refine aw_aload_n d_Mo_holds_106 rfl rfl ?_
            refine aw_getR fd_Mo_kind lk_Mo_16 (by omega) rfl d_Mo_holds_107 (hR _ _) ?_
            refine aw_iload_n d_Mo_holds_110 rfl rfl ?_
            refine aw_iald (n := l) (by omega) rfl rfl (by omega) d_Mo_holds_111 ?_
            refine aw_iconst d_Mo_holds_112 (in_c rfl) ?_
            refine aw_icmp_ne (tgt := 131) d_Mo_holds_113 rfl (fun h113 => ?_) (fun h113 => ?_)
            · refine aw_aload_n d_Mo_holds_131 rfl rfl ?_
              refine aw_getR fd_Mo_kind lk_Mo_16 (by omega) rfl d_Mo_holds_132 (hR _ _) ?_
              refine aw_iload_n d_Mo_holds_135 rfl rfl ?_
              refine aw_iald (n := l) (by omega) rfl rfl (by omega) d_Mo_holds_136 ?_
              refine aw_iconst d_Mo_holds_137 (in_c rfl) ?_
              refine aw_icmp_ne (tgt := 156) d_Mo_holds_138 rfl (fun h138 => ?_) (fun h138 => ?_)
              · refine aw_iload d_Mo_holds_156 rfl ?_
                refine aw_iload d_Mo_holds_158 rfl ?_
                refine aw_icmp_eq (tgt := 167) d_Mo_holds_160 rfl (fun h160 => ?_) (fun h160 => ?_)
                · refine aw_iconst d_Mo_holds_167 (in_c rfl) ?_
                  exact aw_zret d_Mo_holds_168 rfl rfl ⟨by first | (rw [show oHd μ l x y z = true from decide_eq_true (by unfold hz; rw [if_pos (by omega)])]; rfl) | (rw [show oHd μ l x y z = false from decide_eq_false (by unfold hz; rw [if_neg (by omega)]; decide)]; rfl), rfl, rfl⟩
                · refine aw_iconst d_Mo_holds_163 (in_c rfl) ?_
                  refine aw_goto (tgt := 168) d_Mo_holds_164 rfl ?_
                  exact aw_zret d_Mo_holds_168 rfl rfl ⟨by first | (rw [show oHd μ l x y z = true from decide_eq_true (by unfold hz; rw [if_pos (by omega)])]; rfl) | (rw [show oHd μ l x y z = false from decide_eq_false (by unfold hz; rw [if_neg (by omega)]; decide)]; rfl), rfl, rfl⟩
              · refine aw_iload d_Mo_holds_141 rfl ?_
                refine aw_iload d_Mo_holds_143 rfl ?_
                refine aw_icmp_ne (tgt := 152) d_Mo_holds_145 rfl (fun h145 => ?_) (fun h145 => ?_)
                · refine aw_iconst d_Mo_holds_152 (in_c rfl) ?_
                  refine aw_goto (tgt := 168) d_Mo_holds_153 rfl ?_
                  exact aw_zret d_Mo_holds_168 rfl rfl ⟨by first | (rw [show oHd μ l x y z = true from decide_eq_true (by unfold hz; rw [if_pos (by omega)])]; rfl) | (rw [show oHd μ l x y z = false from decide_eq_false (by unfold hz; rw [if_neg (by omega)]; decide)]; rfl), rfl, rfl⟩
                · refine aw_iconst d_Mo_holds_148 (in_c rfl) ?_
                  refine aw_goto (tgt := 168) d_Mo_holds_149 rfl ?_
                  exact aw_zret d_Mo_holds_168 rfl rfl ⟨by first | (rw [show oHd μ l x y z = true from decide_eq_true (by unfold hz; rw [if_pos (by omega)])]; rfl) | (rw [show oHd μ l x y z = false from decide_eq_false (by unfold hz; rw [if_neg (by omega)]; decide)]; rfl), rfl, rfl⟩
            · refine aw_iload d_Mo_holds_116 rfl ?_
              refine aw_iload d_Mo_holds_118 rfl ?_
              refine aw_icmp_ge (tgt := 127) d_Mo_holds_120 rfl (fun h120 => ?_) (fun h120 => ?_)
              · refine aw_iconst d_Mo_holds_127 (in_c rfl) ?_
                refine aw_goto (tgt := 168) d_Mo_holds_128 rfl ?_
                exact aw_zret d_Mo_holds_168 rfl rfl ⟨by first | (rw [show oHd μ l x y z = true from decide_eq_true (by unfold hz; rw [if_pos (by omega)])]; rfl) | (rw [show oHd μ l x y z = false from decide_eq_false (by unfold hz; rw [if_neg (by omega)]; decide)]; rfl), rfl, rfl⟩
              · refine aw_iconst d_Mo_holds_123 (in_c rfl) ?_
                refine aw_goto (tgt := 168) d_Mo_holds_124 rfl ?_
                exact aw_zret d_Mo_holds_168 rfl rfl ⟨by first | (rw [show oHd μ l x y z = true from decide_eq_true (by unfold hz; rw [if_pos (by omega)])]; rfl) | (rw [show oHd μ l x y z = false from decide_eq_false (by unfold hz; rw [if_neg (by omega)]; decide)]; rfl), rfl, rfl⟩
          · refine aw_iload d_Mo_holds_91 rfl ?_
            refine aw_iload d_Mo_holds_93 rfl ?_
            refine aw_icmp_gt (tgt := 102) d_Mo_holds_95 rfl (fun h95 => ?_) (fun h95 => ?_)
            · refine aw_iconst d_Mo_holds_102 (in_c rfl) ?_
              refine aw_goto (tgt := 168) d_Mo_holds_103 rfl ?_
              exact aw_zret d_Mo_holds_168 rfl rfl ⟨by first | (rw [show oHd μ l x y z = true from decide_eq_true (by unfold hz; rw [if_pos (by omega)])]; rfl) | (rw [show oHd μ l x y z = false from decide_eq_false (by unfold hz; rw [if_neg (by omega)]; decide)]; rfl), rfl, rfl⟩
            · refine aw_iconst d_Mo_holds_98 (in_c rfl) ?_
              refine aw_goto (tgt := 168) d_Mo_holds_99 rfl ?_
              exact aw_zret d_Mo_holds_168 rfl rfl ⟨by first | (rw [show oHd μ l x y z = true from decide_eq_true (by unfold hz; rw [if_pos (by omega)])]; rfl) | (rw [show oHd μ l x y z = false from decide_eq_false (by unfold hz; rw [if_neg (by omega)]; decide)]; rfl), rfl, rfl⟩
      · refine aw_iload_n d_Mo_holds_55 rfl rfl ?_
        refine aw_tv (v' := sb3 (mI μ 72 l) x y z) (by unfold sb3; rw [if_neg (by omega)]; unfold pk3; rw [if_pos h52]) ?_
        refine aw_goto (tgt := 71) d_Mo_holds_56 rfl ?_
        refine aw_isub d_Mo_holds_71 (by unfold inR; omega) ?_
        refine aw_istore (lst' := [_, _, _, _, _, _, _, _, _]) d_Mo_holds_72 (Nat.le_of_ble_eq_true rfl) rfl ?_
        refine aw_aload_n d_Mo_holds_74 rfl rfl ?_
        refine aw_getR fd_Mo_bound lk_Mo_25 (by omega) rfl d_Mo_holds_75 (hR _ _) ?_
        refine aw_iload_n d_Mo_holds_78 rfl rfl ?_
        refine aw_iald (n := l) (by omega) rfl rfl (by omega) d_Mo_holds_79 ?_
        refine aw_istore (lst' := [_, _, _, _, _, _, _, _, _]) d_Mo_holds_80 (Nat.le_of_ble_eq_true rfl) rfl ?_
        refine aw_aload_n d_Mo_holds_82 rfl rfl ?_
        refine aw_getR fd_Mo_kind lk_Mo_16 (by omega) rfl d_Mo_holds_83 (hR _ _) ?_
        refine aw_pc (pc' := 86) rfl ?_
        refine aw_iload_n d_Mo_holds_86 rfl rfl ?_
        refine aw_iald (n := l) (by omega) rfl rfl (by omega) d_Mo_holds_87 ?_
        refine aw_if_ne (tgt := 106) d_Mo_holds_88 rfl (fun h88 => ?_) (fun h88 => ?_)
        · refine aw_aload_n d_Mo_holds_106 rfl rfl ?_
          refine aw_getR fd_Mo_kind lk_Mo_16 (by omega) rfl d_Mo_holds_107 (hR _ _) ?_
          refine aw_iload_n d_Mo_holds_110 rfl rfl ?_
          refine aw_iald (n := l) (by omega) rfl rfl (by omega) d_Mo_holds_111 ?_
          refine aw_iconst d_Mo_holds_112 (in_c rfl) ?_
          refine aw_icmp_ne (tgt := 131) d_Mo_holds_113 rfl (fun h113 => ?_) (fun h113 => ?_)
          · refine aw_aload_n d_Mo_holds_131 rfl rfl ?_
            refine aw_getR fd_Mo_kind lk_Mo_16 (by omega) rfl d_Mo_holds_132 (hR _ _) ?_
            refine aw_iload_n d_Mo_holds_135 rfl rfl ?_
            refine aw_iald (n := l) (by omega) rfl rfl (by omega) d_Mo_holds_136 ?_
            refine aw_iconst d_Mo_holds_137 (in_c rfl) ?_
            refine aw_icmp_ne (tgt := 156) d_Mo_holds_138 rfl (fun h138 => ?_) (fun h138 => ?_)
            · refine aw_iload d_Mo_holds_156 rfl ?_
              refine aw_iload d_Mo_holds_158 rfl ?_
              refine aw_icmp_eq (tgt := 167) d_Mo_holds_160 rfl (fun h160 => ?_) (fun h160 => ?_)
              · refine aw_iconst d_Mo_holds_167 (in_c rfl) ?_
                exact aw_zret d_Mo_holds_168 rfl rfl ⟨by first | (rw [show oHd μ l x y z = true from decide_eq_true (by unfold hz; rw [if_pos (by omega)])]; rfl) | (rw [show oHd μ l x y z = false from decide_eq_false (by unfold hz; rw [if_neg (by omega)]; decide)]; rfl), rfl, rfl⟩
              · refine aw_iconst d_Mo_holds_163 (in_c rfl) ?_
                refine aw_goto (tgt := 168) d_Mo_holds_164 rfl ?_
                exact aw_zret d_Mo_holds_168 rfl rfl ⟨by first | (rw [show oHd μ l x y z = true from decide_eq_true (by unfold hz; rw [if_pos (by omega)])]; rfl) | (rw [show oHd μ l x y z = false from decide_eq_false (by unfold hz; rw [if_neg (by omega)]; decide)]; rfl), rfl, rfl⟩
            · refine aw_iload d_Mo_holds_141 rfl ?_
              refine aw_iload d_Mo_holds_143 rfl ?_
              refine aw_icmp_ne (tgt := 152) d_Mo_holds_145 rfl (fun h145 => ?_) (fun h145 => ?_)
              · refine aw_iconst d_Mo_holds_152 (in_c rfl) ?_
                refine aw_goto (tgt := 168) d_Mo_holds_153 rfl ?_
                exact aw_zret d_Mo_holds_168 rfl rfl ⟨by first | (rw [show oHd μ l x y z = true from decide_eq_true (by unfold hz; rw [if_pos (by omega)])]; rfl) | (rw [show oHd μ l x y z = false from decide_eq_false (by unfold hz; rw [if_neg (by omega)]; decide)]; rfl), rfl, rfl⟩
              · refine aw_iconst d_Mo_holds_148 (in_c rfl) ?_
                refine aw_goto (tgt := 168) d_Mo_holds_149 rfl ?_
                exact aw_zret d_Mo_holds_168 rfl rfl ⟨by first | (rw [show oHd μ l x y z = true from decide_eq_true (by unfold hz; rw [if_pos (by omega)])]; rfl) | (rw [show oHd μ l x y z = false from decide_eq_false (by unfold hz; rw [if_neg (by omega)]; decide)]; rfl), rfl, rfl⟩
          · refine aw_iload d_Mo_holds_116 rfl ?_
            refine aw_iload d_Mo_holds_118 rfl ?_
            refine aw_icmp_ge (tgt := 127) d_Mo_holds_120 rfl (fun h120 => ?_) (fun h120 => ?_)
            · refine aw_iconst d_Mo_holds_127 (in_c rfl) ?_
              refine aw_goto (tgt := 168) d_Mo_holds_128 rfl ?_
              exact aw_zret d_Mo_holds_168 rfl rfl ⟨by first | (rw [show oHd μ l x y z = true from decide_eq_true (by unfold hz; rw [if_pos (by omega)])]; rfl) | (rw [show oHd μ l x y z = false from decide_eq_false (by unfold hz; rw [if_neg (by omega)]; decide)]; rfl), rfl, rfl⟩
            · refine aw_iconst d_Mo_holds_123 (in_c rfl) ?_
              refine aw_goto (tgt := 168) d_Mo_holds_124 rfl ?_
              exact aw_zret d_Mo_holds_168 rfl rfl ⟨by first | (rw [show oHd μ l x y z = true from decide_eq_true (by unfold hz; rw [if_pos (by omega)])]; rfl) | (rw [show oHd μ l x y z = false from decide_eq_false (by unfold hz; rw [if_neg (by omega)]; decide)]; rfl), rfl, rfl⟩
        · refine aw_iload d_Mo_holds_91 rfl ?_
          refine aw_iload d_Mo_holds_93 rfl ?_
          refine aw_icmp_gt (tgt := 102) d_Mo_holds_95 rfl (fun h95 => ?_) (fun h95 => ?_)
          · refine aw_iconst d_Mo_holds_102 (in_c rfl) ?_
            refine aw_goto (tgt := 168) d_Mo_holds_103 rfl ?_
            exact aw_zret d_Mo_holds_168 rfl rfl ⟨by first | (rw [show oHd μ l x y z = true from decide_eq_true (by unfold hz; rw [if_pos (by omega)])]; rfl) | (rw [show oHd μ l x y z = false from decide_eq_false (by unfold hz; rw [if_neg (by omega)]; decide)]; rfl), rfl, rfl⟩
          · refine aw_iconst d_Mo_holds_98 (in_c rfl) ?_
            refine aw_goto (tgt := 168) d_Mo_holds_99 rfl ?_
            exact aw_zret d_Mo_holds_168 rfl rfl ⟨by first | (rw [show oHd μ l x y z = true from decide_eq_true (by unfold hz; rw [if_pos (by omega)])]; rfl) | (rw [show oHd μ l x y z = false from decide_eq_false (by unfold hz; rw [if_neg (by omega)]; decide)]; rfl), rfl, rfl⟩
    · refine aw_iconst d_Mo_holds_46 (in_c rfl) ?_
      refine aw_tv (v' := sb3 (mI μ 72 l) x y z) (by unfold sb3; rw [if_pos (by omega)]) ?_
      refine aw_goto (tgt := 71) d_Mo_holds_47 rfl ?_
      refine aw_isub d_Mo_holds_71 (by unfold inR; omega) ?_
      refine aw_istore (lst' := [_, _, _, _, _, _, _, _, _]) d_Mo_holds_72 (Nat.le_of_ble_eq_true rfl) rfl ?_
      refine aw_aload_n d_Mo_holds_74 rfl rfl ?_
      refine aw_getR fd_Mo_bound lk_Mo_25 (by omega) rfl d_Mo_holds_75 (hR _ _) ?_
      refine aw_iload_n d_Mo_holds_78 rfl rfl ?_
      refine aw_iald (n := l) (by omega) rfl rfl (by omega) d_Mo_holds_79 ?_
      refine aw_istore (lst' := [_, _, _, _, _, _, _, _, _]) d_Mo_holds_80 (Nat.le_of_ble_eq_true rfl) rfl ?_
      refine aw_aload_n d_Mo_holds_82 rfl rfl ?_
      refine aw_getR fd_Mo_kind lk_Mo_16 (by omega) rfl d_Mo_holds_83 (hR _ _) ?_
      refine aw_pc (pc' := 86) rfl ?_
      refine aw_iload_n d_Mo_holds_86 rfl rfl ?_
      refine aw_iald (n := l) (by omega) rfl rfl (by omega) d_Mo_holds_87 ?_
      refine aw_if_ne (tgt := 106) d_Mo_holds_88 rfl (fun h88 => ?_) (fun h88 => ?_)
      · refine aw_aload_n d_Mo_holds_106 rfl rfl ?_
        refine aw_getR fd_Mo_kind lk_Mo_16 (by omega) rfl d_Mo_holds_107 (hR _ _) ?_
        refine aw_iload_n d_Mo_holds_110 rfl rfl ?_
        refine aw_iald (n := l) (by omega) rfl rfl (by omega) d_Mo_holds_111 ?_
        refine aw_iconst d_Mo_holds_112 (in_c rfl) ?_
        refine aw_icmp_ne (tgt := 131) d_Mo_holds_113 rfl (fun h113 => ?_) (fun h113 => ?_)
        · refine aw_aload_n d_Mo_holds_131 rfl rfl ?_
          refine aw_getR fd_Mo_kind lk_Mo_16 (by omega) rfl d_Mo_holds_132 (hR _ _) ?_
          refine aw_iload_n d_Mo_holds_135 rfl rfl ?_
          refine aw_iald (n := l) (by omega) rfl rfl (by omega) d_Mo_holds_136 ?_
          refine aw_iconst d_Mo_holds_137 (in_c rfl) ?_
          refine aw_icmp_ne (tgt := 156) d_Mo_holds_138 rfl (fun h138 => ?_) (fun h138 => ?_)
          · refine aw_iload d_Mo_holds_156 rfl ?_
            refine aw_iload d_Mo_holds_158 rfl ?_
            refine aw_icmp_eq (tgt := 167) d_Mo_holds_160 rfl (fun h160 => ?_) (fun h160 => ?_)
            · refine aw_iconst d_Mo_holds_167 (in_c rfl) ?_
              exact aw_zret d_Mo_holds_168 rfl rfl ⟨by first | (rw [show oHd μ l x y z = true from decide_eq_true (by unfold hz; rw [if_pos (by omega)])]; rfl) | (rw [show oHd μ l x y z = false from decide_eq_false (by unfold hz; rw [if_neg (by omega)]; decide)]; rfl), rfl, rfl⟩
            · refine aw_iconst d_Mo_holds_163 (in_c rfl) ?_
              refine aw_goto (tgt := 168) d_Mo_holds_164 rfl ?_
              exact aw_zret d_Mo_holds_168 rfl rfl ⟨by first | (rw [show oHd μ l x y z = true from decide_eq_true (by unfold hz; rw [if_pos (by omega)])]; rfl) | (rw [show oHd μ l x y z = false from decide_eq_false (by unfold hz; rw [if_neg (by omega)]; decide)]; rfl), rfl, rfl⟩
          · refine aw_iload d_Mo_holds_141 rfl ?_
            refine aw_iload d_Mo_holds_143 rfl ?_
            refine aw_icmp_ne (tgt := 152) d_Mo_holds_145 rfl (fun h145 => ?_) (fun h145 => ?_)
            · refine aw_iconst d_Mo_holds_152 (in_c rfl) ?_
              refine aw_goto (tgt := 168) d_Mo_holds_153 rfl ?_
              exact aw_zret d_Mo_holds_168 rfl rfl ⟨by first | (rw [show oHd μ l x y z = true from decide_eq_true (by unfold hz; rw [if_pos (by omega)])]; rfl) | (rw [show oHd μ l x y z = false from decide_eq_false (by unfold hz; rw [if_neg (by omega)]; decide)]; rfl), rfl, rfl⟩
            · refine aw_iconst d_Mo_holds_148 (in_c rfl) ?_
              refine aw_goto (tgt := 168) d_Mo_holds_149 rfl ?_
              exact aw_zret d_Mo_holds_168 rfl rfl ⟨by first | (rw [show oHd μ l x y z = true from decide_eq_true (by unfold hz; rw [if_pos (by omega)])]; rfl) | (rw [show oHd μ l x y z = false from decide_eq_false (by unfold hz; rw [if_neg (by omega)]; decide)]; rfl), rfl, rfl⟩
        · refine aw_iload d_Mo_holds_116 rfl ?_
          refine aw_iload d_Mo_holds_118 rfl ?_
          refine aw_icmp_ge (tgt := 127) d_Mo_holds_120 rfl (fun h120 => ?_) (fun h120 => ?_)
          · refine aw_iconst d_Mo_holds_127 (in_c rfl) ?_
            refine aw_goto (tgt := 168) d_Mo_holds_128 rfl ?_
            exact aw_zret d_Mo_holds_168 rfl rfl ⟨by first | (rw [show oHd μ l x y z = true from decide_eq_true (by unfold hz; rw [if_pos (by omega)])]; rfl) | (rw [show oHd μ l x y z = false from decide_eq_false (by unfold hz; rw [if_neg (by omega)]; decide)]; rfl), rfl, rfl⟩
          · refine aw_iconst d_Mo_holds_123 (in_c rfl) ?_
            refine aw_goto (tgt := 168) d_Mo_holds_124 rfl ?_
            exact aw_zret d_Mo_holds_168 rfl rfl ⟨by first | (rw [show oHd μ l x y z = true from decide_eq_true (by unfold hz; rw [if_pos (by omega)])]; rfl) | (rw [show oHd μ l x y z = false from decide_eq_false (by unfold hz; rw [if_neg (by omega)]; decide)]; rfl), rfl, rfl⟩
      · refine aw_iload d_Mo_holds_91 rfl ?_
        refine aw_iload d_Mo_holds_93 rfl ?_
        refine aw_icmp_gt (tgt := 102) d_Mo_holds_95 rfl (fun h95 => ?_) (fun h95 => ?_)
        · refine aw_iconst d_Mo_holds_102 (in_c rfl) ?_
          refine aw_goto (tgt := 168) d_Mo_holds_103 rfl ?_
          exact aw_zret d_Mo_holds_168 rfl rfl ⟨by first | (rw [show oHd μ l x y z = true from decide_eq_true (by unfold hz; rw [if_pos (by omega)])]; rfl) | (rw [show oHd μ l x y z = false from decide_eq_false (by unfold hz; rw [if_neg (by omega)]; decide)]; rfl), rfl, rfl⟩
        · refine aw_iconst d_Mo_holds_98 (in_c rfl) ?_
          refine aw_goto (tgt := 168) d_Mo_holds_99 rfl ?_
          exact aw_zret d_Mo_holds_168 rfl rfl ⟨by first | (rw [show oHd μ l x y z = true from decide_eq_true (by unfold hz; rw [if_pos (by omega)])]; rfl) | (rw [show oHd μ l x y z = false from decide_eq_false (by unfold hz; rw [if_neg (by omega)]; decide)]; rfl), rfl, rfl⟩
end
