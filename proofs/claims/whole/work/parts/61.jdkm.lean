/-! the JDK's small methods: what they answer -/
section
theorem ush_n {a k : Nat} (h : a < 2147483648) (hk : 0 < k) : ush (a : Int) k = ((a / 2 ^ k : Nat) : Int) := by
  unfold ush
  rw [if_neg (by omega), Int.emod_eq_of_lt (by omega) (by omega), Int.toNat_natCast]
def ib1 (a : Nat) : Nat := a - (a / 2 &&& 1431655765)
def ib2 (a : Nat) : Nat := (ib1 a &&& 858993459) + (ib1 a / 4 &&& 858993459)
def ib3 (a : Nat) : Nat := (ib2 a + ib2 a / 16) &&& 252645135
def ib4 (a : Nat) : Nat := ib3 a + ib3 a / 256
def ib5 (a : Nat) : Nat := ib4 a + ib4 a / 65536
theorem ib_lt : ∀ a, a < 256 → ib1 a < 1000 ∧ ib2 a < 1000 ∧ ib3 a < 1000 ∧ ib4 a < 1000 ∧ ib5 a < 1000 ∧ a / 2 &&& 1431655765 ≤ a := by decide +kernel
theorem ib_eq : ∀ a, a < 256 → ib5 a &&& 63 = cnt 8 a := by decide +kernel
section
variable {G : aG} {μ : aM}
set_option maxRecDepth 100000 in
theorem m_JI_bitCount {d : Nat} (hd : 0 ≤ d) {a : Nat} (ha : a < 256) : AM G false d 0 0 y_JI_bitCount [aI (a : Int)] 94 μ (Qe (some (aI ((cnt 8 a : Nat) : Int))) 94 μ) := by
  have hb := ib_lt a ha
  refine am_of (n := 0) pf_JI_bitCount (Nat.le_of_ble_eq_true rfl) (by intro v hv; simp only [List.mem_cons, List.not_mem_nil, or_false] at hv; rcases hv with rfl; show inR _; unfold inR; omega) rfl ?_
  refine aw_iload_n d_JI_bitCount_0 rfl rfl ?_
  refine aw_iload_n d_JI_bitCount_1 rfl rfl ?_
  refine aw_iconst d_JI_bitCount_2 (in_c rfl) ?_
  refine aw_iushr (k0 := 1) rfl (by omega) d_JI_bitCount_3 ?_
  refine aw_tv (v' := ((a / 2 : Nat) : Int)) ((ush_n (by omega) (by omega)).trans rfl) ?_
  refine aw_ldcw (z := 1431655765) kc_JI_265 rfl (in_c rfl) d_JI_bitCount_4 ?_
  refine aw_iand (a := a / 2) (b := 1431655765) rfl rfl d_JI_bitCount_7 ?_
  refine aw_isub d_JI_bitCount_8 (by unfold inR; omega) ?_
  refine aw_tv (v' := ((ib1 a : Nat) : Int)) (by unfold ib1; omega) ?_
  refine aw_istore_n (lst' := [_]) d_JI_bitCount_9 rfl (Nat.le_of_ble_eq_true rfl) rfl ?_
  refine aw_iload_n d_JI_bitCount_10 rfl rfl ?_
  refine aw_ldcw (z := 858993459) kc_JI_266 rfl (in_c rfl) d_JI_bitCount_11 ?_
  refine aw_iand (a := ib1 a) (b := 858993459) rfl rfl d_JI_bitCount_14 ?_
  refine aw_pc (pc' := 15) rfl ?_
  refine aw_iload_n d_JI_bitCount_15 rfl rfl ?_
  refine aw_iconst d_JI_bitCount_16 (in_c rfl) ?_
  refine aw_iushr (k0 := 2) rfl (by omega) d_JI_bitCount_17 ?_
  refine aw_tv (v' := ((ib1 a / 4 : Nat) : Int)) ((ush_n (by omega) (by omega)).trans rfl) ?_
  refine aw_ldcw (z := 858993459) kc_JI_266 rfl (in_c rfl) d_JI_bitCount_18 ?_
  refine aw_iand (a := ib1 a / 4) (b := 858993459) rfl rfl d_JI_bitCount_21 ?_
  refine aw_iadd d_JI_bitCount_22 (by have h9 := hb.2.1; unfold ib2 at h9; unfold inR; omega) ?_
  refine aw_tv (v' := ((ib2 a : Nat) : Int)) (by unfold ib2; omega) ?_
  refine aw_istore_n (lst' := [_]) d_JI_bitCount_23 rfl (Nat.le_of_ble_eq_true rfl) rfl ?_
  refine aw_iload_n d_JI_bitCount_24 rfl rfl ?_
  refine aw_iload_n d_JI_bitCount_25 rfl rfl ?_
  refine aw_iconst d_JI_bitCount_26 (in_c rfl) ?_
  refine aw_iushr (k0 := 4) rfl (by omega) d_JI_bitCount_27 ?_
  refine aw_tv (v' := ((ib2 a / 16 : Nat) : Int)) ((ush_n (by omega) (by omega)).trans rfl) ?_
  refine aw_iadd d_JI_bitCount_28 (by unfold inR; omega) ?_
  refine aw_tv (v' := ((ib2 a + ib2 a / 16 : Nat) : Int)) (by omega) ?_
  refine aw_pc (pc' := 29) rfl ?_
  refine aw_ldcw (z := 252645135) kc_JI_267 rfl (in_c rfl) d_JI_bitCount_29 ?_
  refine aw_iand (a := ib2 a + ib2 a / 16) (b := 252645135) rfl rfl d_JI_bitCount_32 ?_
  refine aw_tv (v' := ((ib3 a : Nat) : Int)) (rfl) ?_
  refine aw_istore_n (lst' := [_]) d_JI_bitCount_33 rfl (Nat.le_of_ble_eq_true rfl) rfl ?_
  refine aw_iload_n d_JI_bitCount_34 rfl rfl ?_
  refine aw_iload_n d_JI_bitCount_35 rfl rfl ?_
  refine aw_bipush (z := 8) d_JI_bitCount_36 (in_c rfl) rfl ?_
  refine aw_iushr (k0 := 8) rfl (by omega) d_JI_bitCount_38 ?_
  refine aw_tv (v' := ((ib3 a / 256 : Nat) : Int)) ((ush_n (by omega) (by omega)).trans rfl) ?_
  refine aw_iadd d_JI_bitCount_39 (by unfold inR; omega) ?_
  refine aw_tv (v' := ((ib4 a : Nat) : Int)) (by unfold ib4; omega) ?_
  refine aw_istore_n (lst' := [_]) d_JI_bitCount_40 rfl (Nat.le_of_ble_eq_true rfl) rfl ?_
  refine aw_iload_n d_JI_bitCount_41 rfl rfl ?_
  refine aw_iload_n d_JI_bitCount_42 rfl rfl ?_
  refine aw_bipush (z := 16) d_JI_bitCount_43 (in_c rfl) rfl ?_
  refine aw_pc (pc' := 45) rfl ?_
  refine aw_iushr (k0 := 16) rfl (by omega) d_JI_bitCount_45 ?_
  refine aw_tv (v' := ((ib4 a / 65536 : Nat) : Int)) ((ush_n (by omega) (by omega)).trans rfl) ?_
  refine aw_iadd d_JI_bitCount_46 (by unfold inR; omega) ?_
  refine aw_tv (v' := ((ib5 a : Nat) : Int)) (by unfold ib5; omega) ?_
  refine aw_istore_n (lst' := [_]) d_JI_bitCount_47 rfl (Nat.le_of_ble_eq_true rfl) rfl ?_
  refine aw_iload_n d_JI_bitCount_48 rfl rfl ?_
  refine aw_bipush (z := 63) d_JI_bitCount_49 (in_c rfl) rfl ?_
  refine aw_iand (a := ib5 a) (b := 63) rfl rfl d_JI_bitCount_51 ?_
  exact aw_iret d_JI_bitCount_52 rfl ⟨by rw [ib_eq a ha], rfl, rfl⟩
theorem m_JM_min {d : Nat} (hd : 0 ≤ d) {a b : Int} (h1 : inR a) (h2 : inR b) : AM G false d 0 0 y_JM_min [aI a, aI b] 94 μ (Qe (some (aI (if a ≤ b then a else b))) 94 μ) := by
  refine am_of (n := 0) pf_JM_min (Nat.le_of_ble_eq_true rfl) (by intro v hv; simp only [List.mem_cons, List.not_mem_nil, or_false] at hv; rcases hv with rfl | rfl <;> assumption) rfl ?_
  refine aw_iload_n d_JM_min_0 rfl rfl ?_
  refine aw_iload_n d_JM_min_1 rfl rfl ?_
  refine aw_icmp_gt (tgt := 9) d_JM_min_2 rfl (fun h2 => ?_) (fun h2 => ?_)
  · refine aw_iload_n d_JM_min_9 rfl rfl ?_
    exact aw_iret d_JM_min_10 rfl ⟨by first | rw [if_pos (by omega)] | rw [if_neg (by omega)], rfl, rfl⟩
  · refine aw_iload_n d_JM_min_5 rfl rfl ?_
    refine aw_goto (tgt := 10) d_JM_min_6 rfl ?_
    exact aw_iret d_JM_min_10 rfl ⟨by first | rw [if_pos (by omega)] | rw [if_neg (by omega)], rfl, rfl⟩
end
def lb1 (b : BitVec 64) : BitVec 64 := b - ((b >>> 1) &&& (6148914691236517205 : BitVec 64))
def lb2 (b : BitVec 64) : BitVec 64 := (lb1 b &&& (3689348814741910323 : BitVec 64)) + ((lb1 b >>> 2) &&& (3689348814741910323 : BitVec 64))
def lb3 (b : BitVec 64) : BitVec 64 := (lb2 b + (lb2 b >>> 4)) &&& (1085102592571150095 : BitVec 64)
def lb4 (b : BitVec 64) : BitVec 64 := lb3 b + (lb3 b >>> 8)
def lb5 (b : BitVec 64) : BitVec 64 := lb4 b + (lb4 b >>> 16)
def lb6 (b : BitVec 64) : BitVec 64 := lb5 b + (lb5 b >>> 32)
theorem k55 : (6148914691236517205 : BitVec 64).toNat = msk 85 8 := by decide +kernel
theorem k33 : (3689348814741910323 : BitVec 64).toNat = msk 51 8 := by decide +kernel
theorem k0f : (1085102592571150095 : BitVec 64).toNat = msk 15 8 := by decide +kernel
theorem p8 : (256 : Nat) ^ 8 = 2 ^ 64 := by decide
theorem shr_n (b : BitVec 64) (k : Nat) : (b >>> k).toNat = b.toNat / 2 ^ k := by rw [BitVec.toNat_ushiftRight, Nat.shiftRight_eq_div_pow]
theorem lb1_n (b : BitVec 64) : (lb1 b).toNat = by_ (fun r => r - (r / 2 &&& 85)) 8 b.toNat := by
  have h := st1 8 b.toNat (by rw [p8]; exact b.isLt)
  have e : ((b >>> 1) &&& (6148914691236517205 : BitVec 64)).toNat = (b.toNat / 2) &&& msk 85 8 := by rw [BitVec.toNat_and, shr_n, k55]
  unfold lb1
  rw [BitVec.toNat_sub_of_le (by rw [BitVec.le_def, e]; exact h.1), e]
  exact h.2
theorem lb2_n (b : BitVec 64) : (lb2 b).toNat = by_ g2 8 b.toNat := by
  have h := st2 8 (lb1 b).toNat (by rw [p8]; exact (lb1 b).isLt)
  have e : by_ (fun r => (r &&& 51) + (r / 4 &&& 51)) 8 (lb1 b).toNat = by_ g2 8 b.toNat := by
    rw [lb1_n, by_comp g1_lt]
    exact by_ext (fun r _ => rfl) 8 _
  have hl : by_ g2 8 b.toNat < 256 ^ 8 := by_lt (fun r h => by have := g2_lt r h; omega) 8 _
  rw [p8] at hl
  unfold lb2
  rw [BitVec.toNat_add, BitVec.toNat_and, BitVec.toNat_and, shr_n, k33]
  have h' : ((lb1 b).toNat &&& msk 51 8) + ((lb1 b).toNat / 2 ^ 2 &&& msk 51 8) = by_ g2 8 b.toNat := h.trans e
  rw [h', Nat.mod_eq_of_lt hl]
theorem by_sm {φ : Nat → Nat} (hφ : ∀ r, r < 256 → φ r ≤ 68) : ∀ (k x : Nat), by_ φ k x * 3 < 256 ^ k
  | 0, x => by rw [by_, Nat.pow_zero]; omega
  | k + 1, x => by
    have h1 := hφ (x % 256) (by omega)
    have h2 := by_sm hφ k (x / 256)
    rw [by_, Nat.pow_succ]
    omega
theorem lb3_n (b : BitVec 64) : (lb3 b).toNat = by_ (cnt 8) 8 b.toNat := by
  have h := st3 8 b.toNat
  have hl := by_sm (fun r h => (g2_lt r h).2) 8 b.toNat
  rw [p8] at hl
  unfold lb3
  rw [BitVec.toNat_and, BitVec.toNat_add, shr_n, k0f, lb2_n, Nat.mod_eq_of_lt (by omega)]
  exact h.trans (by_ext g3 8 _)
theorem cnt_by : ∀ (k x : Nat), cnt (8 * (k + 1)) x = cnt 8 (x % 256) + cnt (8 * k) (x / 256) := fun k x => by
  rw [show 8 * (k + 1) = 8 + 8 * k by omega, cnt_add]
theorem lb6_n (b : BitVec 64) : (lb6 b).toNat % 128 = cnt 64 b.toNat := by
  have hc : ∀ x, cnt 8 (x % 256) ≤ 8 := fun x => c8_le _ (by omega)
  obtain ⟨r1, r2, r3, r4⟩ := st4 (hc b.toNat) (hc (b.toNat / 256)) (hc (b.toNat / 256 / 256)) (hc (b.toNat / 256 / 256 / 256)) (hc (b.toNat / 256 / 256 / 256 / 256)) (hc (b.toNat / 256 / 256 / 256 / 256 / 256)) (hc (b.toNat / 256 / 256 / 256 / 256 / 256 / 256)) (hc (b.toNat / 256 / 256 / 256 / 256 / 256 / 256 / 256)) (y := (lb3 b).toNat) (by rw [lb3_n]; simp only [by_]; omega) rfl rfl rfl
  have e4 : (lb4 b).toNat = (lb3 b).toNat + (lb3 b).toNat / 256 := by
    unfold lb4
    rw [BitVec.toNat_add, shr_n]
    exact Nat.mod_eq_of_lt r4
  have e5 : (lb5 b).toNat = (lb3 b).toNat + (lb3 b).toNat / 256 + ((lb3 b).toNat + (lb3 b).toNat / 256) / 65536 := by
    unfold lb5
    rw [BitVec.toNat_add, shr_n, e4]
    exact Nat.mod_eq_of_lt r3
  have e6 : (lb6 b).toNat = (lb3 b).toNat + (lb3 b).toNat / 256 + ((lb3 b).toNat + (lb3 b).toNat / 256) / 65536 + ((lb3 b).toNat + (lb3 b).toNat / 256 + ((lb3 b).toNat + (lb3 b).toNat / 256) / 65536) / 4294967296 := by
    unfold lb6
    rw [BitVec.toNat_add, shr_n, e5]
    exact Nat.mod_eq_of_lt r2
  rw [e6, r1]
  have c7 : cnt (8 * 8) (b.toNat) = cnt 8 (b.toNat % 256) + cnt (8 * 7) (b.toNat / 256) := cnt_by 7 _
  have c6 : cnt (8 * 7) (b.toNat / 256) = cnt 8 (b.toNat / 256 % 256) + cnt (8 * 6) (b.toNat / 256 / 256) := cnt_by 6 _
  have c5 : cnt (8 * 6) (b.toNat / 256 / 256) = cnt 8 (b.toNat / 256 / 256 % 256) + cnt (8 * 5) (b.toNat / 256 / 256 / 256) := cnt_by 5 _
  have c4 : cnt (8 * 5) (b.toNat / 256 / 256 / 256) = cnt 8 (b.toNat / 256 / 256 / 256 % 256) + cnt (8 * 4) (b.toNat / 256 / 256 / 256 / 256) := cnt_by 4 _
  have c3 : cnt (8 * 4) (b.toNat / 256 / 256 / 256 / 256) = cnt 8 (b.toNat / 256 / 256 / 256 / 256 % 256) + cnt (8 * 3) (b.toNat / 256 / 256 / 256 / 256 / 256) := cnt_by 3 _
  have c2 : cnt (8 * 3) (b.toNat / 256 / 256 / 256 / 256 / 256) = cnt 8 (b.toNat / 256 / 256 / 256 / 256 / 256 % 256) + cnt (8 * 2) (b.toNat / 256 / 256 / 256 / 256 / 256 / 256) := cnt_by 2 _
  have c1 : cnt (8 * 2) (b.toNat / 256 / 256 / 256 / 256 / 256 / 256) = cnt 8 (b.toNat / 256 / 256 / 256 / 256 / 256 / 256 % 256) + cnt (8 * 1) (b.toNat / 256 / 256 / 256 / 256 / 256 / 256 / 256) := cnt_by 1 _
  have c0 : cnt (8 * 1) (b.toNat / 256 / 256 / 256 / 256 / 256 / 256 / 256) = cnt 8 (b.toNat / 256 / 256 / 256 / 256 / 256 / 256 / 256 % 256) + cnt (8 * 0) (b.toNat / 256 / 256 / 256 / 256 / 256 / 256 / 256 / 256) := cnt_by 0 _
  have c9 : cnt (8 * 0) (b.toNat / 256 / 256 / 256 / 256 / 256 / 256 / 256 / 256) = 0 := rfl
  have c64 : cnt 64 b.toNat = cnt (8 * 8) b.toNat := rfl
  rw [c64, c7, c6, c5, c4, c3, c2, c1, c0, c9]
  omega
theorem lb6_r (b : BitVec 64) : ((lb6 b).setWidth 32).toInt % 128 = ((cnt 64 b.toNat : Nat) : Int) := by
  rw [← lb6_n b]
  have h1 : ((lb6 b).setWidth 32).toNat = (lb6 b).toNat % 4294967296 := BitVec.toNat_setWidth _ _
  rw [BitVec.toInt_eq_toNat_cond, h1]
  split <;> omega
section
variable {G : aG} {μ : aM}
set_option maxRecDepth 100000 in
theorem m_JL_bitCount {d : Nat} (hd : 0 ≤ d) {b : BitVec 64} : AM G false d 0 0 y_JL_bitCount [aL b] 94 μ (Qe (some (aI ((cnt 64 b.toNat : Nat) : Int))) 94 μ) := by
  refine am_of (n := 0) pf_JL_bitCount (Nat.le_of_ble_eq_true rfl) (by intro v hv; simp only [List.mem_cons, List.not_mem_nil, or_false] at hv; rcases hv with rfl; trivial) rfl ?_
  refine aw_lload_n d_JL_bitCount_0 rfl rfl ?_
  refine aw_lload_n d_JL_bitCount_1 rfl rfl ?_
  refine aw_iconst d_JL_bitCount_2 (in_c rfl) ?_
  refine aw_lushr (k0 := 1) rfl (by omega) d_JL_bitCount_3 ?_
  refine aw_ldc2 (b := 6148914691236517205) kc_JL_314 rfl d_JL_bitCount_4 ?_
  refine aw_land d_JL_bitCount_7 ?_
  refine aw_lsub d_JL_bitCount_8 ?_
  refine aw_lstore_n (lst' := [_, _]) d_JL_bitCount_9 rfl (Nat.le_of_ble_eq_true rfl) rfl ?_
  refine aw_lload_n d_JL_bitCount_10 rfl rfl ?_
  refine aw_ldc2 (b := 3689348814741910323) kc_JL_316 rfl d_JL_bitCount_11 ?_
  refine aw_land d_JL_bitCount_14 ?_
  refine aw_pc (pc' := 15) rfl ?_
  refine aw_lload_n d_JL_bitCount_15 rfl rfl ?_
  refine aw_iconst d_JL_bitCount_16 (in_c rfl) ?_
  refine aw_lushr (k0 := 2) rfl (by omega) d_JL_bitCount_17 ?_
  refine aw_ldc2 (b := 3689348814741910323) kc_JL_316 rfl d_JL_bitCount_18 ?_
  refine aw_land d_JL_bitCount_21 ?_
  refine aw_ladd d_JL_bitCount_22 ?_
  refine aw_lstore_n (lst' := [_, _]) d_JL_bitCount_23 rfl (Nat.le_of_ble_eq_true rfl) rfl ?_
  refine aw_lload_n d_JL_bitCount_24 rfl rfl ?_
  refine aw_lload_n d_JL_bitCount_25 rfl rfl ?_
  refine aw_iconst d_JL_bitCount_26 (in_c rfl) ?_
  refine aw_lushr (k0 := 4) rfl (by omega) d_JL_bitCount_27 ?_
  refine aw_ladd d_JL_bitCount_28 ?_
  refine aw_pc (pc' := 29) rfl ?_
  refine aw_ldc2 (b := 1085102592571150095) kc_JL_318 rfl d_JL_bitCount_29 ?_
  refine aw_land d_JL_bitCount_32 ?_
  refine aw_lstore_n (lst' := [_, _]) d_JL_bitCount_33 rfl (Nat.le_of_ble_eq_true rfl) rfl ?_
  refine aw_lload_n d_JL_bitCount_34 rfl rfl ?_
  refine aw_lload_n d_JL_bitCount_35 rfl rfl ?_
  refine aw_bipush (z := 8) d_JL_bitCount_36 (in_c rfl) rfl ?_
  refine aw_lushr (k0 := 8) rfl (by omega) d_JL_bitCount_38 ?_
  refine aw_ladd d_JL_bitCount_39 ?_
  refine aw_lstore_n (lst' := [_, _]) d_JL_bitCount_40 rfl (Nat.le_of_ble_eq_true rfl) rfl ?_
  refine aw_lload_n d_JL_bitCount_41 rfl rfl ?_
  refine aw_lload_n d_JL_bitCount_42 rfl rfl ?_
  refine aw_bipush (z := 16) d_JL_bitCount_43 (in_c rfl) rfl ?_
  refine aw_pc (pc' := 45) rfl ?_
  refine aw_lushr (k0 := 16) rfl (by omega) d_JL_bitCount_45 ?_
  refine aw_ladd d_JL_bitCount_46 ?_
  refine aw_lstore_n (lst' := [_, _]) d_JL_bitCount_47 rfl (Nat.le_of_ble_eq_true rfl) rfl ?_
  refine aw_lload_n d_JL_bitCount_48 rfl rfl ?_
  refine aw_lload_n d_JL_bitCount_49 rfl rfl ?_
  refine aw_bipush (z := 32) d_JL_bitCount_50 (in_c rfl) rfl ?_
  refine aw_lushr (k0 := 32) rfl (by omega) d_JL_bitCount_52 ?_
  refine aw_ladd d_JL_bitCount_53 ?_
  refine aw_lstore_n (lst' := [_, _]) d_JL_bitCount_54 rfl (Nat.le_of_ble_eq_true rfl) rfl ?_
  refine aw_lload_n d_JL_bitCount_55 rfl rfl ?_
  refine aw_l2i d_JL_bitCount_56 ?_
  refine aw_bipush (z := 127) d_JL_bitCount_57 (in_c rfl) rfl ?_
  refine aw_pc (pc' := 59) rfl ?_
  refine aw_imask (k0 := 7) rfl (by omega) d_JL_bitCount_59 ?_
  exact aw_iret d_JL_bitCount_60 rfl ⟨congrArg (fun z => Sum.inl (some (aI z))) (lb6_r b), rfl, rfl⟩
end
end
