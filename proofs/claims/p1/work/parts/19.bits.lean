/-! bits -/
section
theorem b_oN (n : Nat) : (Int32.ofInt (n : Int)) = nI n := Int32.ofInt_eq_ofNat
theorem b_tb (n : Nat) : (nI n).toBitVec = BitVec.ofNat 32 n := rfl
theorem b_inj {a b : Int32} (h : a.toBitVec.toNat = b.toBitVec.toNat) : a = b := Int32.toBitVec.inj (BitVec.eq_of_toNat_eq h)
theorem b_or (a b : Nat) : nI a ||| nI b = nI (a ||| b) := b_inj (by
  show (BitVec.ofNat 32 a ||| BitVec.ofNat 32 b).toNat = (BitVec.ofNat 32 (a ||| b)).toNat
  rw [BitVec.toNat_or, BitVec.toNat_ofNat, BitVec.toNat_ofNat, BitVec.toNat_ofNat, Nat.or_mod_two_pow])
theorem b_and (a b : Nat) : nI a &&& nI b = nI (a &&& b) := b_inj (by
  show (BitVec.ofNat 32 a &&& BitVec.ofNat 32 b).toNat = (BitVec.ofNat 32 (a &&& b)).toNat
  rw [BitVec.toNat_and, BitVec.toNat_ofNat, BitVec.toNat_ofNat, BitVec.toNat_ofNat, Nat.and_mod_two_pow])
theorem b_xor (a b : Nat) : nI a ^^^ nI b = nI (a ^^^ b) := b_inj (by
  show (BitVec.ofNat 32 a ^^^ BitVec.ofNat 32 b).toNat = (BitVec.ofNat 32 (a ^^^ b)).toNat
  rw [BitVec.toNat_xor, BitVec.toNat_ofNat, BitVec.toNat_ofNat, BitVec.toNat_ofNat, Nat.xor_mod_two_pow])
theorem b_lt {n : Nat} (h : inR (n : Int)) : n < 2 ^ 31 := by unfold inR at h; omega
theorem b_in {n : Nat} (h : n < 2 ^ 31) : inR (n : Int) := by unfold inR; omega
theorem b_tn (z : Int) : (Int32.ofInt z).toBitVec.toNat = (z % 4294967296).toNat := by
  show (BitVec.ofInt 32 z).toNat = _
  rw [BitVec.toNat_ofInt]
  rfl
theorem b_mask (z : Int) (k : Nat) (hk : k ≤ 30) : Int32.ofInt z &&& Int32.ofInt (((2 ^ k - 1 : Nat) : Nat) : Int) = Int32.ofInt (z % ((2 ^ k : Nat) : Int)) := by
  have hp : 0 < 2 ^ k := Nat.two_pow_pos k
  have hlt : 2 ^ k ≤ 2 ^ 30 := Nat.pow_le_pow_right (by omega) hk
  have hm : (Int32.ofInt (((2 ^ k - 1 : Nat) : Nat) : Int)).toBitVec.toNat = 2 ^ k - 1 := by rw [b_tn]; omega
  rw [pk_and _ k hm, b_tn]
  have hd : ((2 ^ k : Nat) : Int) ∣ 4294967296 := by
    have : ((2 ^ k : Nat) : Int) ∣ ((2 ^ 32 : Nat) : Int) := Int.natCast_dvd_natCast.mpr (Nat.pow_dvd_pow 2 (by omega))
    exact this
  have h1 : (z % 4294967296).toNat % 2 ^ k = (z % ((2 ^ k : Nat) : Int)).toNat := by
    have h2 : z % 4294967296 % ((2 ^ k : Nat) : Int) = z % ((2 ^ k : Nat) : Int) := Int.emod_emod_of_dvd z hd
    have h3 : 0 ≤ z % 4294967296 := Int.emod_nonneg _ (by omega)
    have h4 : ((z % 4294967296).toNat : Int) = z % 4294967296 := Int.toNat_of_nonneg h3
    have h5 : (((z % 4294967296).toNat % 2 ^ k : Nat) : Int) = z % ((2 ^ k : Nat) : Int) := by rw [Int.natCast_emod, h4, h2]
    omega
  rw [h1, ← b_oN]
  have h6 : 0 ≤ z % ((2 ^ k : Nat) : Int) := Int.emod_nonneg _ (by omega)
  rw [Int.toNat_of_nonneg h6]
theorem b_sl : ∀ n, n < 32 → ((nI n &&& 31).toBitVec.smod 32).toNat = n := by decide +kernel
theorem b_su : ∀ n, n < 32 → (((nI n).toUInt32 &&& Int32.toUInt32 31).toBitVec % 32).toNat = n := by decide +kernel
def ush (z : Int) (k : Nat) : Int := if k = 0 then z else (((z % 4294967296).toNat / 2 ^ k : Nat) : Int)
theorem ush_in {z : Int} {k : Nat} (h : inR z) : inR (ush z k) := by
  unfold ush
  split
  · exact h
  · rename_i hk
    have h1 : 2 ^ 1 ≤ 2 ^ k := Nat.pow_le_pow_right (by omega) (by omega)
    have h2 : (z % 4294967296).toNat / 2 ^ k ≤ (z % 4294967296).toNat / 2 := Nat.div_le_div_left h1 (by omega)
    generalize (z % 4294967296).toNat / 2 ^ k = q at h2 ⊢
    unfold inR
    omega
theorem b_ush (z : Int) (k : Nat) (hk : k < 32) : ((Int32.ofInt z).toUInt32 >>> ((Int32.ofInt (k : Int)).toUInt32 &&& Int32.toUInt32 31)).toInt32 = Int32.ofInt (ush z k) := by
  apply b_inj
  rw [pk_ushr (Int32.ofInt z) (Int32.ofInt (k : Int)) k (by rw [b_oN]; exact b_su k hk), b_tn, b_tn]
  unfold ush
  split
  · rename_i h; subst h; simp
  · have h1 : 2 ^ 1 ≤ 2 ^ k := Nat.pow_le_pow_right (by omega) (by omega)
    have h2 : (z % 4294967296).toNat / 2 ^ k ≤ (z % 4294967296).toNat / 2 := Nat.div_le_div_left h1 (by omega)
    generalize (z % 4294967296).toNat / 2 ^ k = q at h2 ⊢
    omega
variable {G : aG} {x : Bool} {y : aY} {d bc bs : Nat} {Q : aQ → Nat → aM → Prop} {pc : Nat} {lst : List (Option aV)} {st : List aV} {nn : Nat} {μ : aM}
theorem aw_ior {z w : Int} {a b : Nat} (hz : z = (a : Int)) (hw : w = (b : Int)) (hd : decode y.2.1 pc = .ok (.ior, 1)) (k : AW G x y d bc bs Q (pc + 1) lst (aI ((a ||| b : Nat) : Int) :: st) nn μ) : AW G x y d bc bs Q pc lst (aI w :: aI z :: st) nn μ := by
  subst hz; subst hw
  exact aw_st (fun h => ok_ki (b_in (Nat.or_lt_two_pow (b_lt (ok_h (ok_s h))) (b_lt (ok_h h)))) (ok_s (ok_s h))) (fun p e R s m args below meth c H locs cells slots ls Z hx hb _ kk => lv_ior hx hb hd (by rw [b_oN, b_oN, b_or, ← b_oN]; exact kk)) k
theorem aw_ixor {z w : Int} {a b : Nat} (hz : z = (a : Int)) (hw : w = (b : Int)) (hd : decode y.2.1 pc = .ok (.ixor, 1)) (k : AW G x y d bc bs Q (pc + 1) lst (aI ((a ^^^ b : Nat) : Int) :: st) nn μ) : AW G x y d bc bs Q pc lst (aI w :: aI z :: st) nn μ := by
  subst hz; subst hw
  exact aw_st (fun h => ok_ki (b_in (Nat.xor_lt_two_pow (b_lt (ok_h (ok_s h))) (b_lt (ok_h h)))) (ok_s (ok_s h))) (fun p e R s m args below meth c H locs cells slots ls Z hx hb _ kk => lv_ixor hx hb hd (by rw [b_oN, b_oN, b_xor, ← b_oN]; exact kk)) k
theorem aw_iand {z w : Int} {a b : Nat} (hz : z = (a : Int)) (hw : w = (b : Int)) (hd : decode y.2.1 pc = .ok (.iand, 1)) (k : AW G x y d bc bs Q (pc + 1) lst (aI ((a &&& b : Nat) : Int) :: st) nn μ) : AW G x y d bc bs Q pc lst (aI w :: aI z :: st) nn μ := by
  subst hz; subst hw
  exact aw_st (fun h => ok_ki (b_in (Nat.lt_of_le_of_lt Nat.and_le_left (b_lt (ok_h (ok_s h))))) (ok_s (ok_s h))) (fun p e R s m args below meth c H locs cells slots ls Z hx hb _ kk => lv_iand hx hb hd (by rw [b_oN, b_oN, b_and, ← b_oN]; exact kk)) k
theorem aw_imask {z w : Int} {k0 : Nat} (hw : w = ((2 ^ k0 - 1 : Nat) : Int)) (hk0 : k0 ≤ 30) (hd : decode y.2.1 pc = .ok (.iand, 1)) (k : AW G x y d bc bs Q (pc + 1) lst (aI (z % ((2 ^ k0 : Nat) : Int)) :: st) nn μ) : AW G x y d bc bs Q pc lst (aI w :: aI z :: st) nn μ := by
  subst hw
  have hr : inR (z % ((2 ^ k0 : Nat) : Int)) := by
    have h1 : 0 < 2 ^ k0 := Nat.two_pow_pos k0
    have h2 : 2 ^ k0 ≤ 2 ^ 30 := Nat.pow_le_pow_right (by omega) hk0
    have h3 := Int.emod_nonneg z (b := ((2 ^ k0 : Nat) : Int)) (by omega)
    have h4 := Int.emod_lt_of_pos z (b := ((2 ^ k0 : Nat) : Int)) (by omega)
    unfold inR
    omega
  exact aw_st (fun h => ok_ki hr (ok_s (ok_s h))) (fun p e R s m args below meth c H locs cells slots ls Z hx hb _ kk => lv_iand hx hb hd (by rw [b_mask z k0 hk0]; exact kk)) k
theorem aw_inot {z : Int} (hd : decode y.2.1 pc = .ok (.ixor, 1)) (k : AW G x y d bc bs Q (pc + 1) lst (aI (-1 - z) :: st) nn μ) : AW G x y d bc bs Q pc lst (aI (-1) :: aI z :: st) nn μ := by
  have e1 : ∀ a : Int32, a ^^^ (Int32.ofInt (-1)) = Int32.ofInt (-1) - a := fun a => Int32.toBitVec.inj (by
    show a.toBitVec ^^^ BitVec.allOnes 32 = BitVec.allOnes 32 - a.toBitVec
    rw [BitVec.xor_allOnes, BitVec.allOnes_sub_eq_not])
  exact aw_st (fun h => ok_k (by have := ok_h (ok_s h); unfold okv inR at *; simp only at *; omega) (ok_s (ok_s h))) (fun p e R s m args below meth c H locs cells slots ls Z hx hb _ kk => lv_ixor hx hb hd (by rw [e1, ← Int32.ofInt_sub]; exact kk)) k
theorem aw_ishl {z w : Int} {a k0 : Nat} (hz : z = (a : Int)) (hw : w = (k0 : Int)) (hk : k0 < 32) (hr : a * 2 ^ k0 < 2 ^ 31) (hd : decode y.2.1 pc = .ok (.ishl, 1)) (k : AW G x y d bc bs Q (pc + 1) lst (aI ((a * 2 ^ k0 : Nat) : Int) :: st) nn μ) : AW G x y d bc bs Q pc lst (aI w :: aI z :: st) nn μ := by
  subst hz; subst hw
  exact aw_st (fun h => ok_ki (b_in hr) (ok_s (ok_s h))) (fun p e R s m args below meth c H locs cells slots ls Z hx hb _ kk => lv_ishl hx hb hd (by rw [b_oN, b_oN, pk_shlN _ k0 (b_sl k0 hk) (by omega), ← b_oN]; exact kk)) k
theorem aw_ishr {z w : Int} {a k0 : Nat} (hz : z = (a : Int)) (hw : w = (k0 : Int)) (hk : k0 < 32) (hd : decode y.2.1 pc = .ok (.ishr, 1)) (k : AW G x y d bc bs Q (pc + 1) lst (aI ((a / 2 ^ k0 : Nat) : Int) :: st) nn μ) : AW G x y d bc bs Q pc lst (aI w :: aI z :: st) nn μ := by
  subst hz; subst hw
  refine fun p e R s m args below meth c H locs cells slots ls hC hH hL hs h1 h2 h3 h4 => ?_
  have ha : a < 2 ^ 31 := b_lt (ok_h (ok_s hs))
  refine lv_ishr hC.1 hC.2.1 hd ?_
  rw [b_oN, b_oN, pk_shrN ha _ k0 (b_sl k0 hk), ← b_oN]
  exact k p e R s m args below meth c H locs cells slots ls hC hH hL (ok_ki (b_in (Nat.lt_of_le_of_lt (Nat.div_le_self _ _) ha)) (ok_s (ok_s hs))) h1 h2 h3 h4
theorem aw_iushr {z w : Int} {k0 : Nat} (hw : w = (k0 : Int)) (hk : k0 < 32) (hd : decode y.2.1 pc = .ok (.iushr, 1)) (k : AW G x y d bc bs Q (pc + 1) lst (aI (ush z k0) :: st) nn μ) : AW G x y d bc bs Q pc lst (aI w :: aI z :: st) nn μ := by
  subst hw
  exact aw_st (fun h => ok_ki (ush_in (ok_h (ok_s h))) (ok_s (ok_s h))) (fun p e R s m args below meth c H locs cells slots ls Z hx hb _ kk => lv_iushr hx hb hd (b_ush z k0 hk) kk) k
theorem aw_idiv {z w : Int} {a b : Nat} (hz : z = (a : Int)) (hw : w = (b : Int)) (hb0 : 0 < b) (hd : decode y.2.1 pc = .ok (.idiv, 1)) (k : AW G x y d bc bs Q (pc + 1) lst (aI ((a / b : Nat) : Int) :: st) nn μ) : AW G x y d bc bs Q pc lst (aI w :: aI z :: st) nn μ := by
  subst hz; subst hw
  refine fun p e R s m args below meth c H locs cells slots ls hC hH hL hs h1 h2 h3 h4 => ?_
  have ha : a < 2 ^ 31 := b_lt (ok_h (ok_s hs))
  have hb : b < 2 ^ 31 := b_lt (ok_h hs)
  refine lv_idiv hC.1 hC.2.1 hd (by rw [b_oN]; exact nI_ne0 hb0 hb) ?_
  rw [b_oN, b_oN, pk_div ha hb0 hb, ← b_oN]
  exact k p e R s m args below meth c H locs cells slots ls hC hH hL (ok_ki (b_in (Nat.lt_of_le_of_lt (Nat.div_le_self _ _) ha)) (ok_s (ok_s hs))) h1 h2 h3 h4
theorem aw_irem {z w : Int} {a b : Nat} (hz : z = (a : Int)) (hw : w = (b : Int)) (hb0 : 0 < b) (hd : decode y.2.1 pc = .ok (.irem, 1)) (k : AW G x y d bc bs Q (pc + 1) lst (aI ((a % b : Nat) : Int) :: st) nn μ) : AW G x y d bc bs Q pc lst (aI w :: aI z :: st) nn μ := by
  subst hz; subst hw
  refine fun p e R s m args below meth c H locs cells slots ls hC hH hL hs h1 h2 h3 h4 => ?_
  have ha : a < 2 ^ 31 := b_lt (ok_h (ok_s hs))
  have hb : b < 2 ^ 31 := b_lt (ok_h hs)
  refine lv_irem hC.1 hC.2.1 hd (by rw [b_oN]; exact nI_ne0 hb0 hb) ?_
  rw [b_oN, b_oN, pk_rem ha hb0 hb, ← b_oN]
  exact k p e R s m args below meth c H locs cells slots ls hC hH hL (ok_ki (b_in (Nat.lt_of_le_of_lt (Nat.mod_le _ _) ha)) (ok_s (ok_s hs))) h1 h2 h3 h4
theorem aw_i2c {z : Int} (hd : decode y.2.1 pc = .ok (.i2c, 1)) (k : AW G x y d bc bs Q (pc + 1) lst (aI (z % 65536) :: st) nn μ) : AW G x y d bc bs Q pc lst (aI z :: st) nn μ := by
  refine aw_st (fun h => ok_k (by unfold okv inR; simp only; omega) (ok_s h)) (fun p e R s m args below meth c H locs cells slots ls Z hx hb _ kk => lv_i2c hx hb hd ?_ kk) k
  rw [pk_char, b_tn, ← b_oN]
  congr 1
  omega
-- longs
theorem aw_land {a b : BitVec 64} (hd : decode y.2.1 pc = .ok (.land, 1)) (k : AW G x y d bc bs Q (pc + 1) lst (aL (a &&& b) :: st) nn μ) : AW G x y d bc bs Q pc lst (aL b :: aL a :: st) nn μ :=
  aw_st (fun h => ok_kr (ok_s (ok_s h))) (fun p e R s m args below meth c H locs cells slots ls Z hx hb _ kk => lv_land hx hb hd kk) k
theorem aw_lor {a b : BitVec 64} (hd : decode y.2.1 pc = .ok (.lor, 1)) (k : AW G x y d bc bs Q (pc + 1) lst (aL (a ||| b) :: st) nn μ) : AW G x y d bc bs Q pc lst (aL b :: aL a :: st) nn μ :=
  aw_st (fun h => ok_kr (ok_s (ok_s h))) (fun p e R s m args below meth c H locs cells slots ls Z hx hb _ kk => lv_lor hx hb hd kk) k
theorem aw_lxor {a b : BitVec 64} (hd : decode y.2.1 pc = .ok (.lxor, 1)) (k : AW G x y d bc bs Q (pc + 1) lst (aL (a ^^^ b) :: st) nn μ) : AW G x y d bc bs Q pc lst (aL b :: aL a :: st) nn μ :=
  aw_st (fun h => ok_kr (ok_s (ok_s h))) (fun p e R s m args below meth c H locs cells slots ls Z hx hb _ kk => lv_lxor hx hb hd kk) k
theorem aw_i2l {z : Int} (hd : decode y.2.1 pc = .ok (.i2l, 1)) (k : AW G x y d bc bs Q (pc + 1) lst (aL (BitVec.ofInt 64 z) :: st) nn μ) : AW G x y d bc bs Q pc lst (aI z :: st) nn μ := by
  refine fun p e R s m args below meth c H locs cells slots ls hC hH hL hs h1 h2 h3 h4 => ?_
  have hz : inR z := ok_h hs
  refine lv_i2l hC.1 hC.2.1 hd (v := Int64.ofBitVec (BitVec.ofInt 64 z)) ?_ (k p e R s m args below meth c H locs cells slots ls hC hH hL (ok_kr (ok_s hs)) h1 h2 h3 h4)
  apply Int64.toInt.inj
  rw [Int32.toInt_toInt64, n_ti hz]
  show z = (BitVec.ofInt 64 z).toInt
  rw [BitVec.toInt_ofInt]
  unfold inR at hz
  rw [Int.bmod_eq_of_le (by omega) (by omega)]
theorem b_l1 : ∀ k, k < 64 → ((nI k).toInt64 &&& 63) = lN k := by decide +kernel
theorem b_l2 : ∀ k, k < 64 → ((nI k).toInt64.toUInt64 &&& Int64.toUInt64 63) = UInt64.ofNat k := by decide +kernel
theorem b_l3 : ∀ k, k < 64 → (lN k).toBitVec.smod 64 = BitVec.ofNat 64 k := by decide +kernel
theorem aw_lshl {a : BitVec 64} {w : Int} {k0 : Nat} (hw : w = (k0 : Int)) (hk : k0 < 64) (hd : decode y.2.1 pc = .ok (.lshl, 1)) (k : AW G x y d bc bs Q (pc + 1) lst (aL (a <<< k0) :: st) nn μ) : AW G x y d bc bs Q pc lst (aI w :: aL a :: st) nn μ := by
  subst hw
  refine aw_st (fun h => ok_kr (ok_s (ok_s h))) (fun p e R s m args below meth c H locs cells slots ls Z hx hb _ kk => lv_lshl hx hb hd ?_ kk) k
  rw [b_oN, b_l1 k0 hk]
  apply Int64.toBitVec.inj
  show a <<< ((lN k0).toBitVec.smod 64) = a <<< k0
  rw [b_l3 k0 hk, BitVec.shiftLeft_eq', BitVec.toNat_ofNat, Nat.mod_eq_of_lt (by omega)]
theorem aw_lushr {a : BitVec 64} {w : Int} {k0 : Nat} (hw : w = (k0 : Int)) (hk : k0 < 64) (hd : decode y.2.1 pc = .ok (.lushr, 1)) (k : AW G x y d bc bs Q (pc + 1) lst (aL (a >>> k0) :: st) nn μ) : AW G x y d bc bs Q pc lst (aI w :: aL a :: st) nn μ := by
  subst hw
  refine aw_st (fun h => ok_kr (ok_s (ok_s h))) (fun p e R s m args below meth c H locs cells slots ls Z hx hb _ kk => lv_lushr hx hb hd ?_ kk) k
  rw [b_oN, b_l2 k0 hk]
  apply Int64.toBitVec.inj
  apply BitVec.eq_of_toNat_eq
  show ((Int64.ofBitVec a).toUInt64 >>> UInt64.ofNat k0).toNat = (a >>> k0).toNat
  rw [UInt64.toNat_shiftRight, BitVec.toNat_ushiftRight]
  have e1 : (UInt64.ofNat k0).toNat % 64 = k0 := by
    show (k0 % 2 ^ 64) % 64 = k0
    omega
  rw [e1]
  rfl
end
