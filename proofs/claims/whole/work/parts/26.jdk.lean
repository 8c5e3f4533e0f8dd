/-! the JDK's small methods -/
section
theorem aw_ladd {G : aG} {x : Bool} {y : aY} {d bc bs : Nat} {Q : aQ → Nat → aM → Prop} {pc : Nat} {lst : List (Option aV)} {st : List aV} {nn : Nat} {μ : aM} {a b : BitVec 64} (hd : decode y.2.1 pc = .ok (.ladd, 1)) (k : AW G x y d bc bs Q (pc + 1) lst (aL (a + b) :: st) nn μ) : AW G x y d bc bs Q pc lst (aL b :: aL a :: st) nn μ :=
  aw_st (fun h => ok_kr (ok_s (ok_s h))) (fun p e R s m args below meth c H locs cells slots ls Z hx hb _ kk => lv_ladd hx hb hd kk) k
theorem aw_lsub {G : aG} {x : Bool} {y : aY} {d bc bs : Nat} {Q : aQ → Nat → aM → Prop} {pc : Nat} {lst : List (Option aV)} {st : List aV} {nn : Nat} {μ : aM} {a b : BitVec 64} (hd : decode y.2.1 pc = .ok (.lsub, 1)) (k : AW G x y d bc bs Q (pc + 1) lst (aL (a - b) :: st) nn μ) : AW G x y d bc bs Q pc lst (aL b :: aL a :: st) nn μ :=
  aw_st (fun h => ok_kr (ok_s (ok_s h))) (fun p e R s m args below meth c H locs cells slots ls Z hx hb _ kk => lv_lsub hx hb hd kk) k
theorem aw_l2i {G : aG} {x : Bool} {y : aY} {d bc bs : Nat} {Q : aQ → Nat → aM → Prop} {pc : Nat} {lst : List (Option aV)} {st : List aV} {nn : Nat} {μ : aM} {b : BitVec 64} (hd : decode y.2.1 pc = .ok (.l2i, 1)) (k : AW G x y d bc bs Q (pc + 1) lst (aI (b.setWidth 32).toInt :: st) nn μ) : AW G x y d bc bs Q pc lst (aL b :: st) nn μ := by
  have hr : inR (b.setWidth 32).toInt := by
    have h1 := BitVec.toInt_lt (x := b.setWidth 32)
    have h2 := BitVec.le_toInt (x := b.setWidth 32)
    unfold inR
    omega
  have he : (Int64.ofBitVec b).toInt32 = Int32.ofInt ((b.setWidth 32).toInt) := by
    apply Int32.toBitVec.inj
    rw [Int32.toBitVec_ofInt, BitVec.ofInt_toInt]
    show b.signExtend 32 = b.setWidth 32
    exact BitVec.signExtend_eq_setWidth_of_le b (by omega)
  exact aw_st (fun h => ok_ki hr (ok_s h)) (fun p e R s m args below meth c H locs cells slots ls Z hx hb _ kk => lv_l2i hx hb hd he kk) k
theorem aw_ldcw {G : aG} {x : Bool} {y : aY} {d bc bs : Nat} {Q : aQ → Nat → aM → Prop} {pc : Nat} {lst : List (Option aV)} {st : List aV} {nn : Nat} {μ : aM} {idx : Nat} {v : Int32} {z : Int} (hc : Cond.constant y.1.cls idx v ∈ TB) (hz : Int32.ofInt z = v) (hr : inR z) (hd : decode y.2.1 pc = .ok (.ldc_w idx, 3)) (k : AW G x y d bc bs Q (pc + 3) lst (aI z :: st) nn μ) : AW G x y d bc bs Q pc lst st nn μ := by
  subst hz
  exact fun p e R s m args below meth c H locs cells slots ls hC hH hL hs h1 h2 h3 h4 => lv_ldcw hC.1 hC.2.1 hC.own (hC.tb _ hc) hd (k p e R s m args below meth c H locs cells slots ls hC hH hL (ok_ki hr hs) h1 h2 h3 h4)
theorem in_JI : Cond.initialized "java/lang/Integer" ∈ TB := tb_1 23 rfl rfl
theorem in_JL : Cond.initialized "java/lang/Long" ∈ TB := tb_1 24 rfl rfl
theorem in_JM : Cond.initialized "java/lang/Math" ∈ TB := tb_1 25 rfl rfl
def y_JI_bitCount : MethodName × ByteArray × Nat × Option FieldType × List (Nat × Nat × Nat × Nat) := (⟨"java/lang/Integer", "bitCount", "(I)I"⟩, prog_18_method_49_code, 1, (Option.some Jvm.ClassFile.FieldType.int), [])
theorem d_JI_bitCount_0 : decode y_JI_bitCount.2.1 0 = .ok (.iload_n 0, 1) := by decide +kernel
theorem d_JI_bitCount_1 : decode y_JI_bitCount.2.1 1 = .ok (.iload_n 0, 1) := by decide +kernel
theorem d_JI_bitCount_2 : decode y_JI_bitCount.2.1 2 = .ok (.iconst 1, 1) := by decide +kernel
theorem d_JI_bitCount_3 : decode y_JI_bitCount.2.1 3 = .ok (.iushr, 1) := by decide +kernel
theorem d_JI_bitCount_4 : decode y_JI_bitCount.2.1 4 = .ok (.ldc_w 265, 3) := by decide +kernel
theorem d_JI_bitCount_7 : decode y_JI_bitCount.2.1 7 = .ok (.iand, 1) := by decide +kernel
theorem d_JI_bitCount_8 : decode y_JI_bitCount.2.1 8 = .ok (.isub, 1) := by decide +kernel
theorem d_JI_bitCount_9 : decode y_JI_bitCount.2.1 9 = .ok (.istore_n 0, 1) := by decide +kernel
theorem d_JI_bitCount_10 : decode y_JI_bitCount.2.1 10 = .ok (.iload_n 0, 1) := by decide +kernel
theorem d_JI_bitCount_11 : decode y_JI_bitCount.2.1 11 = .ok (.ldc_w 266, 3) := by decide +kernel
theorem d_JI_bitCount_14 : decode y_JI_bitCount.2.1 14 = .ok (.iand, 1) := by decide +kernel
theorem d_JI_bitCount_15 : decode y_JI_bitCount.2.1 15 = .ok (.iload_n 0, 1) := by decide +kernel
theorem d_JI_bitCount_16 : decode y_JI_bitCount.2.1 16 = .ok (.iconst 2, 1) := by decide +kernel
theorem d_JI_bitCount_17 : decode y_JI_bitCount.2.1 17 = .ok (.iushr, 1) := by decide +kernel
theorem d_JI_bitCount_18 : decode y_JI_bitCount.2.1 18 = .ok (.ldc_w 266, 3) := by decide +kernel
theorem d_JI_bitCount_21 : decode y_JI_bitCount.2.1 21 = .ok (.iand, 1) := by decide +kernel
theorem d_JI_bitCount_22 : decode y_JI_bitCount.2.1 22 = .ok (.iadd, 1) := by decide +kernel
theorem d_JI_bitCount_23 : decode y_JI_bitCount.2.1 23 = .ok (.istore_n 0, 1) := by decide +kernel
theorem d_JI_bitCount_24 : decode y_JI_bitCount.2.1 24 = .ok (.iload_n 0, 1) := by decide +kernel
theorem d_JI_bitCount_25 : decode y_JI_bitCount.2.1 25 = .ok (.iload_n 0, 1) := by decide +kernel
theorem d_JI_bitCount_26 : decode y_JI_bitCount.2.1 26 = .ok (.iconst 4, 1) := by decide +kernel
theorem d_JI_bitCount_27 : decode y_JI_bitCount.2.1 27 = .ok (.iushr, 1) := by decide +kernel
theorem d_JI_bitCount_28 : decode y_JI_bitCount.2.1 28 = .ok (.iadd, 1) := by decide +kernel
theorem d_JI_bitCount_29 : decode y_JI_bitCount.2.1 29 = .ok (.ldc_w 267, 3) := by decide +kernel
theorem d_JI_bitCount_32 : decode y_JI_bitCount.2.1 32 = .ok (.iand, 1) := by decide +kernel
theorem d_JI_bitCount_33 : decode y_JI_bitCount.2.1 33 = .ok (.istore_n 0, 1) := by decide +kernel
theorem d_JI_bitCount_34 : decode y_JI_bitCount.2.1 34 = .ok (.iload_n 0, 1) := by decide +kernel
theorem d_JI_bitCount_35 : decode y_JI_bitCount.2.1 35 = .ok (.iload_n 0, 1) := by decide +kernel
theorem d_JI_bitCount_36 : decode y_JI_bitCount.2.1 36 = .ok (.bipush 8, 2) := by decide +kernel
theorem d_JI_bitCount_38 : decode y_JI_bitCount.2.1 38 = .ok (.iushr, 1) := by decide +kernel
theorem d_JI_bitCount_39 : decode y_JI_bitCount.2.1 39 = .ok (.iadd, 1) := by decide +kernel
theorem d_JI_bitCount_40 : decode y_JI_bitCount.2.1 40 = .ok (.istore_n 0, 1) := by decide +kernel
theorem d_JI_bitCount_41 : decode y_JI_bitCount.2.1 41 = .ok (.iload_n 0, 1) := by decide +kernel
theorem d_JI_bitCount_42 : decode y_JI_bitCount.2.1 42 = .ok (.iload_n 0, 1) := by decide +kernel
theorem d_JI_bitCount_43 : decode y_JI_bitCount.2.1 43 = .ok (.bipush 16, 2) := by decide +kernel
theorem d_JI_bitCount_45 : decode y_JI_bitCount.2.1 45 = .ok (.iushr, 1) := by decide +kernel
theorem d_JI_bitCount_46 : decode y_JI_bitCount.2.1 46 = .ok (.iadd, 1) := by decide +kernel
theorem d_JI_bitCount_47 : decode y_JI_bitCount.2.1 47 = .ok (.istore_n 0, 1) := by decide +kernel
theorem d_JI_bitCount_48 : decode y_JI_bitCount.2.1 48 = .ok (.iload_n 0, 1) := by decide +kernel
theorem d_JI_bitCount_49 : decode y_JI_bitCount.2.1 49 = .ok (.bipush 63, 2) := by decide +kernel
theorem d_JI_bitCount_51 : decode y_JI_bitCount.2.1 51 = .ok (.iand, 1) := by decide +kernel
theorem d_JI_bitCount_52 : decode y_JI_bitCount.2.1 52 = .ok (.ireturn, 1) := by decide +kernel
theorem cd_JI_bitCount : cdY y_JI_bitCount ∈ TB := tb_3 70 rfl rfl
theorem st_JI_bitCount : Cond.static y_JI_bitCount.1 ∈ TB := tb_3 69 rfl rfl
theorem mh_JI_bitCount : mhOK y_JI_bitCount.1 1 := ⟨⟨by decide, by decide⟩, by decide +kernel⟩
theorem pf_JI_bitCount : plainFor y_JI_bitCount.1 = true := by decide +kernel
theorem cs_Re_79 : CSok "MaskedCauses$Reader" 79 1 y_JI_bitCount := ⟨cd_JI_bitCount, in_JI, Or.inl (tb_3 68 rfl rfl), st_JI_bitCount, mh_JI_bitCount, by decide⟩
theorem cs_Tr_52 : CSok "MaskedCauses$Tree" 52 1 y_JI_bitCount := ⟨cd_JI_bitCount, in_JI, Or.inl (tb_3 121 rfl rfl), st_JI_bitCount, mh_JI_bitCount, by decide⟩
def y_JL_bitCount : MethodName × ByteArray × Nat × Option FieldType × List (Nat × Nat × Nat × Nat) := (⟨"java/lang/Long", "bitCount", "(J)I"⟩, prog_19_method_50_code, 2, (Option.some Jvm.ClassFile.FieldType.int), [])
theorem d_JL_bitCount_0 : decode y_JL_bitCount.2.1 0 = .ok (.lload_n 0, 1) := by decide +kernel
theorem d_JL_bitCount_1 : decode y_JL_bitCount.2.1 1 = .ok (.lload_n 0, 1) := by decide +kernel
theorem d_JL_bitCount_2 : decode y_JL_bitCount.2.1 2 = .ok (.iconst 1, 1) := by decide +kernel
theorem d_JL_bitCount_3 : decode y_JL_bitCount.2.1 3 = .ok (.lushr, 1) := by decide +kernel
theorem d_JL_bitCount_4 : decode y_JL_bitCount.2.1 4 = .ok (.ldc2_w 314, 3) := by decide +kernel
theorem d_JL_bitCount_7 : decode y_JL_bitCount.2.1 7 = .ok (.land, 1) := by decide +kernel
theorem d_JL_bitCount_8 : decode y_JL_bitCount.2.1 8 = .ok (.lsub, 1) := by decide +kernel
theorem d_JL_bitCount_9 : decode y_JL_bitCount.2.1 9 = .ok (.lstore_n 0, 1) := by decide +kernel
theorem d_JL_bitCount_10 : decode y_JL_bitCount.2.1 10 = .ok (.lload_n 0, 1) := by decide +kernel
theorem d_JL_bitCount_11 : decode y_JL_bitCount.2.1 11 = .ok (.ldc2_w 316, 3) := by decide +kernel
theorem d_JL_bitCount_14 : decode y_JL_bitCount.2.1 14 = .ok (.land, 1) := by decide +kernel
theorem d_JL_bitCount_15 : decode y_JL_bitCount.2.1 15 = .ok (.lload_n 0, 1) := by decide +kernel
theorem d_JL_bitCount_16 : decode y_JL_bitCount.2.1 16 = .ok (.iconst 2, 1) := by decide +kernel
theorem d_JL_bitCount_17 : decode y_JL_bitCount.2.1 17 = .ok (.lushr, 1) := by decide +kernel
theorem d_JL_bitCount_18 : decode y_JL_bitCount.2.1 18 = .ok (.ldc2_w 316, 3) := by decide +kernel
theorem d_JL_bitCount_21 : decode y_JL_bitCount.2.1 21 = .ok (.land, 1) := by decide +kernel
theorem d_JL_bitCount_22 : decode y_JL_bitCount.2.1 22 = .ok (.ladd, 1) := by decide +kernel
theorem d_JL_bitCount_23 : decode y_JL_bitCount.2.1 23 = .ok (.lstore_n 0, 1) := by decide +kernel
theorem d_JL_bitCount_24 : decode y_JL_bitCount.2.1 24 = .ok (.lload_n 0, 1) := by decide +kernel
theorem d_JL_bitCount_25 : decode y_JL_bitCount.2.1 25 = .ok (.lload_n 0, 1) := by decide +kernel
theorem d_JL_bitCount_26 : decode y_JL_bitCount.2.1 26 = .ok (.iconst 4, 1) := by decide +kernel
theorem d_JL_bitCount_27 : decode y_JL_bitCount.2.1 27 = .ok (.lushr, 1) := by decide +kernel
theorem d_JL_bitCount_28 : decode y_JL_bitCount.2.1 28 = .ok (.ladd, 1) := by decide +kernel
theorem d_JL_bitCount_29 : decode y_JL_bitCount.2.1 29 = .ok (.ldc2_w 318, 3) := by decide +kernel
theorem d_JL_bitCount_32 : decode y_JL_bitCount.2.1 32 = .ok (.land, 1) := by decide +kernel
theorem d_JL_bitCount_33 : decode y_JL_bitCount.2.1 33 = .ok (.lstore_n 0, 1) := by decide +kernel
theorem d_JL_bitCount_34 : decode y_JL_bitCount.2.1 34 = .ok (.lload_n 0, 1) := by decide +kernel
theorem d_JL_bitCount_35 : decode y_JL_bitCount.2.1 35 = .ok (.lload_n 0, 1) := by decide +kernel
theorem d_JL_bitCount_36 : decode y_JL_bitCount.2.1 36 = .ok (.bipush 8, 2) := by decide +kernel
theorem d_JL_bitCount_38 : decode y_JL_bitCount.2.1 38 = .ok (.lushr, 1) := by decide +kernel
theorem d_JL_bitCount_39 : decode y_JL_bitCount.2.1 39 = .ok (.ladd, 1) := by decide +kernel
theorem d_JL_bitCount_40 : decode y_JL_bitCount.2.1 40 = .ok (.lstore_n 0, 1) := by decide +kernel
theorem d_JL_bitCount_41 : decode y_JL_bitCount.2.1 41 = .ok (.lload_n 0, 1) := by decide +kernel
theorem d_JL_bitCount_42 : decode y_JL_bitCount.2.1 42 = .ok (.lload_n 0, 1) := by decide +kernel
theorem d_JL_bitCount_43 : decode y_JL_bitCount.2.1 43 = .ok (.bipush 16, 2) := by decide +kernel
theorem d_JL_bitCount_45 : decode y_JL_bitCount.2.1 45 = .ok (.lushr, 1) := by decide +kernel
theorem d_JL_bitCount_46 : decode y_JL_bitCount.2.1 46 = .ok (.ladd, 1) := by decide +kernel
theorem d_JL_bitCount_47 : decode y_JL_bitCount.2.1 47 = .ok (.lstore_n 0, 1) := by decide +kernel
theorem d_JL_bitCount_48 : decode y_JL_bitCount.2.1 48 = .ok (.lload_n 0, 1) := by decide +kernel
theorem d_JL_bitCount_49 : decode y_JL_bitCount.2.1 49 = .ok (.lload_n 0, 1) := by decide +kernel
theorem d_JL_bitCount_50 : decode y_JL_bitCount.2.1 50 = .ok (.bipush 32, 2) := by decide +kernel
theorem d_JL_bitCount_52 : decode y_JL_bitCount.2.1 52 = .ok (.lushr, 1) := by decide +kernel
theorem d_JL_bitCount_53 : decode y_JL_bitCount.2.1 53 = .ok (.ladd, 1) := by decide +kernel
theorem d_JL_bitCount_54 : decode y_JL_bitCount.2.1 54 = .ok (.lstore_n 0, 1) := by decide +kernel
theorem d_JL_bitCount_55 : decode y_JL_bitCount.2.1 55 = .ok (.lload_n 0, 1) := by decide +kernel
theorem d_JL_bitCount_56 : decode y_JL_bitCount.2.1 56 = .ok (.l2i, 1) := by decide +kernel
theorem d_JL_bitCount_57 : decode y_JL_bitCount.2.1 57 = .ok (.bipush 127, 2) := by decide +kernel
theorem d_JL_bitCount_59 : decode y_JL_bitCount.2.1 59 = .ok (.iand, 1) := by decide +kernel
theorem d_JL_bitCount_60 : decode y_JL_bitCount.2.1 60 = .ok (.ireturn, 1) := by decide +kernel
theorem cd_JL_bitCount : cdY y_JL_bitCount ∈ TB := tb_3 239 rfl rfl
theorem st_JL_bitCount : Cond.static y_JL_bitCount.1 ∈ TB := tb_3 238 rfl rfl
theorem mh_JL_bitCount : mhOK y_JL_bitCount.1 1 := ⟨⟨by decide, by decide⟩, by decide +kernel⟩
theorem pf_JL_bitCount : plainFor y_JL_bitCount.1 = true := by decide +kernel
theorem cs_MC_154 : CSok "MaskedCauses" 154 1 y_JL_bitCount := ⟨cd_JL_bitCount, in_JL, Or.inl (tb_3 237 rfl rfl), st_JL_bitCount, mh_JL_bitCount, by decide⟩
def y_JM_min : MethodName × ByteArray × Nat × Option FieldType × List (Nat × Nat × Nat × Nat) := (⟨"java/lang/Math", "min", "(II)I"⟩, prog_20_method_69_code, 2, (Option.some Jvm.ClassFile.FieldType.int), [])
theorem d_JM_min_0 : decode y_JM_min.2.1 0 = .ok (.iload_n 0, 1) := by decide +kernel
theorem d_JM_min_1 : decode y_JM_min.2.1 1 = .ok (.iload_n 1, 1) := by decide +kernel
theorem d_JM_min_2 : decode y_JM_min.2.1 2 = .ok (.if_icmp .gt 7, 3) := by decide +kernel
theorem d_JM_min_5 : decode y_JM_min.2.1 5 = .ok (.iload_n 0, 1) := by decide +kernel
theorem d_JM_min_6 : decode y_JM_min.2.1 6 = .ok (.goto 4, 3) := by decide +kernel
theorem d_JM_min_9 : decode y_JM_min.2.1 9 = .ok (.iload_n 1, 1) := by decide +kernel
theorem d_JM_min_10 : decode y_JM_min.2.1 10 = .ok (.ireturn, 1) := by decide +kernel
theorem cd_JM_min : cdY y_JM_min ∈ TB := tb_4 114 rfl rfl
theorem st_JM_min : Cond.static y_JM_min.1 ∈ TB := tb_4 113 rfl rfl
theorem mh_JM_min : mhOK y_JM_min.1 2 := ⟨⟨by decide, by decide⟩, by decide +kernel⟩
theorem pf_JM_min : plainFor y_JM_min.1 = true := by decide +kernel
theorem cs_Fe_35 : CSok "MaskedCauses$Fewest" 35 2 y_JM_min := ⟨cd_JM_min, in_JM, Or.inl (tb_4 112 rfl rfl), st_JM_min, mh_JM_min, by decide⟩
theorem kc_JI_265 : Cond.constant "java/lang/Integer" 265 1431655765 ∈ TB := tb_3 71 rfl rfl
theorem kc_JI_266 : Cond.constant "java/lang/Integer" 266 858993459 ∈ TB := tb_3 72 rfl rfl
theorem kc_JI_267 : Cond.constant "java/lang/Integer" 267 252645135 ∈ TB := tb_3 73 rfl rfl
theorem kc_JL_314 : Cond.constantLong "java/lang/Long" 314 6148914691236517205 ∈ TB := tb_4 0 rfl rfl
theorem kc_JL_316 : Cond.constantLong "java/lang/Long" 316 3689348814741910323 ∈ TB := tb_4 1 rfl rfl
theorem kc_JL_318 : Cond.constantLong "java/lang/Long" 318 1085102592571150095 ∈ TB := tb_4 2 rfl rfl
end
