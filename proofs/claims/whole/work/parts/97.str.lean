/-! String.charAt over the constant -/
section
theorem cv_old (G : aG) (k : Nat) : cv G (aP (1000 + k)) = .ref (go G k) := by show Value.ref (adr G (1000 + k)) = _; rw [adr_old]
theorem aw_ldcS {G : aG} {x : Bool} {y : aY} {d bc bs : Nat} {Q : aQ → Nat → aM → Prop} {pc : Nat} {lst : List (Option aV)} {st : List aV} {nn : Nat} {μ : aM} {idx k : Nat} (hk : (y.1.cls = "MaskedCauses$Reader" ∧ idx = 52 ∧ k = 2) ∨ (y.1.cls = "MaskedCauses$Tree" ∧ idx = 78 ∧ k = 4)) (hd : decode y.2.1 pc = .ok (.ldc idx, 2)) (kk : AW G x y d bc bs Q (pc + 2) lst (aP (1000 + k) :: st) nn μ) : AW G x y d bc bs Q pc lst st nn μ := by
  intro p e R s m args below meth c0 H locs cells slots ls hC hH hL hs h1 h2 h3 h4
  have hS := hC.kx.2.2.1.2.2.2.2.2.2.2.2.2.2.2.2.2
  have hk9 := kk p e R s m args below meth c0 H locs cells slots ls hC hH hL (ok_kr hs) h1 h2 h3 h4
  rw [List.map_cons, cv_old] at hk9
  have hz : vk_R y.1.cls idx "|^&!" (go G k) s := by
    rcases hk with ⟨e1, e2, e3⟩ | ⟨e1, e2, e3⟩
    · rw [e1, e2, e3]; exact hS.1
    · rw [e1, e2, e3]; exact hS.2.1
  exact va_ldcS hC.1 hC.2.1 hC.own hz hd hk9
theorem sc_at {G : aG} {k : Nat} {U : State} {Hh : Heap} (hk : k = 2 ∨ k = 4) (h : EVS (go G) (gA G) U Hh) : SCx (go G k) (go G (k + 1)) (gA G) U Hh := by
  rcases hk with rfl | rfl
  · exact h.2.2.1
  · exact h.2.2.2.1
theorem aw_ofV {G : aG} {x : Bool} {y : aY} {d bc bs : Nat} {Q : aQ → Nat → aM → Prop} {pc : Nat} {lst : List (Option aV)} {st : List aV} {nn : Nat} {μ : aM} {k : Nat} (hk : k = 2 ∨ k = 4) (hy : y.1.cls = "java/lang/String") (hd : decode y.2.1 pc = .ok (.getfield 9, 3)) (kk : AW G x y d bc bs Q (pc + 3) lst (aP (1000 + (k + 1)) :: st) nn μ) : AW G x y d bc bs Q pc lst (aP (1000 + k) :: st) nn μ := by
  intro p e R s m args below meth c0 H locs cells slots ls hC hH hL hs h1 h2 h3 h4
  have hS := hC.kx.2.2.1.2.2.2.2.2.2.2.2.2.2.2.2.2
  have hk9 := kk p e R s m args below meth c0 H locs cells slots ls hC hH hL (ok_kr (ok_s hs)) h1 h2 h3 h4
  rw [List.map_cons, cv_old] at hk9
  rw [List.map_cons, cv_old]
  have ho : s.vm.findClass "java/lang/String" = some m.cls := by rw [← hy]; exact hC.own
  exact vk_getf hC.1 hC.2.1 (sc_at hk hS).2.2.1 hH.2 ho (hC.tb _ (tb_6 28 rfl rfl)) (fun _ h => h) hd hk9
theorem aw_ofC {G : aG} {x : Bool} {y : aY} {d bc bs : Nat} {Q : aQ → Nat → aM → Prop} {pc : Nat} {lst : List (Option aV)} {st : List aV} {nn : Nat} {μ : aM} {k : Nat} (hk : k = 2 ∨ k = 4) (hy : y.1.cls = "java/lang/String") (hd : decode y.2.1 pc = .ok (.getfield 15, 3)) (kk : AW G x y d bc bs Q (pc + 3) lst (aI 0 :: st) nn μ) : AW G x y d bc bs Q pc lst (aP (1000 + k) :: st) nn μ := by
  intro p e R s m args below meth c0 H locs cells slots ls hC hH hL hs h1 h2 h3 h4
  have hS := hC.kx.2.2.1.2.2.2.2.2.2.2.2.2.2.2.2.2
  have hk9 := kk p e R s m args below meth c0 H locs cells slots ls hC hH hL (ok_ki inR_0 (ok_s hs)) h1 h2 h3 h4
  rw [List.map_cons] at hk9
  rw [List.map_cons, cv_old]
  have ho : s.vm.findClass "java/lang/String" = some m.cls := by rw [← hy]; exact hC.own
  exact vk_getf hC.1 hC.2.1 (sc_at hk hS).2.1 hH.2 ho (hC.tb _ (tb_6 27 rfl rfl)) (fun _ h => h) hd hk9
theorem aw_gsC {G : aG} {x : Bool} {y : aY} {d bc bs : Nat} {Q : aQ → Nat → aM → Prop} {pc : Nat} {lst : List (Option aV)} {st : List aV} {nn : Nat} {μ : aM} (hy : y.1.cls = "java/lang/String") (hd : decode y.2.1 pc = .ok (.getstatic 38, 3)) (kk : AW G x y d bc bs Q (pc + 3) lst (aI 1 :: st) nn μ) : AW G x y d bc bs Q pc lst st nn μ := by
  intro p e R s m args below meth c0 H locs cells slots ls hC hH hL hs h1 h2 h3 h4
  have hS := hC.kx.2.2.1.2.2.2.2.2.2.2.2.2.2.2.2.2
  have hk9 := kk p e R s m args below meth c0 H locs cells slots ls hC hH hL (ok_ki (in_c rfl) hs) h1 h2 h3 h4
  rw [List.map_cons] at hk9
  have ho : s.vm.findClass "java/lang/String" = some m.cls := by rw [← hy]; exact hC.own
  exact va_gets hC.1 hC.2.1 hS.2.2.2.2.1 hH.2 ho (hC.tb _ (tb_3 20 rfl rfl)) (fun _ h => h) hd hk9
theorem aw_gsF {G : aG} {x : Bool} {y : aY} {d bc bs : Nat} {Q : aQ → Nat → aM → Prop} {pc : Nat} {lst : List (Option aV)} {st : List aV} {nn : Nat} {μ : aM} (hy : y.1.cls = "java/lang/String") (hd : decode y.2.1 pc = .ok (.getstatic 1053, 3)) (kk : ∀ o, AW G x y d bc bs Q (pc + 3) lst (aR o :: st) nn μ) : AW G x y d bc bs Q pc lst st nn μ := by
  intro p e R s m args below meth c0 H locs cells slots ls hC hH hL hs h1 h2 h3 h4
  have hS := hC.kx.2.2.1.2.2.2.2.2.2.2.2.2.2.2.2.2
  have ho : s.vm.findClass "java/lang/String" = some m.cls := by rw [← hy]; exact hC.own
  have hl := hC.tb _ (tb_3 28 rfl rfl)
  rcases hS.2.2.2.2.2 with hz | hz
  · have hk9 := kk (some (1000 + 6)) p e R s m args below meth c0 H locs cells slots ls hC hH hL (ok_kr hs) h1 h2 h3 h4
    rw [List.map_cons, show cv G (aR (some (1000 + 6))) = .ref (go G 6) from cv_old G 6] at hk9
    exact va_gets hC.1 hC.2.1 hz hH.2 ho hl (fun _ h => h) hd hk9
  · have hk9 := kk none p e R s m args below meth c0 H locs cells slots ls hC hH hL (ok_kr hs) h1 h2 h3 h4
    rw [List.map_cons] at hk9
    exact va_gets hC.1 hC.2.1 hz hH.2 ho hl (fun _ h => h) hd hk9
theorem aw_olen {G : aG} {x : Bool} {y : aY} {d bc bs : Nat} {Q : aQ → Nat → aM → Prop} {pc : Nat} {lst : List (Option aV)} {st : List aV} {nn : Nat} {μ : aM} {k : Nat} (hk : k = 2 ∨ k = 4) (hd : decode y.2.1 pc = .ok (.arraylength, 1)) (kk : AW G x y d bc bs Q (pc + 1) lst (aI 4 :: st) nn μ) : AW G x y d bc bs Q pc lst (aP (1000 + (k + 1)) :: st) nn μ := by
  intro p e R s m args below meth c0 H locs cells slots ls hC hH hL hs h1 h2 h3 h4
  have hS := hC.kx.2.2.1.2.2.2.2.2.2.2.2.2.2.2.2.2
  have hk9 := kk p e R s m args below meth c0 H locs cells slots ls hC hH hL (ok_ki (in_c rfl) (ok_s hs)) h1 h2 h3 h4
  rw [List.map_cons] at hk9
  rw [List.map_cons, cv_old]
  exact va_tlen hC.1 hC.2.1 (sc_at hk hS).2.2.2 hH.2 (v := 4) rfl hd hk9
def scV (j : Nat) : Int := sgn j
theorem scV_b : ∀ j, j < 4 → scB.getD j 0 = Int32.ofInt (scV j) := by decide +kernel
theorem scV_in : ∀ j, j < 4 → 0 ≤ scV j ∧ scV j < 128 := by decide +kernel
theorem aw_obl {G : aG} {x : Bool} {y : aY} {d bc bs : Nat} {Q : aQ → Nat → aM → Prop} {pc : Nat} {lst : List (Option aV)} {st : List aV} {nn : Nat} {μ : aM} {k j : Nat} {i : Int} (hk : k = 2 ∨ k = 4) (hi : i = (j : Int)) (hj : j < 4) (hd : decode y.2.1 pc = .ok (.baload, 1)) (kk : AW G x y d bc bs Q (pc + 1) lst (aI (scV j) :: st) nn μ) : AW G x y d bc bs Q pc lst (aI i :: aP (1000 + (k + 1)) :: st) nn μ := by
  subst hi
  intro p e R s m args below meth c0 H locs cells slots ls hC hH hL hs h1 h2 h3 h4
  have hS := hC.kx.2.2.1.2.2.2.2.2.2.2.2.2.2.2.2.2
  have hv := scV_in j hj
  have hk9 := kk p e R s m args below meth c0 H locs cells slots ls hC hH hL (ok_ki (by unfold inR; omega) (ok_s (ok_s hs))) h1 h2 h3 h4
  rw [List.map_cons] at hk9
  rw [List.map_cons, List.map_cons, cv_old]
  have hr : inR (j : Int) := by unfold inR; omega
  exact va_tb hC.1 hC.2.1 (sc_at hk hS).2.2.2 hH.2 (n_in hr (by omega) (by omega)) (v := .int (Int32.ofInt (scV j))) (by rw [n_cl hr, Int.toNat_natCast, scV_b j hj]) hd hk9
theorem aw_vo {G : aG} {y : aY} {d bc bs : Nat} {Q : aQ → Nat → aM → Prop} {pc : Nat} {lst : List (Option aV)} {st : List aV} {nn : Nat} {μ : aM} {z : aY} {as rest : List aV} {v : Option aV} {n1 : Nat} {μ1 : aM} {d' idx k : Nat} (hst : as.reverse ++ aP (1000 + k) :: rest = st) (hk : k = 2 ∨ k = 4) (hcl : z.1.cls = "java/lang/String") (hc : CVok y.1.cls idx as.length z) (hd : decode y.2.1 pc = .ok (.invokevirtual idx, 3))
    (h8 : ((rest.map (cv G)).map fun v => v.category).sum ≤ 8) (hd' : d' + 1 ≤ d) (hM : AM G false d' 0 0 z (aP (1000 + k) :: as) nn μ (Qe v n1 μ1)) (kr : AW G false y d bc bs Q (pc + 3) lst (v.toList ++ rest) n1 μ1) : AW G false y d bc bs Q pc lst st nn μ := by
  subst hst
  obtain ⟨hcd, hini, L, hin, hse, hmh, hmax⟩ := hc
  refine aw_call hcd hini hM hd' (Nat.zero_le _) (Nat.zero_le _) hmax h8 (fun h => by cases h) (fun h w hw => h w (List.mem_append_right _ (List.mem_cons_of_mem _ hw))) hd ?_ (fun v' n' μ' h => by obtain ⟨h1, rfl, rfl⟩ := h; cases h1; exact kr) (fun E n' μ' h => by cases h.1)
  intro p e R s m args below meth c T locs cells slots ls hC hH X
  have hS := hC.kx.2.2.1.2.2.2.2.2.2.2.2.2.2.2.2.2
  obtain ⟨cellB, hcB, hoB, hclB, -⟩ := (sc_at hk hS).1.kept hH.2.2.1
  rw [← hcl] at hclB
  obtain ⟨mk, methM, hnamed, hmethM, hstM, habM⟩ := Cond.instanceMethod_spec (hC.tb _ hin)
  obtain ⟨m', methM', cM, hn', hmethM', -, -, -, -, -, -, hsigM⟩ := cd_sp (hC.tb _ hcd)
  cases Option.some.inj (hnamed.symm.trans hn')
  cases Option.some.inj (hmethM.symm.trans hmethM')
  obtain ⟨c2, r2, m2, q1, q2, q3, q4, kP, hkP, hkPi⟩ := Cond.selects_spec (hC.tb _ hse)
  cases Option.some.inj (hclB.symm.trans q1)
  cases Option.some.inj ((State.methodFound?_of_named hnamed hmh.1).symm.trans q2)
  cases Option.some.inj (hnamed.symm.trans q3)
  have hselP : selectMethod e.platform s.vm cellB.cls mk = .method mk := by rw [Launch.admits_selectMethod X.admits]; exact q4
  have ha : cv G (aP (1000 + k)) = .ref (go G k) := cv_old G k
  have hstk : (as.reverse ++ aP (1000 + k) :: rest).map (cv G) = (as.map (cv G)).reverse ++ .ref (go G k) :: rest.map (cv G) := by rw [List.map_append, List.map_cons, ha, List.map_reverse]
  rw [hstk]
  have hargs : (aP (1000 + k) :: as).map (cv G) = Value.ref (go G k) :: as.map (cv G) := by rw [List.map_cons, ha]
  rw [hargs]
  have hdc : decode c.code pc = .ok (.invokevirtual idx, 3) := by rw [hC.2.1]; exact hd
  have hlen : (as.map (cv G)).length = methM.sig.parameters.length := by rw [List.length_map]; exact mh_len hmh hsigM
  rcases L with L | ⟨host, L⟩
  · obtain ⟨vm₁, X₁, hstep₁⟩ := X.invokevirtual hC.1 hC.own (hC.tb _ L) hnamed hmethM hstM hkP hkPi hmh.1 (a := go G k) (cell := cellB) hcB (fun z h => by rw [h] at hoB; cases hoB) hselP hmethM habM hkP hkPi
      (g := F0 m pc ls ((as.map (cv G)).reverse ++ .ref (go G k) :: rest.map (cv G))) rfl (argsL := as.map (cv G)) (rest := rest.map (cv G)) hlen rfl hdc
    exact ⟨vm₁, mk, X₁.warmed, hnamed, hstep₁⟩
  · obtain ⟨vm₁, X₁, hstep₁⟩ := X.invokevirtualNest hC.1 hC.own (va_Nw.use rfl (hC.kx.1 _ L)) hnamed hmethM hstM hkP hkPi hmh.1 (a := go G k) (cell := cellB) hcB (fun z h => by rw [h] at hoB; cases hoB) hselP hmethM habM hkP hkPi
      (g := F0 m pc ls ((as.map (cv G)).reverse ++ .ref (go G k) :: rest.map (cv G))) rfl (argsL := as.map (cv G)) (rest := rest.map (cv G)) hlen rfl hdc
    exact ⟨vm₁, mk, X₁.warmed, hnamed, hstep₁⟩
theorem in_jP : Cond.initialized "jdk/internal/util/Preconditions" ∈ TB := tb_1 21 rfl rfl
def y_jS_charAt : MethodName × ByteArray × Nat × Option FieldType × List (Nat × Nat × Nat × Nat) := (⟨"java/lang/String", "charAt", "(I)C"⟩, prog_22_method_56_code, 2, (Option.some Jvm.ClassFile.FieldType.char), [])
theorem d_jS_charAt_0 : decode y_jS_charAt.2.1 0 = .ok (.aload_n 0, 1) := by decide +kernel
theorem d_jS_charAt_1 : decode y_jS_charAt.2.1 1 = .ok (.invokevirtual 492, 3) := by decide +kernel
theorem d_jS_charAt_4 : decode y_jS_charAt.2.1 4 = .ok (.ifCond .eq 12, 3) := by decide +kernel
theorem d_jS_charAt_7 : decode y_jS_charAt.2.1 7 = .ok (.aload_n 0, 1) := by decide +kernel
theorem d_jS_charAt_8 : decode y_jS_charAt.2.1 8 = .ok (.getfield 9, 3) := by decide +kernel
theorem d_jS_charAt_11 : decode y_jS_charAt.2.1 11 = .ok (.iload_n 1, 1) := by decide +kernel
theorem d_jS_charAt_12 : decode y_jS_charAt.2.1 12 = .ok (.invokestatic 495, 3) := by decide +kernel
theorem d_jS_charAt_15 : decode y_jS_charAt.2.1 15 = .ok (.ireturn, 1) := by decide +kernel
theorem d_jS_charAt_16 : decode y_jS_charAt.2.1 16 = .ok (.aload_n 0, 1) := by decide +kernel
theorem d_jS_charAt_17 : decode y_jS_charAt.2.1 17 = .ok (.getfield 9, 3) := by decide +kernel
theorem d_jS_charAt_20 : decode y_jS_charAt.2.1 20 = .ok (.iload_n 1, 1) := by decide +kernel
theorem d_jS_charAt_21 : decode y_jS_charAt.2.1 21 = .ok (.invokestatic 498, 3) := by decide +kernel
theorem d_jS_charAt_24 : decode y_jS_charAt.2.1 24 = .ok (.ireturn, 1) := by decide +kernel
theorem cd_jS_charAt : cdY y_jS_charAt ∈ TB := tb_3 15 rfl rfl
theorem mh_jS_charAt : mhOK y_jS_charAt.1 1 := ⟨⟨by decide, by decide⟩, by decide +kernel⟩
theorem pf_jS_charAt : plainFor y_jS_charAt.1 = true := by decide +kernel
theorem im_jS_charAt : Cond.instanceMethod y_jS_charAt.1 ∈ TB := tb_3 13 rfl rfl
theorem se_jS_charAt : Cond.selects y_jS_charAt.1.cls y_jS_charAt.1 y_jS_charAt.1 ∈ TB := tb_3 14 rfl rfl
theorem cv_Re_54 : CVok "MaskedCauses$Reader" 54 1 y_jS_charAt := ⟨cd_jS_charAt, in_jS, Or.inl (tb_3 12 rfl rfl), im_jS_charAt, se_jS_charAt, mh_jS_charAt, by decide⟩
theorem cv_Tr_80 : CVok "MaskedCauses$Tree" 80 1 y_jS_charAt := ⟨cd_jS_charAt, in_jS, Or.inl (tb_3 106 rfl rfl), im_jS_charAt, se_jS_charAt, mh_jS_charAt, by decide⟩
def y_jS_isLatin1 : MethodName × ByteArray × Nat × Option FieldType × List (Nat × Nat × Nat × Nat) := (⟨"java/lang/String", "isLatin1", "()Z"⟩, prog_22_method_154_code, 1, (Option.some Jvm.ClassFile.FieldType.boolean), [])
theorem d_jS_isLatin1_0 : decode y_jS_isLatin1.2.1 0 = .ok (.getstatic 38, 3) := by decide +kernel
theorem d_jS_isLatin1_3 : decode y_jS_isLatin1.2.1 3 = .ok (.ifCond .eq 14, 3) := by decide +kernel
theorem d_jS_isLatin1_6 : decode y_jS_isLatin1.2.1 6 = .ok (.aload_n 0, 1) := by decide +kernel
theorem d_jS_isLatin1_7 : decode y_jS_isLatin1.2.1 7 = .ok (.getfield 15, 3) := by decide +kernel
theorem d_jS_isLatin1_10 : decode y_jS_isLatin1.2.1 10 = .ok (.ifCond .ne 7, 3) := by decide +kernel
theorem d_jS_isLatin1_13 : decode y_jS_isLatin1.2.1 13 = .ok (.iconst 1, 1) := by decide +kernel
theorem d_jS_isLatin1_14 : decode y_jS_isLatin1.2.1 14 = .ok (.goto 4, 3) := by decide +kernel
theorem d_jS_isLatin1_17 : decode y_jS_isLatin1.2.1 17 = .ok (.iconst 0, 1) := by decide +kernel
theorem d_jS_isLatin1_18 : decode y_jS_isLatin1.2.1 18 = .ok (.ireturn, 1) := by decide +kernel
theorem cd_jS_isLatin1 : cdY y_jS_isLatin1 ∈ TB := tb_3 19 rfl rfl
theorem mh_jS_isLatin1 : mhOK y_jS_isLatin1.1 0 := ⟨⟨by decide, by decide⟩, by decide +kernel⟩
theorem pf_jS_isLatin1 : plainFor y_jS_isLatin1.1 = true := by decide +kernel
theorem im_jS_isLatin1 : Cond.instanceMethod y_jS_isLatin1.1 ∈ TB := tb_3 17 rfl rfl
theorem se_jS_isLatin1 : Cond.selects y_jS_isLatin1.1.cls y_jS_isLatin1.1 y_jS_isLatin1.1 ∈ TB := tb_3 18 rfl rfl
theorem cv_jS_492 : CVok "java/lang/String" 492 0 y_jS_isLatin1 := ⟨cd_jS_isLatin1, in_jS, Or.inl (tb_3 16 rfl rfl), im_jS_isLatin1, se_jS_isLatin1, mh_jS_isLatin1, by decide⟩
def y_jT_charAt : MethodName × ByteArray × Nat × Option FieldType × List (Nat × Nat × Nat × Nat) := (⟨"java/lang/StringLatin1", "charAt", "([BI)C"⟩, prog_23_method_2_code, 2, (Option.some Jvm.ClassFile.FieldType.char), [])
theorem d_jT_charAt_0 : decode y_jT_charAt.2.1 0 = .ok (.iload_n 1, 1) := by decide +kernel
theorem d_jT_charAt_1 : decode y_jT_charAt.2.1 1 = .ok (.aload_n 0, 1) := by decide +kernel
theorem d_jT_charAt_2 : decode y_jT_charAt.2.1 2 = .ok (.arraylength, 1) := by decide +kernel
theorem d_jT_charAt_3 : decode y_jT_charAt.2.1 3 = .ok (.invokestatic 9, 3) := by decide +kernel
theorem d_jT_charAt_6 : decode y_jT_charAt.2.1 6 = .ok (.aload_n 0, 1) := by decide +kernel
theorem d_jT_charAt_7 : decode y_jT_charAt.2.1 7 = .ok (.iload_n 1, 1) := by decide +kernel
theorem d_jT_charAt_8 : decode y_jT_charAt.2.1 8 = .ok (.baload, 1) := by decide +kernel
theorem d_jT_charAt_9 : decode y_jT_charAt.2.1 9 = .ok (.sipush 255, 3) := by decide +kernel
theorem d_jT_charAt_12 : decode y_jT_charAt.2.1 12 = .ok (.iand, 1) := by decide +kernel
theorem d_jT_charAt_13 : decode y_jT_charAt.2.1 13 = .ok (.i2c, 1) := by decide +kernel
theorem d_jT_charAt_14 : decode y_jT_charAt.2.1 14 = .ok (.ireturn, 1) := by decide +kernel
theorem cd_jT_charAt : cdY y_jT_charAt ∈ TB := tb_3 24 rfl rfl
theorem mh_jT_charAt : mhOK y_jT_charAt.1 2 := ⟨⟨by decide, by decide⟩, by decide +kernel⟩
theorem pf_jT_charAt : plainFor y_jT_charAt.1 = true := by decide +kernel
theorem st_jT_charAt : Cond.static y_jT_charAt.1 ∈ TB := tb_3 23 rfl rfl
theorem cs_jS_495 : CSok "java/lang/String" 495 2 y_jT_charAt := ⟨cd_jT_charAt, in_jT, Or.inl (tb_3 22 rfl rfl), st_jT_charAt, mh_jT_charAt, by decide⟩
def y_jS_checkIndex : MethodName × ByteArray × Nat × Option FieldType × List (Nat × Nat × Nat × Nat) := (⟨"java/lang/String", "checkIndex", "(II)V"⟩, prog_22_method_155_code, 2, (Option.none : Option Jvm.ClassFile.FieldType), [])
theorem d_jS_checkIndex_0 : decode y_jS_checkIndex.2.1 0 = .ok (.iload_n 0, 1) := by decide +kernel
theorem d_jS_checkIndex_1 : decode y_jS_checkIndex.2.1 1 = .ok (.iload_n 1, 1) := by decide +kernel
theorem d_jS_checkIndex_2 : decode y_jS_checkIndex.2.1 2 = .ok (.getstatic 1053, 3) := by decide +kernel
theorem d_jS_checkIndex_5 : decode y_jS_checkIndex.2.1 5 = .ok (.invokestatic 1059, 3) := by decide +kernel
theorem d_jS_checkIndex_8 : decode y_jS_checkIndex.2.1 8 = .ok (.pop, 1) := by decide +kernel
theorem d_jS_checkIndex_9 : decode y_jS_checkIndex.2.1 9 = .ok (.return_, 1) := by decide +kernel
theorem cd_jS_checkIndex : cdY y_jS_checkIndex ∈ TB := tb_3 27 rfl rfl
theorem mh_jS_checkIndex : mhOK y_jS_checkIndex.1 2 := ⟨⟨by decide, by decide⟩, by decide +kernel⟩
theorem pf_jS_checkIndex : plainFor y_jS_checkIndex.1 = true := by decide +kernel
theorem st_jS_checkIndex : Cond.static y_jS_checkIndex.1 ∈ TB := tb_3 26 rfl rfl
theorem cs_jT_9 : CSok "java/lang/StringLatin1" 9 2 y_jS_checkIndex := ⟨cd_jS_checkIndex, in_jS, Or.inl (tb_3 25 rfl rfl), st_jS_checkIndex, mh_jS_checkIndex, by decide⟩
def y_jP_checkIndex : MethodName × ByteArray × Nat × Option FieldType × List (Nat × Nat × Nat × Nat) := (⟨"jdk/internal/util/Preconditions", "checkIndex", "(IILjava/util/function/BiFunction;)I"⟩, prog_26_method_11_code, 3, (Option.some Jvm.ClassFile.FieldType.int), [])
theorem d_jP_checkIndex_0 : decode y_jP_checkIndex.2.1 0 = .ok (.iload_n 0, 1) := by decide +kernel
theorem d_jP_checkIndex_1 : decode y_jP_checkIndex.2.1 1 = .ok (.ifCond .lt 8, 3) := by decide +kernel
theorem d_jP_checkIndex_4 : decode y_jP_checkIndex.2.1 4 = .ok (.iload_n 0, 1) := by decide +kernel
theorem d_jP_checkIndex_5 : decode y_jP_checkIndex.2.1 5 = .ok (.iload_n 1, 1) := by decide +kernel
theorem d_jP_checkIndex_6 : decode y_jP_checkIndex.2.1 6 = .ok (.if_icmp .lt 10, 3) := by decide +kernel
theorem d_jP_checkIndex_9 : decode y_jP_checkIndex.2.1 9 = .ok (.aload_n 2, 1) := by decide +kernel
theorem d_jP_checkIndex_10 : decode y_jP_checkIndex.2.1 10 = .ok (.iload_n 0, 1) := by decide +kernel
theorem d_jP_checkIndex_11 : decode y_jP_checkIndex.2.1 11 = .ok (.iload_n 1, 1) := by decide +kernel
theorem d_jP_checkIndex_12 : decode y_jP_checkIndex.2.1 12 = .ok (.invokestatic 95, 3) := by decide +kernel
theorem d_jP_checkIndex_15 : decode y_jP_checkIndex.2.1 15 = .ok (.athrow, 1) := by decide +kernel
theorem d_jP_checkIndex_16 : decode y_jP_checkIndex.2.1 16 = .ok (.iload_n 0, 1) := by decide +kernel
theorem d_jP_checkIndex_17 : decode y_jP_checkIndex.2.1 17 = .ok (.ireturn, 1) := by decide +kernel
theorem cd_jP_checkIndex : cdY y_jP_checkIndex ∈ TB := tb_3 32 rfl rfl
theorem mh_jP_checkIndex : mhOK y_jP_checkIndex.1 3 := ⟨⟨by decide, by decide⟩, by decide +kernel⟩
theorem pf_jP_checkIndex : plainFor y_jP_checkIndex.1 = true := by decide +kernel
theorem st_jP_checkIndex : Cond.static y_jP_checkIndex.1 ∈ TB := tb_3 31 rfl rfl
theorem cs_jS_1059 : CSok "java/lang/String" 1059 3 y_jP_checkIndex := ⟨cd_jP_checkIndex, in_jP, Or.inl (tb_3 30 rfl rfl), st_jP_checkIndex, mh_jP_checkIndex, by decide⟩
variable {G : aG} {pg : Nat} {μ : aM}
set_option maxRecDepth 100000 in
theorem m_jP_checkIndex {d : Nat} (hd : 0 ≤ d) {a b : Int} {o : Option Nat} (ha : inR a) (hb : inR b) (h0 : 0 ≤ a) (h1 : a < b) : AM G false d 0 0 y_jP_checkIndex [aI a, aI b, aR o] 94 μ (Qe (some (aI a)) 94 μ) := by
  refine am_of (n := 0) pf_jP_checkIndex (Nat.le_of_ble_eq_true rfl) (by intro v hv; simp only [List.mem_cons, List.not_mem_nil, or_false] at hv; rcases hv with rfl | rfl | rfl <;> first | trivial | assumption | exact in_c rfl | exact bI_in _ | (show inR _; unfold inR; omega)) rfl ?_
  refine aw_iload_n d_jP_checkIndex_0 rfl rfl ?_
  refine aw_if_lt (tgt := 9) d_jP_checkIndex_1 rfl (fun h1 => absurd h1 (by omega)) (fun h1 => ?_)
  refine aw_iload_n d_jP_checkIndex_4 rfl rfl ?_
  refine aw_iload_n d_jP_checkIndex_5 rfl rfl ?_
  refine aw_icmp_lt (tgt := 16) d_jP_checkIndex_6 rfl (fun h6 => ?_) (fun h6 => absurd (by omega) h6)
  refine aw_iload_n d_jP_checkIndex_16 rfl rfl ?_
  exact aw_iret d_jP_checkIndex_17 rfl ⟨rfl, rfl, rfl⟩
set_option maxRecDepth 100000 in
theorem m_jS_checkIndex {d : Nat} (hd : 1 ≤ d) {a b : Int} (ha : inR a) (hb : inR b) (h0 : 0 ≤ a) (h1 : a < b) : AM G false d 0 0 y_jS_checkIndex [aI a, aI b] 94 μ (Qe none 94 μ) := by
  refine am_of (n := 0) pf_jS_checkIndex (Nat.le_of_ble_eq_true rfl) (by intro v hv; simp only [List.mem_cons, List.not_mem_nil, or_false] at hv; rcases hv with rfl | rfl <;> first | trivial | assumption | exact in_c rfl | exact bI_in _ | (show inR _; unfold inR; omega)) rfl ?_
  refine aw_iload_n d_jS_checkIndex_0 rfl rfl ?_
  refine aw_iload_n d_jS_checkIndex_1 rfl rfl ?_
  refine aw_gsF rfl d_jS_checkIndex_2 (fun o => ?_)
  refine aw_se (as := [_, _, _]) rfl cs_jS_1059 d_jS_checkIndex_5 (Nat.le_of_ble_eq_true rfl) (d' := d - 1) (by omega) (m_jP_checkIndex (by omega) ha hb h0 h1) ?_
  refine aw_pop d_jS_checkIndex_8 rfl ?_
  exact aw_vret d_jS_checkIndex_9 rfl ⟨rfl, rfl, rfl⟩
set_option maxRecDepth 100000 in
theorem m_jT_charAt {d : Nat} (hd : 2 ≤ d) {k j : Nat} (hk : k = 2 ∨ k = 4) (hj : j < 4)  : AM G false d 0 0 y_jT_charAt [aP (1000 + (k + 1)), aI (j : Int)] 94 μ (Qe (some (aI (scV j))) 94 μ) := by
  refine am_of (n := 0) pf_jT_charAt (Nat.le_of_ble_eq_true rfl) (by intro v hv; simp only [List.mem_cons, List.not_mem_nil, or_false] at hv; rcases hv with rfl | rfl <;> first | trivial | assumption | exact in_c rfl | exact bI_in _ | (show inR _; unfold inR; omega)) rfl ?_
  refine aw_iload_n d_jT_charAt_0 rfl rfl ?_
  refine aw_aload_n d_jT_charAt_1 rfl rfl ?_
  refine aw_olen hk d_jT_charAt_2 ?_
  refine aw_se (as := [_, _]) rfl cs_jT_9 d_jT_charAt_3 (Nat.le_of_ble_eq_true rfl) (d' := d - 1) (by omega) (m_jS_checkIndex (by omega) (by unfold inR; omega) (in_c rfl) (by omega) (by omega)) ?_
  refine aw_aload_n d_jT_charAt_6 rfl rfl ?_
  refine aw_iload_n d_jT_charAt_7 rfl rfl ?_
  have hv := scV_in j hj
  obtain ⟨w, hw⟩ : ∃ w : Nat, scV j = (w : Int) := ⟨(scV j).toNat, by omega⟩
  refine aw_obl hk rfl hj d_jT_charAt_8 ?_
  refine aw_sipush (z := 255) d_jT_charAt_9 (in_c rfl) rfl ?_
  refine aw_iand (a := w) (b := 255) hw rfl d_jT_charAt_12 ?_
  refine aw_i2c d_jT_charAt_13 ?_
  refine aw_tv (v' := scV j) (by rw [show w &&& 255 = w % 256 from Nat.and_two_pow_sub_one_eq_mod w 8]; omega) ?_
  exact aw_zret d_jT_charAt_14 rfl (nr_c (by omega)) ⟨rfl, rfl, rfl⟩
set_option maxRecDepth 100000 in
theorem m_jS_isLatin1 {d : Nat} (hd : 0 ≤ d) {k : Nat} (hk : k = 2 ∨ k = 4) : AM G false d 0 0 y_jS_isLatin1 [aP (1000 + k)] 94 μ (Qe (some (aI 1)) 94 μ) := by
  refine am_of (n := 0) pf_jS_isLatin1 (Nat.le_of_ble_eq_true rfl) (by intro v hv; simp only [List.mem_cons, List.not_mem_nil, or_false] at hv; rcases hv with rfl <;> first | trivial | assumption | exact in_c rfl | exact bI_in _ | (show inR _; unfold inR; omega)) rfl ?_
  refine aw_gsC rfl d_jS_isLatin1_0 ?_
  refine aw_if_eq (tgt := 17) d_jS_isLatin1_3 rfl (fun h3 => absurd h3 (by decide)) (fun h3 => ?_)
  refine aw_aload_n d_jS_isLatin1_6 rfl rfl ?_
  refine aw_ofC hk rfl d_jS_isLatin1_7 ?_
  refine aw_if_ne (tgt := 17) d_jS_isLatin1_10 rfl (fun h10 => absurd h10 (fun z => z rfl)) (fun h10 => ?_)
  refine aw_iconst d_jS_isLatin1_13 (in_c rfl) ?_
  refine aw_goto (tgt := 18) d_jS_isLatin1_14 rfl ?_
  exact aw_zret d_jS_isLatin1_18 rfl rfl ⟨rfl, rfl, rfl⟩
set_option maxRecDepth 100000 in
theorem m_jS_charAt {d : Nat} (hd : 3 ≤ d) {k j : Nat} (hk : k = 2 ∨ k = 4) (hj : j < 4)  : AM G false d 0 0 y_jS_charAt [aP (1000 + k), aI (j : Int)] 94 μ (Qe (some (aI (scV j))) 94 μ) := by
  refine am_of (n := 0) pf_jS_charAt (Nat.le_of_ble_eq_true rfl) (by intro v hv; simp only [List.mem_cons, List.not_mem_nil, or_false] at hv; rcases hv with rfl | rfl <;> first | trivial | assumption | exact in_c rfl | exact bI_in _ | (show inR _; unfold inR; omega)) rfl ?_
  refine aw_aload_n d_jS_charAt_0 rfl rfl ?_
  refine aw_vo (as := []) rfl hk rfl cv_jS_492 d_jS_charAt_1 (Nat.le_of_ble_eq_true rfl) (d' := d - 1) (by omega) (m_jS_isLatin1 (by omega) hk) ?_
  refine aw_if_eq (tgt := 16) d_jS_charAt_4 rfl (fun h4 => absurd h4 (by decide)) (fun h4 => ?_)
  refine aw_aload_n d_jS_charAt_7 rfl rfl ?_
  refine aw_ofV hk rfl d_jS_charAt_8 ?_
  refine aw_iload_n d_jS_charAt_11 rfl rfl ?_
  refine aw_se (as := [_, _]) rfl cs_jS_495 d_jS_charAt_12 (Nat.le_of_ble_eq_true rfl) (d' := d - 1) (by omega) (m_jT_charAt (by omega) hk hj) ?_
  exact aw_zret d_jS_charAt_15 rfl (nr_c (by have := scV_in j hj; omega)) ⟨rfl, rfl, rfl⟩
end
