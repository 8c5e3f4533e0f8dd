/-! the machine of the reference, in memory -/
section
theorem bI_inj {a b : Bool} : bI a = bI b ↔ a = b := by cases a <;> cases b <;> simp [bI]
theorem bI_ne {a b : Bool} (h : ¬ bI a = bI b) : (a != b) = true := by cases a <;> cases b <;> first | rfl | exact absurd rfl h
theorem bI_eq {a b : Bool} (h : bI a = bI b) : (a != b) = false := by rw [bI_inj.mp h]; cases b <;> rfl
def gS0 : gS := gOpen true (0, 0, fun _ => false, fun _ => false, fun _ => false, fun _ => false, fun _ => false)
variable {G : aG} {pg : Nat} {μ : aM}
set_option maxRecDepth 100000 in
theorem m_Mo_open {d : Nat} (hd : 0 ≤ d) (hR : ∀ k j, mR μ k j = R0 pg k j) {k : Nat} {v : Bool} (hk : mI μ 67 26 = (k : Int)) (hk8 : k < 8) : AM G false d 0 0 y_Mo_open [aP 67, aI (bI v)] 94 μ (Qe none 94 (opM μ k v)) := by
  refine am_of (n := 0) pf_Mo_open (Nat.le_of_ble_eq_true rfl) (by intro v hv; simp only [List.mem_cons, List.not_mem_nil, or_false] at hv; rcases hv with rfl | rfl <;> first | trivial | assumption | exact in_c rfl | exact bI_in _ | (show inR _; unfold inR; omega)) rfl ?_
  refine aw_aload_n d_Mo_open_0 rfl rfl ?_
  refine aw_getR fd_Mo_or lk_Mo_59 (by omega) rfl d_Mo_open_1 (hR _ _) ?_
  refine aw_aload_n d_Mo_open_4 rfl rfl ?_
  refine aw_getI fd_Mo_deep lk_Mo_110 (by omega) rfl d_Mo_open_5 ?_
  refine aw_tv (v' := (k : Int)) hk ?_
  refine aw_iconst d_Mo_open_8 (in_c rfl) ?_
  refine aw_zast (n := k) (by omega) rfl rfl (by omega) (by omega) d_Mo_open_9 ?_
  refine aw_aload_n d_Mo_open_10 rfl rfl ?_
  refine aw_getR fd_Mo_xor lk_Mo_62 (by omega) rfl d_Mo_open_11 (hR _ _) ?_
  refine aw_aload_n d_Mo_open_14 rfl rfl ?_
  refine aw_getI fd_Mo_deep lk_Mo_110 (by omega) rfl d_Mo_open_15 ?_
  refine aw_tv (v' := (k : Int)) hk ?_
  refine aw_iconst d_Mo_open_18 (in_c rfl) ?_
  refine aw_pc (pc' := 19) rfl ?_
  refine aw_zast (n := k) (by omega) rfl rfl (by omega) (by omega) d_Mo_open_19 ?_
  refine aw_aload_n d_Mo_open_20 rfl rfl ?_
  refine aw_getR fd_Mo_and lk_Mo_65 (by omega) rfl d_Mo_open_21 (hR _ _) ?_
  refine aw_aload_n d_Mo_open_24 rfl rfl ?_
  refine aw_getI fd_Mo_deep lk_Mo_110 (by omega) rfl d_Mo_open_25 ?_
  refine aw_tv (v' := (k : Int)) hk ?_
  refine aw_iconst d_Mo_open_28 (in_c rfl) ?_
  refine aw_zast (n := k) (by omega) rfl rfl (by omega) (by omega) d_Mo_open_29 ?_
  refine aw_aload_n d_Mo_open_30 rfl rfl ?_
  refine aw_getR fd_Mo_not lk_Mo_68 (by omega) rfl d_Mo_open_31 (hR _ _) ?_
  refine aw_aload_n d_Mo_open_34 rfl rfl ?_
  refine aw_getI fd_Mo_deep lk_Mo_110 (by omega) rfl d_Mo_open_35 ?_
  refine aw_tv (v' := (k : Int)) hk ?_
  refine aw_iconst d_Mo_open_38 (in_c rfl) ?_
  refine aw_pc (pc' := 39) rfl ?_
  refine aw_zast (n := k) (by omega) rfl rfl (by omega) (by omega) d_Mo_open_39 ?_
  refine aw_aload_n d_Mo_open_40 rfl rfl ?_
  refine aw_getR fd_Mo_live lk_Mo_71 (by omega) rfl d_Mo_open_41 (hR _ _) ?_
  refine aw_aload_n d_Mo_open_44 rfl rfl ?_
  refine aw_getI fd_Mo_deep lk_Mo_110 (by omega) rfl d_Mo_open_45 ?_
  refine aw_tv (v' := (k : Int)) hk ?_
  refine aw_iload_n d_Mo_open_48 rfl rfl ?_
  refine aw_zast (n := k) (by omega) rfl rfl (by omega) (bI_01 _) d_Mo_open_49 ?_
  refine aw_aload_n d_Mo_open_50 rfl rfl ?_
  refine aw_dup d_Mo_open_51 rfl ?_
  refine aw_getI fd_Mo_deep lk_Mo_110 (by omega) rfl d_Mo_open_52 ?_
  refine aw_tv (v' := (k : Int)) hk ?_
  refine aw_iconst d_Mo_open_55 (in_c rfl) ?_
  refine aw_iadd d_Mo_open_56 (by unfold inR; omega) ?_
  refine aw_pc (pc' := 57) rfl ?_
  refine aw_putI fd_Mo_deep lk_Mo_110 (by omega) rfl d_Mo_open_57 (Or.inl rfl) ?_
  exact aw_vret d_Mo_open_60 rfl ⟨rfl, rfl, rfl⟩
set_option maxRecDepth 100000 in
theorem m_Mo_isNext {d : Nat} (hd : 0 ≤ d) (hR : ∀ k j, mR μ k j = R0 pg k j) {k : Nat} (hk : mI μ 67 26 = ((k + 1 : Nat) : Int)) (hk8 : k < 8) {i : Nat} (h4 : i < 4) {l a o sh : Bool} (hl : mI μ 88 k = bI l) (ha : mI μ 86 k = bI a) (ho : mI μ 84 k = bI o) (hs : mI μ 77 i = bI sh) : AM G false d 0 0 y_Mo_isNext [aP 67, aI (i : Int)] 94 μ (Qe (some (aI (bI (l && (!sh || (a && !o)))))) 94 μ) := by
  refine am_of (n := 1) pf_Mo_isNext (Nat.le_of_ble_eq_true rfl) (by intro v hv; simp only [List.mem_cons, List.not_mem_nil, or_false] at hv; rcases hv with rfl | rfl <;> first | trivial | assumption | exact in_c rfl | exact bI_in _ | (show inR _; unfold inR; omega)) rfl ?_
  refine aw_aload_n d_Mo_isNext_0 rfl rfl ?_
  refine aw_getI fd_Mo_deep lk_Mo_110 (by omega) rfl d_Mo_isNext_1 ?_
  refine aw_tv (v' := ((k + 1 : Nat) : Int)) hk ?_
  refine aw_iconst d_Mo_isNext_4 (in_c rfl) ?_
  refine aw_isub d_Mo_isNext_5 (by unfold inR; omega) ?_
  refine aw_tv (v' := (k : Int)) (by omega) ?_
  refine aw_istore_n (lst' := [_, _, _]) d_Mo_isNext_6 rfl (Nat.le_of_ble_eq_true rfl) rfl ?_
  refine aw_aload_n d_Mo_isNext_7 rfl rfl ?_
  refine aw_getR fd_Mo_live lk_Mo_71 (by omega) rfl d_Mo_isNext_8 (hR _ _) ?_
  refine aw_iload_n d_Mo_isNext_11 rfl rfl ?_
  refine aw_zald (n := k) (by omega) rfl rfl (by omega) d_Mo_isNext_12 ?_
  refine aw_tv (v' := bI l) hl ?_
  refine aw_if_eq (tgt := 47) d_Mo_isNext_13 rfl (fun h13 => ?_) (fun h13 => ?_)
  · replace h13 := bz h13
    refine aw_iconst d_Mo_isNext_47 (in_c rfl) ?_
    exact aw_zret d_Mo_isNext_48 rfl rfl ⟨by rw [h13]; rfl, rfl, rfl⟩
  · replace h13 := bn h13
    refine aw_aload_n d_Mo_isNext_16 rfl rfl ?_
    refine aw_getR fd_Mo_isShort lk_Mo_37 (by omega) rfl d_Mo_isNext_17 (hR _ _) ?_
    refine aw_iload_n d_Mo_isNext_20 rfl rfl ?_
    refine aw_zald (n := i) (by omega) rfl rfl (by omega) d_Mo_isNext_21 ?_
    refine aw_tv (v' := bI sh) hs ?_
    refine aw_if_eq (tgt := 43) d_Mo_isNext_22 rfl (fun h22 => ?_) (fun h22 => ?_)
    · replace h22 := bz h22
      refine aw_iconst d_Mo_isNext_43 (in_c rfl) ?_
      refine aw_goto (tgt := 48) d_Mo_isNext_44 rfl ?_
      exact aw_zret d_Mo_isNext_48 rfl rfl ⟨by rw [h13, h22]; rfl, rfl, rfl⟩
    · replace h22 := bn h22
      refine aw_aload_n d_Mo_isNext_25 rfl rfl ?_
      refine aw_getR fd_Mo_and lk_Mo_65 (by omega) rfl d_Mo_isNext_26 (hR _ _) ?_
      refine aw_iload_n d_Mo_isNext_29 rfl rfl ?_
      refine aw_zald (n := k) (by omega) rfl rfl (by omega) d_Mo_isNext_30 ?_
      refine aw_tv (v' := bI a) ha ?_
      refine aw_if_eq (tgt := 47) d_Mo_isNext_31 rfl (fun h31 => ?_) (fun h31 => ?_)
      · replace h31 := bz h31
        refine aw_iconst d_Mo_isNext_47 (in_c rfl) ?_
        exact aw_zret d_Mo_isNext_48 rfl rfl ⟨by rw [h13, h22, h31]; rfl, rfl, rfl⟩
      · replace h31 := bn h31
        refine aw_aload_n d_Mo_isNext_34 rfl rfl ?_
        refine aw_getR fd_Mo_or lk_Mo_59 (by omega) rfl d_Mo_isNext_35 (hR _ _) ?_
        refine aw_iload_n d_Mo_isNext_38 rfl rfl ?_
        refine aw_zald (n := k) (by omega) rfl rfl (by omega) d_Mo_isNext_39 ?_
        refine aw_tv (v' := bI o) ho ?_
        refine aw_if_ne (tgt := 47) d_Mo_isNext_40 rfl (fun h40 => ?_) (fun h40 => ?_)
        · replace h40 := bn h40
          refine aw_iconst d_Mo_isNext_47 (in_c rfl) ?_
          exact aw_zret d_Mo_isNext_48 rfl rfl ⟨by rw [h13, h22, h31, h40]; rfl, rfl, rfl⟩
        · replace h40 := bz h40
          refine aw_iconst d_Mo_isNext_43 (in_c rfl) ?_
          refine aw_goto (tgt := 48) d_Mo_isNext_44 rfl ?_
          exact aw_zret d_Mo_isNext_48 rfl rfl ⟨by rw [h13, h22, h31, h40]; rfl, rfl, rfl⟩
set_option maxRecDepth 100000 in
theorem m_Mo_join {d : Nat} (hd : 0 ≤ d) (hR : ∀ k j, mR μ k j = R0 pg k j) {k : Nat} (hk : mI μ 67 26 = ((k + 1 : Nat) : Int)) (hk8 : k < 8) {v a t : Bool} (ha : mI μ 86 k = bI a) (hn : mI μ 87 k = bI t) : AM G false d 0 0 y_Mo_join [aP 67, aI (bI v)] 94 μ (Qe none 94 (joM μ k (a && (v != t)))) := by
  refine am_of (n := 1) pf_Mo_join (Nat.le_of_ble_eq_true rfl) (by intro v hv; simp only [List.mem_cons, List.not_mem_nil, or_false] at hv; rcases hv with rfl | rfl <;> first | trivial | assumption | exact in_c rfl | exact bI_in _ | (show inR _; unfold inR; omega)) rfl ?_
  refine aw_aload_n d_Mo_join_0 rfl rfl ?_
  refine aw_getI fd_Mo_deep lk_Mo_110 (by omega) rfl d_Mo_join_1 ?_
  refine aw_tv (v' := ((k + 1 : Nat) : Int)) hk ?_
  refine aw_iconst d_Mo_join_4 (in_c rfl) ?_
  refine aw_isub d_Mo_join_5 (by unfold inR; omega) ?_
  refine aw_tv (v' := (k : Int)) (by omega) ?_
  refine aw_istore_n (lst' := [_, _, _]) d_Mo_join_6 rfl (Nat.le_of_ble_eq_true rfl) rfl ?_
  refine aw_aload_n d_Mo_join_7 rfl rfl ?_
  refine aw_getR fd_Mo_and lk_Mo_65 (by omega) rfl d_Mo_join_8 (hR _ _) ?_
  refine aw_iload_n d_Mo_join_11 rfl rfl ?_
  refine aw_aload_n d_Mo_join_12 rfl rfl ?_
  refine aw_getR fd_Mo_and lk_Mo_65 (by omega) rfl d_Mo_join_13 (hR _ _) ?_
  refine aw_iload_n d_Mo_join_16 rfl rfl ?_
  refine aw_pc (pc' := 17) rfl ?_
  refine aw_zald (n := k) (by omega) rfl rfl (by omega) d_Mo_join_17 ?_
  refine aw_tv (v' := bI a) ha ?_
  refine aw_if_eq (tgt := 35) d_Mo_join_18 rfl (fun h18 => ?_) (fun h18 => ?_)
  · replace h18 := bz h18
    refine aw_iconst d_Mo_join_35 (in_c rfl) ?_
    refine aw_tv (v' := bI (a && (v != t))) (by rw [h18]; rfl) ?_
    refine aw_zast (n := k) (by omega) rfl rfl (by omega) (bI_01 _) d_Mo_join_36 ?_
    refine aw_aload_n d_Mo_join_37 rfl rfl ?_
    refine aw_getR fd_Mo_not lk_Mo_68 (by omega) rfl d_Mo_join_38 (hR _ _) ?_
    refine aw_iload_n d_Mo_join_41 rfl rfl ?_
    refine aw_iconst d_Mo_join_42 (in_c rfl) ?_
    refine aw_zast (n := k) (by omega) rfl rfl (by omega) (by omega) d_Mo_join_43 ?_
    exact aw_vret d_Mo_join_44 rfl ⟨rfl, rfl, rfl⟩
  · replace h18 := bn h18
    refine aw_iload_n d_Mo_join_21 rfl rfl ?_
    refine aw_aload_n d_Mo_join_22 rfl rfl ?_
    refine aw_getR fd_Mo_not lk_Mo_68 (by omega) rfl d_Mo_join_23 (hR _ _) ?_
    refine aw_iload_n d_Mo_join_26 rfl rfl ?_
    refine aw_zald (n := k) (by omega) rfl rfl (by omega) d_Mo_join_27 ?_
    refine aw_tv (v' := bI t) hn ?_
    refine aw_icmp_eq (tgt := 35) d_Mo_join_28 rfl (fun h28 => ?_) (fun h28 => ?_)
    · refine aw_iconst d_Mo_join_35 (in_c rfl) ?_
      refine aw_tv (v' := bI (a && (v != t))) (by rw [h18, bI_eq h28]; rfl) ?_
      refine aw_zast (n := k) (by omega) rfl rfl (by omega) (bI_01 _) d_Mo_join_36 ?_
      refine aw_aload_n d_Mo_join_37 rfl rfl ?_
      refine aw_getR fd_Mo_not lk_Mo_68 (by omega) rfl d_Mo_join_38 (hR _ _) ?_
      refine aw_iload_n d_Mo_join_41 rfl rfl ?_
      refine aw_iconst d_Mo_join_42 (in_c rfl) ?_
      refine aw_zast (n := k) (by omega) rfl rfl (by omega) (by omega) d_Mo_join_43 ?_
      exact aw_vret d_Mo_join_44 rfl ⟨rfl, rfl, rfl⟩
    · refine aw_iconst d_Mo_join_31 (in_c rfl) ?_
      refine aw_tv (v' := bI (a && (v != t))) (by rw [h18, bI_ne h28]; rfl) ?_
      refine aw_goto (tgt := 36) d_Mo_join_32 rfl ?_
      refine aw_zast (n := k) (by omega) rfl rfl (by omega) (bI_01 _) d_Mo_join_36 ?_
      refine aw_aload_n d_Mo_join_37 rfl rfl ?_
      refine aw_getR fd_Mo_not lk_Mo_68 (by omega) rfl d_Mo_join_38 (hR _ _) ?_
      refine aw_iload_n d_Mo_join_41 rfl rfl ?_
      refine aw_iconst d_Mo_join_42 (in_c rfl) ?_
      refine aw_zast (n := k) (by omega) rfl rfl (by omega) (by omega) d_Mo_join_43 ?_
      exact aw_vret d_Mo_join_44 rfl ⟨rfl, rfl, rfl⟩
set_option maxRecDepth 100000 in
theorem m_Mo_endAnd {d : Nat} (hd : 0 ≤ d) (hR : ∀ k j, mR μ k j = R0 pg k j) {k : Nat} (hk : mI μ 67 26 = ((k + 1 : Nat) : Int)) (hk8 : k < 8) {x a : Bool} (hx : mI μ 85 k = bI x) (ha : mI μ 86 k = bI a) : AM G false d 0 0 y_Mo_endAnd [aP 67] 94 μ (Qe none 94 (eaM μ k (x != a))) := by
  refine am_of (n := 1) pf_Mo_endAnd (Nat.le_of_ble_eq_true rfl) (by intro v hv; simp only [List.mem_cons, List.not_mem_nil, or_false] at hv; rcases hv with rfl <;> first | trivial | assumption | exact in_c rfl | exact bI_in _ | (show inR _; unfold inR; omega)) rfl ?_
  refine aw_aload_n d_Mo_endAnd_0 rfl rfl ?_
  refine aw_getI fd_Mo_deep lk_Mo_110 (by omega) rfl d_Mo_endAnd_1 ?_
  refine aw_tv (v' := ((k + 1 : Nat) : Int)) hk ?_
  refine aw_iconst d_Mo_endAnd_4 (in_c rfl) ?_
  refine aw_isub d_Mo_endAnd_5 (by unfold inR; omega) ?_
  refine aw_tv (v' := (k : Int)) (by omega) ?_
  refine aw_istore_n (lst' := [_, _]) d_Mo_endAnd_6 rfl (Nat.le_of_ble_eq_true rfl) rfl ?_
  refine aw_aload_n d_Mo_endAnd_7 rfl rfl ?_
  refine aw_getR fd_Mo_xor lk_Mo_62 (by omega) rfl d_Mo_endAnd_8 (hR _ _) ?_
  refine aw_iload_n d_Mo_endAnd_11 rfl rfl ?_
  refine aw_aload_n d_Mo_endAnd_12 rfl rfl ?_
  refine aw_getR fd_Mo_xor lk_Mo_62 (by omega) rfl d_Mo_endAnd_13 (hR _ _) ?_
  refine aw_iload_n d_Mo_endAnd_16 rfl rfl ?_
  refine aw_pc (pc' := 17) rfl ?_
  refine aw_zald (n := k) (by omega) rfl rfl (by omega) d_Mo_endAnd_17 ?_
  refine aw_tv (v' := bI x) hx ?_
  refine aw_aload_n d_Mo_endAnd_18 rfl rfl ?_
  refine aw_getR fd_Mo_and lk_Mo_65 (by omega) rfl d_Mo_endAnd_19 (hR _ _) ?_
  refine aw_iload_n d_Mo_endAnd_22 rfl rfl ?_
  refine aw_zald (n := k) (by omega) rfl rfl (by omega) d_Mo_endAnd_23 ?_
  refine aw_tv (v' := bI a) ha ?_
  refine aw_icmp_eq (tgt := 31) d_Mo_endAnd_24 rfl (fun h24 => ?_) (fun h24 => ?_)
  · refine aw_iconst d_Mo_endAnd_31 (in_c rfl) ?_
    refine aw_tv (v' := bI (x != a)) (by rw [bI_eq h24]; rfl) ?_
    refine aw_zast (n := k) (by omega) rfl rfl (by omega) (bI_01 _) d_Mo_endAnd_32 ?_
    refine aw_aload_n d_Mo_endAnd_33 rfl rfl ?_
    refine aw_getR fd_Mo_and lk_Mo_65 (by omega) rfl d_Mo_endAnd_34 (hR _ _) ?_
    refine aw_iload_n d_Mo_endAnd_37 rfl rfl ?_
    refine aw_iconst d_Mo_endAnd_38 (in_c rfl) ?_
    refine aw_zast (n := k) (by omega) rfl rfl (by omega) (by omega) d_Mo_endAnd_39 ?_
    exact aw_vret d_Mo_endAnd_40 rfl ⟨rfl, rfl, rfl⟩
  · refine aw_iconst d_Mo_endAnd_27 (in_c rfl) ?_
    refine aw_tv (v' := bI (x != a)) (by rw [bI_ne h24]; rfl) ?_
    refine aw_goto (tgt := 32) d_Mo_endAnd_28 rfl ?_
    refine aw_zast (n := k) (by omega) rfl rfl (by omega) (bI_01 _) d_Mo_endAnd_32 ?_
    refine aw_aload_n d_Mo_endAnd_33 rfl rfl ?_
    refine aw_getR fd_Mo_and lk_Mo_65 (by omega) rfl d_Mo_endAnd_34 (hR _ _) ?_
    refine aw_iload_n d_Mo_endAnd_37 rfl rfl ?_
    refine aw_iconst d_Mo_endAnd_38 (in_c rfl) ?_
    refine aw_zast (n := k) (by omega) rfl rfl (by omega) (by omega) d_Mo_endAnd_39 ?_
    exact aw_vret d_Mo_endAnd_40 rfl ⟨rfl, rfl, rfl⟩
set_option maxRecDepth 100000 in
theorem m_Mo_endXor {d : Nat} (hd : 1 ≤ d) (hR : ∀ k j, mR μ k j = R0 pg k j) {k : Nat} (hk : mI μ 67 26 = ((k + 1 : Nat) : Int)) (hk8 : k < 8) {o x a : Bool} (ho : mI μ 84 k = bI o) (hx : mI μ 85 k = bI x) (ha : mI μ 86 k = bI a) : AM G false d 0 0 y_Mo_endXor [aP 67] 94 μ (Qe none 94 (exM (eaM μ k (x != a)) k (o || (x != a)))) := by
  refine am_of (n := 1) pf_Mo_endXor (Nat.le_of_ble_eq_true rfl) (by intro v hv; simp only [List.mem_cons, List.not_mem_nil, or_false] at hv; rcases hv with rfl <;> first | trivial | assumption | exact in_c rfl | exact bI_in _ | (show inR _; unfold inR; omega)) rfl ?_
  refine aw_aload_n d_Mo_endXor_0 rfl rfl ?_
  refine aw_ve (as := []) rfl cv_Mo_113 (by omega) rfl rfl d_Mo_endXor_1 (Nat.le_of_ble_eq_true rfl) (d' := d - 1) (by omega) (m_Mo_endAnd (by omega) hR hk hk8 hx ha) ?_
  refine aw_aload_n d_Mo_endXor_4 rfl rfl ?_
  refine aw_getI fd_Mo_deep lk_Mo_110 (by omega) rfl d_Mo_endXor_5 ?_
  refine aw_tv (v' := ((k + 1 : Nat) : Int)) hk ?_
  refine aw_iconst d_Mo_endXor_8 (in_c rfl) ?_
  refine aw_isub d_Mo_endXor_9 (by unfold inR; omega) ?_
  refine aw_tv (v' := (k : Int)) (by omega) ?_
  refine aw_istore_n (lst' := [_, _]) d_Mo_endXor_10 rfl (Nat.le_of_ble_eq_true rfl) rfl ?_
  refine aw_aload_n d_Mo_endXor_11 rfl rfl ?_
  refine aw_getR fd_Mo_or lk_Mo_59 (by omega) rfl d_Mo_endXor_12 (hR _ _) ?_
  refine aw_iload_n d_Mo_endXor_15 rfl rfl ?_
  refine aw_aload_n d_Mo_endXor_16 rfl rfl ?_
  refine aw_pc (pc' := 17) rfl ?_
  refine aw_getR fd_Mo_or lk_Mo_59 (by omega) rfl d_Mo_endXor_17 (hR _ _) ?_
  refine aw_iload_n d_Mo_endXor_20 rfl rfl ?_
  refine aw_zald (n := k) (by omega) rfl rfl (by omega) d_Mo_endXor_21 ?_
  refine aw_tv (v' := bI o) ho ?_
  refine aw_if_ne (tgt := 34) d_Mo_endXor_22 rfl (fun h22 => ?_) (fun h22 => ?_)
  · replace h22 := bn h22
    refine aw_iconst d_Mo_endXor_34 (in_c rfl) ?_
    refine aw_tv (v' := bI (o || (x != a))) (by rw [h22]; rfl) ?_
    refine aw_goto (tgt := 39) d_Mo_endXor_35 rfl ?_
    refine aw_zast (n := k) (by omega) rfl rfl (by omega) (bI_01 _) d_Mo_endXor_39 ?_
    refine aw_aload_n d_Mo_endXor_40 rfl rfl ?_
    refine aw_getR fd_Mo_xor lk_Mo_62 (by omega) rfl d_Mo_endXor_41 (hR _ _) ?_
    refine aw_iload_n d_Mo_endXor_44 rfl rfl ?_
    refine aw_iconst d_Mo_endXor_45 (in_c rfl) ?_
    refine aw_zast (n := k) (by omega) rfl rfl (by omega) (by omega) d_Mo_endXor_46 ?_
    exact aw_vret d_Mo_endXor_47 rfl ⟨rfl, rfl, rfl⟩
  · replace h22 := bz h22
    refine aw_aload_n d_Mo_endXor_25 rfl rfl ?_
    refine aw_getR fd_Mo_xor lk_Mo_62 (by omega) rfl d_Mo_endXor_26 (hR _ _) ?_
    refine aw_iload_n d_Mo_endXor_29 rfl rfl ?_
    refine aw_zald (n := k) (by omega) rfl rfl (by omega) d_Mo_endXor_30 ?_
    refine aw_tv (v' := bI (x != a)) (by rw [eaM, mI_wI, if_neg (by omega), mI_wI, if_pos ⟨rfl, rfl⟩]) ?_
    refine aw_if_eq (tgt := 38) d_Mo_endXor_31 rfl (fun h31 => ?_) (fun h31 => ?_)
    · replace h31 := bz h31
      refine aw_iconst d_Mo_endXor_38 (in_c rfl) ?_
      refine aw_tv (v' := bI (o || (x != a))) (by rw [h22, h31]; rfl) ?_
      refine aw_zast (n := k) (by omega) rfl rfl (by omega) (bI_01 _) d_Mo_endXor_39 ?_
      refine aw_aload_n d_Mo_endXor_40 rfl rfl ?_
      refine aw_getR fd_Mo_xor lk_Mo_62 (by omega) rfl d_Mo_endXor_41 (hR _ _) ?_
      refine aw_iload_n d_Mo_endXor_44 rfl rfl ?_
      refine aw_iconst d_Mo_endXor_45 (in_c rfl) ?_
      refine aw_zast (n := k) (by omega) rfl rfl (by omega) (by omega) d_Mo_endXor_46 ?_
      exact aw_vret d_Mo_endXor_47 rfl ⟨rfl, rfl, rfl⟩
    · replace h31 := bn h31
      refine aw_iconst d_Mo_endXor_34 (in_c rfl) ?_
      refine aw_tv (v' := bI (o || (x != a))) (by rw [h22, h31]; rfl) ?_
      refine aw_goto (tgt := 39) d_Mo_endXor_35 rfl ?_
      refine aw_zast (n := k) (by omega) rfl rfl (by omega) (bI_01 _) d_Mo_endXor_39 ?_
      refine aw_aload_n d_Mo_endXor_40 rfl rfl ?_
      refine aw_getR fd_Mo_xor lk_Mo_62 (by omega) rfl d_Mo_endXor_41 (hR _ _) ?_
      refine aw_iload_n d_Mo_endXor_44 rfl rfl ?_
      refine aw_iconst d_Mo_endXor_45 (in_c rfl) ?_
      refine aw_zast (n := k) (by omega) rfl rfl (by omega) (by omega) d_Mo_endXor_46 ?_
      exact aw_vret d_Mo_endXor_47 rfl ⟨rfl, rfl, rfl⟩
set_option maxRecDepth 100000 in
theorem m_Mo_place {d : Nat} (hd : 0 ≤ d) (hR : ∀ k j, mR μ k j = R0 pg k j) {i : Nat} (h4 : i < 4) {k : Nat} (hk : mI μ 78 i = (k : Int)) (h6 : k ≤ 6) {l : Int} (hl : inR l) : AM G false d 0 0 y_Mo_place [aP 67, aI (i : Int), aI l] 94 μ (Qe (some (aI (plF (fun j => mI μ 79 (6 * i + j)) l k))) 94 μ) := by
  refine am_of (n := 2) pf_Mo_place (Nat.le_of_ble_eq_true rfl) (by intro v hv; simp only [List.mem_cons, List.not_mem_nil, or_false] at hv; rcases hv with rfl | rfl | rfl <;> first | trivial | assumption | exact in_c rfl | exact bI_in _ | (show inR _; unfold inR; omega)) rfl ?_
  have key : ∀ (m : Nat) (j : Nat), k - j = m → j ≤ k → AW G false y_Mo_place d 0 0 (Qe (some (aI (plF (fun j => mI μ 79 (6 * i + j)) l k))) 94 μ) 5 [some (aP 67), some (aI (i : Int)), some (aI l), some (aI (plF (fun j => mI μ 79 (6 * i + j)) l j)), some (aI (j : Int))] [] 94 μ := by
    intro m
    induction m using Nat.strongRecOn with | _ m ih =>
    intro j hm hj
    refine aw_iload d_Mo_place_5 rfl ?_
    refine aw_aload_n d_Mo_place_7 rfl rfl ?_
    refine aw_getR fd_Mo_many lk_Mo_41 (by omega) rfl d_Mo_place_8 (hR _ _) ?_
    refine aw_iload_n d_Mo_place_11 rfl rfl ?_
    refine aw_iald (n := i) (by omega) rfl rfl (by omega) d_Mo_place_12 ?_
    refine aw_tv (v' := (k : Int)) hk ?_
    refine aw_icmp_ge (tgt := 45) d_Mo_place_13 rfl (fun h13 => ?_) (fun h13 => ?_)
    · refine aw_iload_n d_Mo_place_45 rfl rfl ?_
      exact aw_iret d_Mo_place_46 rfl ⟨by rw [show j = k by omega], rfl, rfl⟩
    · refine aw_aload_n d_Mo_place_16 rfl rfl ?_
      refine aw_getR fd_Mo_uses lk_Mo_44 (by omega) rfl d_Mo_place_17 (hR _ _) ?_
      refine aw_bipush (z := 6) d_Mo_place_20 (in_c rfl) rfl ?_
      refine aw_iload_n d_Mo_place_22 rfl rfl ?_
      refine aw_imul d_Mo_place_23 (by unfold inR; omega) ?_
      refine aw_iload d_Mo_place_24 rfl ?_
      refine aw_iadd d_Mo_place_26 (by unfold inR; omega) ?_
      refine aw_iald (n := 6 * i + j) (by omega) rfl (by omega) (by omega) d_Mo_place_27 ?_
      refine aw_iload_n d_Mo_place_28 rfl rfl ?_
      refine aw_icmp_ne (tgt := 37) d_Mo_place_29 rfl (fun h29 => ?_) (fun h29 => ?_)
      · refine aw_iload_n d_Mo_place_37 rfl rfl ?_
        refine aw_tv (v' := plF (fun j => mI μ 79 (6 * i + j)) l (j + 1)) (by rw [plF, if_neg h29]) ?_
        refine aw_istore_n (lst' := [_, _, _, _, _]) d_Mo_place_38 rfl (Nat.le_of_ble_eq_true rfl) rfl ?_
        refine aw_iinc (lst' := [_, _, _, _, some (aI ((j + 1 : Nat) : Int))]) d_Mo_place_39 (Nat.le_of_ble_eq_true rfl) rfl (by unfold inR; omega) rfl ?_
        refine aw_goto (tgt := 5) d_Mo_place_42 rfl ?_
        exact ih (k - (j + 1)) (by omega) (j + 1) rfl (by omega)
      · refine aw_iload d_Mo_place_32 rfl ?_
        refine aw_tv (v' := plF (fun j => mI μ 79 (6 * i + j)) l (j + 1)) (by rw [plF, if_pos h29]) ?_
        refine aw_goto (tgt := 38) d_Mo_place_34 rfl ?_
        refine aw_istore_n (lst' := [_, _, _, _, _]) d_Mo_place_38 rfl (Nat.le_of_ble_eq_true rfl) rfl ?_
        refine aw_iinc (lst' := [_, _, _, _, some (aI ((j + 1 : Nat) : Int))]) d_Mo_place_39 (Nat.le_of_ble_eq_true rfl) rfl (by unfold inR; omega) rfl ?_
        refine aw_goto (tgt := 5) d_Mo_place_42 rfl ?_
        exact ih (k - (j + 1)) (by omega) (j + 1) rfl (by omega)
  refine aw_iconst d_Mo_place_0 (in_c rfl) ?_
  refine aw_istore_n (lst' := [_, _, _, _, _]) d_Mo_place_1 rfl (Nat.le_of_ble_eq_true rfl) rfl ?_
  refine aw_iconst d_Mo_place_2 (in_c rfl) ?_
  refine aw_istore (lst' := [_, _, _, _, _]) d_Mo_place_3 (Nat.le_of_ble_eq_true rfl) rfl ?_
  exact key (k - 0) 0 rfl (Nat.zero_le _)
set_option maxRecDepth 100000 in
theorem m_Mo_go {d : Nat} (hd : 2 ≤ d) (hR : ∀ k j, mR μ k j = R0 pg k j) {i : Nat} (h4 : i < 4) {n : Nat} (hlen : mI μ 76 i = (n : Int)) (hn : n ≤ 40) {k : Nat} (hk : mI μ 78 i = (k : Int)) (h6 : k ≤ 6) {w : Nat} (hw : w < 64) {sh : Bool} (hsh : mI μ 77 i = bI sh) {md : Nat} (hmd : md ≤ 8) {S : Nat} (hau : au (fun p => mI μ 75 (40 * i + p)) md n = some (false, 1, S)) {nm : Nat → Nat} (hpl : ∀ l, l < 8 → S.testBit l = true → plF (fun j => mI μ 79 (6 * i + j)) (l : Int) k = (nm l : Int) ∧ nm l < 6)  : AM G false d 0 0 y_Mo_go [aP 67, aI (i : Int), aI (w : Int)] 94 μ (Qn (fun v n9 m => v = some (aI (bI (gO (gEndX (gRun (fun p => mI μ 75 (40 * i + p)) sh nm w n 0 gS0)) 0))) ∧ n9 = 94 ∧ FrG μ m ∧ mI m 67 27 = ((gSn (gRun (fun p => mI μ 75 (40 * i + p)) sh nm w n 0 gS0) : Nat) : Int))) := by
  refine am_of (n := 3) pf_Mo_go (Nat.le_of_ble_eq_true rfl) (by intro v hv; simp only [List.mem_cons, List.not_mem_nil, or_false] at hv; rcases hv with rfl | rfl | rfl <;> first | trivial | assumption | exact in_c rfl | exact bI_in _ | (show inR _; unfold inR; omega)) rfl ?_
  have key : ∀ (m : Nat) (p : Nat) (s : gS) (μ2 : aM) (o4 o5 : Option aV), n - p = m → (p ≤ n ∧ s = (gRun (fun p => mI μ 75 (40 * i + p)) sh nm w p 0 gS0) ∧ (∀ u, au (fun p => mI μ 75 (40 * i + p)) md p = some u → gDp s = u.2.1) ∧ gR μ2 s ∧ FrG μ μ2) → AW G false y_Mo_go d 0 0 (Qn (fun v n9 m => v = some (aI (bI (gO (gEndX (gRun (fun p => mI μ 75 (40 * i + p)) sh nm w n 0 gS0)) 0))) ∧ n9 = 94 ∧ FrG μ m ∧ mI m 67 27 = ((gSn (gRun (fun p => mI μ 75 (40 * i + p)) sh nm w n 0 gS0) : Nat) : Int))) 17 [some (aP 67), some (aI (i : Int)), some (aI (w : Int)), some (aI (p : Int)), o4, o5] [] 94 μ2 := by
    intro m
    induction m using Nat.strongRecOn with | _ m ih =>
    intro p s μ2 o4 o5 hm hp
    obtain ⟨u, hu⟩ := au_pre hau (show p ≤ n by omega)
    have hin := au_in hmd hu
    have hdp : gDp s = u.2.1 := hp.2.2.1 u hu
    obtain ⟨k0, hk0⟩ : ∃ k0, gDp s = k0 + 1 := ⟨gDp s - 1, by omega⟩
    have hg := hp.2.2.2.1
    have hF := hp.2.2.2.2
    have hR2 : ∀ a b, mR μ2 a b = R0 pg a b := fun a b => (hF.2.2 a b).trans (hR a b)
    have e76 : mI μ2 76 i = (n : Int) := (hF.1 76 i (by omega) (by omega)).trans hlen
    have e75 : mI μ2 75 (40 * i + p) = (mI μ 75 (40 * i + p)) := hF.1 75 _ (by omega) (by omega)
    have e77 : mI μ2 77 i = bI sh := (hF.1 77 i (by omega) (by omega)).trans hsh
    have e78 : mI μ2 78 i = (k : Int) := (hF.1 78 i (by omega) (by omega)).trans hk
    have e79 : ∀ j, mI μ2 79 j = mI μ 79 j := fun j => hF.1 79 j (by omega) (by omega)
    have hd26 : mI μ2 67 26 = ((k0 + 1 : Nat) : Int) := hg.1.trans (congrArg (fun z : Nat => (z : Int)) hk0)
    obtain ⟨r1, r2, r3, r4, r5⟩ := hg.2.2 k0 (by omega)
    have hk08 : k0 < 6 := by omega
    refine aw_iload_n d_Mo_go_17 rfl rfl ?_
    refine aw_aload_n d_Mo_go_18 rfl rfl ?_
    refine aw_getR fd_Mo_length lk_Mo_34 (by omega) rfl d_Mo_go_19 (hR2 _ _) ?_
    refine aw_iload_n d_Mo_go_22 rfl rfl ?_
    refine aw_iald (n := i) (by omega) rfl rfl (by omega) d_Mo_go_23 ?_
    refine aw_tv (v' := (n : Int)) e76 ?_
    refine aw_icmp_ge (tgt := 227) d_Mo_go_24 rfl (fun h24 => ?_) (fun h24 => ?_)
    · refine aw_aload_n d_Mo_go_227 rfl rfl ?_
      refine aw_ve (as := []) rfl cv_Mo_124 (by omega) rfl rfl d_Mo_go_228 (Nat.le_of_ble_eq_true rfl) (d' := d - 1) (by omega) (m_Mo_endXor (μ := μ2) (k := k0) (o := gO s k0) (x := gX s k0) (a := gA_ s k0) (by omega) hR2 hd26 (by omega) r1 r2 r3) ?_
      refine aw_aload_n d_Mo_go_231 rfl rfl ?_
      refine aw_getR fd_Mo_or lk_Mo_59 (by omega) rfl d_Mo_go_232 (hR2 _ _) ?_
      refine aw_iconst d_Mo_go_235 (in_c rfl) ?_
      refine aw_zald (n := 0) (by omega) rfl rfl (by omega) d_Mo_go_236 ?_
      have hpn : p = n := by omega
      have hk00 : k0 = 0 := by have := hdp; rw [show u = (false, 1, S) from by rw [hpn, hau] at hu; cases hu; rfl] at this; have : gDp s = 1 := this; omega
      refine aw_tv (v' := bI (gO (gEndX s) 0)) (by rw [hk00, exM, mI_wI, if_neg (by omega), mI_wI, if_pos ⟨rfl, rfl⟩]; show _ = bI (up (gO s) (gDp s - 1) (gO s (gDp s - 1) || up (gX s) (gDp s - 1) (gX s (gDp s - 1) != gA_ s (gDp s - 1)) (gDp s - 1)) 0); rw [show gDp s - 1 = 0 by omega, up_at, up_at]) ?_
      exact aw_zret d_Mo_go_237 rfl (bI_nr _) ⟨by rw [hp.2.1, hpn], rfl, hF.trans ((FrG_ea _ _ _).trans (FrG_ex _ _ _)), by rw [hp.2.1, hpn] at hg; exact hg.2.1⟩
    · refine aw_aload_n d_Mo_go_27 rfl rfl ?_
      refine aw_getR fd_Mo_signs lk_Mo_31 (by omega) rfl d_Mo_go_28 (hR2 _ _) ?_
      refine aw_bipush (z := 40) d_Mo_go_31 (in_c rfl) rfl ?_
      refine aw_iload_n d_Mo_go_33 rfl rfl ?_
      refine aw_imul d_Mo_go_34 (by unfold inR; omega) ?_
      refine aw_iload_n d_Mo_go_35 rfl rfl ?_
      refine aw_iadd d_Mo_go_36 (by unfold inR; omega) ?_
      refine aw_iald (n := 40 * i + p) (by omega) rfl (by omega) (by omega) d_Mo_go_37 ?_
      refine aw_tv (v' := (mI μ 75 (40 * i + p))) e75 ?_
      refine aw_istore (lst' := [_, _, _, _, _, _]) d_Mo_go_38 (Nat.le_of_ble_eq_true rfl) rfl ?_
      refine aw_iload d_Mo_go_40 rfl ?_
      refine aw_bipush (z := 33) d_Mo_go_42 (in_c rfl) rfl ?_
      refine aw_pc (pc' := 44) rfl ?_
      refine aw_icmp_ne (tgt := 80) d_Mo_go_44 rfl (fun h44 => ?_) (fun h44 => ?_)
      · refine aw_iload d_Mo_go_80 rfl ?_
        refine aw_bipush (z := 40) d_Mo_go_82 (in_c rfl) rfl ?_
        refine aw_icmp_ne (tgt := 99) d_Mo_go_84 rfl (fun h84 => ?_) (fun h84 => ?_)
        · refine aw_iload d_Mo_go_99 rfl ?_
          refine aw_bipush (z := 41) d_Mo_go_101 (in_c rfl) rfl ?_
          refine aw_icmp_ne (tgt := 136) d_Mo_go_103 rfl (fun h103 => ?_) (fun h103 => ?_)
          · refine aw_iload d_Mo_go_136 rfl ?_
            refine aw_bipush (z := 94) d_Mo_go_138 (in_c rfl) rfl ?_
            refine aw_icmp_ne (tgt := 150) d_Mo_go_140 rfl (fun h140 => ?_) (fun h140 => ?_)
            · refine aw_iload d_Mo_go_150 rfl ?_
              refine aw_bipush (z := 124) d_Mo_go_152 (in_c rfl) rfl ?_
              refine aw_icmp_ne (tgt := 164) d_Mo_go_154 rfl (fun h154 => ?_) (fun h154 => ?_)
              · refine aw_iload d_Mo_go_164 rfl ?_
                refine aw_bipush (z := 38) d_Mo_go_166 (in_c rfl) rfl ?_
                refine aw_icmp_eq (tgt := 221) d_Mo_go_168 rfl (fun h168 => ?_) (fun h168 => ?_)
                · refine aw_iinc (lst' := [_, _, _, some (aI ((p + 1 : Nat) : Int)), _, _]) d_Mo_go_221 (Nat.le_of_ble_eq_true rfl) rfl (by unfold inR; omega) rfl ?_
                  refine aw_goto (tgt := 17) d_Mo_go_224 rfl ?_
                  obtain ⟨v, hv0⟩ := au_pre hau (show p + 1 ≤ n by omega)
                  have hv : aus md (mI μ 75 (40 * i + p)) u = some v := by have := hv0; rw [au_step hu] at this; exact this
                  have hst : gStep sh nm w (mI μ 75 (40 * i + p)) s = s := by unfold gStep; rw [if_neg h44, if_neg h84, if_neg h103, if_neg h140, if_neg h154, if_pos h168]
                  exact ih (n - (p + 1)) (by omega) (p + 1) (gStep sh nm w (mI μ 75 (40 * i + p)) s) μ2 _ _ rfl ⟨by omega, by rw [gRun_s, ← hp.2.1], fun u' hu' => by rw [hv0] at hu'; cases hu'; exact gDp_step hv hmd hdp, by rw [hst]; exact hg, hF.trans (FrG.refl _)⟩
                · refine aw_aload_n d_Mo_go_171 rfl rfl ?_
                  refine aw_iload_n d_Mo_go_172 rfl rfl ?_
                  refine aw_iload d_Mo_go_173 rfl ?_
                  obtain ⟨hlt, hbit⟩ := au_has hmd hau (p := p) (by omega) (by rintro (z | z | z | z | z | z); exact h44 z; exact h168 z; exact h140 z; exact h154 z; exact h84 z; exact h103 z)
                  have hl1 := hlt.1
                  have hl2 := hlt.2
                  obtain ⟨lt, hlt0⟩ : ∃ lt : Nat, (mI μ 75 (40 * i + p)) - 65 = (lt : Int) := ⟨((mI μ 75 (40 * i + p)) - 65).toNat, by omega⟩
                  have hbl : S.testBit lt = true := by have := hbit; rw [show ((mI μ 75 (40 * i + p)) - 65).toNat = lt by omega] at this; exact this
                  have hpp := hpl lt (by omega) hbl
                  refine aw_bipush (z := 65) d_Mo_go_175 (in_c rfl) rfl ?_
                  refine aw_isub d_Mo_go_177 (by unfold inR; omega) ?_
                  refine aw_tv (v' := (lt : Int)) hlt0 ?_
                  refine aw_ve (as := [_, _]) rfl cv_Mo_130 (by omega) rfl rfl d_Mo_go_178 (Nat.le_of_ble_eq_true rfl) (d' := d - 1) (by omega) (m_Mo_place (μ := μ2) (i := i) (k := k) (l := (lt : Int)) (by omega) hR2 h4 e78 h6 (by unfold inR; omega)) ?_
                  refine aw_tv (v' := (nm lt : Int)) (by rw [← hpp.1]; congr 1; funext j; exact e79 _) ?_
                  refine aw_istore (lst' := [_, _, _, _, _, _]) d_Mo_go_181 (Nat.le_of_ble_eq_true rfl) rfl ?_
                  refine aw_aload_n d_Mo_go_183 rfl rfl ?_
                  refine aw_aload_n d_Mo_go_184 rfl rfl ?_
                  refine aw_iload_n d_Mo_go_185 rfl rfl ?_
                  refine aw_ve (as := [_]) rfl cv_Mo_120 (by omega) rfl rfl d_Mo_go_186 (Nat.le_of_ble_eq_true rfl) (d' := d - 1) (by omega) (m_Mo_isNext (μ := μ2) (k := k0) (i := i) (l := gLv s k0) (a := gA_ s k0) (o := gO s k0) (sh := sh) (by omega) hR2 hd26 (by omega) h4 r5 r3 r1 e77) ?_
                  refine aw_tv (v' := bI (gNext sh s)) (by rw [show gNext sh s = (gLv s k0 && (!sh || (gA_ s k0 && !gO s k0))) from by unfold gNext; rw [show gDp s - 1 = k0 by omega]]) ?_
                  refine aw_pc (pc' := 189) rfl ?_
                  refine aw_if_eq (tgt := 204) d_Mo_go_189 rfl (fun h189 => ?_) (fun h189 => ?_)
                  · replace h189 := bz h189
                    refine aw_aload_n d_Mo_go_204 rfl rfl ?_
                    refine aw_getI fd_Mo_seen lk_Mo_103 (by omega) rfl d_Mo_go_205 ?_
                    refine aw_tv (v' := (gSn s : Int)) hg.2.1 ?_
                    refine aw_putI fd_Mo_seen lk_Mo_103 (by omega) rfl d_Mo_go_208 (Or.inl rfl) ?_
                    refine aw_aload_n d_Mo_go_211 rfl rfl ?_
                    refine aw_iload_n d_Mo_go_212 rfl rfl ?_
                    refine aw_iload d_Mo_go_213 rfl ?_
                    refine aw_se (as := [_, _]) rfl cs_Mo_134 d_Mo_go_215 (Nat.le_of_ble_eq_true rfl) (d' := d - 1) (by omega) (m_Mo_isIn (by omega) (by omega) (by omega)) ?_
                    refine aw_tv (v' := bI (w.testBit (nm lt))) (if_bI _) ?_
                    refine aw_ve (as := [_]) rfl cv_Mo_127 (by omega) rfl rfl d_Mo_go_218 (Nat.le_of_ble_eq_true rfl) (d' := d - 1) (by omega) (m_Mo_join (μ := wI μ2 67 27 ((gSn s : Nat) : Int)) (k := k0) (v := w.testBit (nm lt)) (a := gA_ s k0) (t := gN s k0) (by omega) (fun a b => hR2 a b) (by exact hd26) (by omega) (by exact r3) (by exact r4)) ?_
                    refine aw_iinc (lst' := [_, _, _, some (aI ((p + 1 : Nat) : Int)), _, _]) d_Mo_go_221 (Nat.le_of_ble_eq_true rfl) rfl (by unfold inR; omega) rfl ?_
                    refine aw_goto (tgt := 17) d_Mo_go_224 rfl ?_
                    obtain ⟨v, hv0⟩ := au_pre hau (show p + 1 ≤ n by omega)
                    have hv : aus md (mI μ 75 (40 * i + p)) u = some v := by have := hv0; rw [au_step hu] at this; exact this
                    have hst : gStep sh nm w (mI μ 75 (40 * i + p)) s = gJoin (w.testBit (nm lt)) (gDp s, (if gNext sh s then gSn s ||| 2 ^ nm lt else gSn s), s.2.2) := by unfold gStep; rw [if_neg h44, if_neg h84, if_neg h103, if_neg h140, if_neg h154, if_neg h168]; rw [show ((mI μ 75 (40 * i + p)) - 65).toNat = lt by omega]
                    exact ih (n - (p + 1)) (by omega) (p + 1) (gStep sh nm w (mI μ 75 (40 * i + p)) s) (joM (wI μ2 67 27 ((gSn s : Nat) : Int)) k0 (gA_ s k0 && (w.testBit (nm lt) != gN s k0))) _ _ rfl ⟨by omega, by rw [gRun_s, ← hp.2.1], fun u' hu' => by rw [hv0] at hu'; cases hu'; exact gDp_step hv hmd hdp, by rw [hst]; exact (by have := gR_jo (gR_sn hg (gSn s)) hk0 (w.testBit (nm lt)); rw [show (if gNext sh s = true then gSn s ||| 2 ^ nm lt else gSn s) = gSn s from by rw [h189]; rfl]; exact this), hF.trans ((FrG_w _ _ (Or.inr ⟨rfl, Or.inr rfl⟩)).trans (FrG_jo _ _ _))⟩
                  · replace h189 := bn h189
                    refine aw_aload_n d_Mo_go_192 rfl rfl ?_
                    refine aw_getI fd_Mo_seen lk_Mo_103 (by omega) rfl d_Mo_go_193 ?_
                    refine aw_tv (v' := (gSn s : Int)) hg.2.1 ?_
                    refine aw_iconst d_Mo_go_196 (in_c rfl) ?_
                    refine aw_iload d_Mo_go_197 rfl ?_
                    refine aw_ishl (a := 1) (k0 := nm lt) rfl rfl (by omega) (by have := Nat.pow_le_pow_right (n := 2) (by omega) (show nm lt ≤ 5 by omega); omega) d_Mo_go_199 ?_
                    refine aw_ior (a := gSn s) (b := 1 * 2 ^ nm lt) rfl rfl d_Mo_go_200 ?_
                    refine aw_tv (v' := ((gSn s ||| 2 ^ nm lt : Nat) : Int)) (by rw [Nat.one_mul]) ?_
                    refine aw_goto (tgt := 208) d_Mo_go_201 rfl ?_
                    refine aw_putI fd_Mo_seen lk_Mo_103 (by omega) rfl d_Mo_go_208 (Or.inl rfl) ?_
                    refine aw_aload_n d_Mo_go_211 rfl rfl ?_
                    refine aw_iload_n d_Mo_go_212 rfl rfl ?_
                    refine aw_iload d_Mo_go_213 rfl ?_
                    refine aw_pc (pc' := 215) rfl ?_
                    refine aw_se (as := [_, _]) rfl cs_Mo_134 d_Mo_go_215 (Nat.le_of_ble_eq_true rfl) (d' := d - 1) (by omega) (m_Mo_isIn (by omega) (by omega) (by omega)) ?_
                    refine aw_tv (v' := bI (w.testBit (nm lt))) (if_bI _) ?_
                    refine aw_ve (as := [_]) rfl cv_Mo_127 (by omega) rfl rfl d_Mo_go_218 (Nat.le_of_ble_eq_true rfl) (d' := d - 1) (by omega) (m_Mo_join (μ := wI μ2 67 27 ((gSn s ||| 2 ^ nm lt : Nat) : Int)) (k := k0) (v := w.testBit (nm lt)) (a := gA_ s k0) (t := gN s k0) (by omega) (fun a b => hR2 a b) (by exact hd26) (by omega) (by exact r3) (by exact r4)) ?_
                    refine aw_iinc (lst' := [_, _, _, some (aI ((p + 1 : Nat) : Int)), _, _]) d_Mo_go_221 (Nat.le_of_ble_eq_true rfl) rfl (by unfold inR; omega) rfl ?_
                    refine aw_goto (tgt := 17) d_Mo_go_224 rfl ?_
                    obtain ⟨v, hv0⟩ := au_pre hau (show p + 1 ≤ n by omega)
                    have hv : aus md (mI μ 75 (40 * i + p)) u = some v := by have := hv0; rw [au_step hu] at this; exact this
                    have hst : gStep sh nm w (mI μ 75 (40 * i + p)) s = gJoin (w.testBit (nm lt)) (gDp s, (if gNext sh s then gSn s ||| 2 ^ nm lt else gSn s), s.2.2) := by unfold gStep; rw [if_neg h44, if_neg h84, if_neg h103, if_neg h140, if_neg h154, if_neg h168]; rw [show ((mI μ 75 (40 * i + p)) - 65).toNat = lt by omega]
                    exact ih (n - (p + 1)) (by omega) (p + 1) (gStep sh nm w (mI μ 75 (40 * i + p)) s) (joM (wI μ2 67 27 ((gSn s ||| 2 ^ nm lt : Nat) : Int)) k0 (gA_ s k0 && (w.testBit (nm lt) != gN s k0))) _ _ rfl ⟨by omega, by rw [gRun_s, ← hp.2.1], fun u' hu' => by rw [hv0] at hu'; cases hu'; exact gDp_step hv hmd hdp, by rw [hst]; exact (by have := gR_jo (gR_sn hg (gSn s ||| 2 ^ nm lt)) hk0 (w.testBit (nm lt)); rw [show (if gNext sh s = true then gSn s ||| 2 ^ nm lt else gSn s) = gSn s ||| 2 ^ nm lt from by rw [h189]; rfl]; exact this), hF.trans ((FrG_w _ _ (Or.inr ⟨rfl, Or.inr rfl⟩)).trans (FrG_jo _ _ _))⟩
              · refine aw_aload_n d_Mo_go_157 rfl rfl ?_
                refine aw_ve (as := []) rfl cv_Mo_124 (by omega) rfl rfl d_Mo_go_158 (Nat.le_of_ble_eq_true rfl) (d' := d - 1) (by omega) (m_Mo_endXor (μ := μ2) (k := k0) (o := gO s k0) (x := gX s k0) (a := gA_ s k0) (by omega) hR2 hd26 (by omega) r1 r2 r3) ?_
                refine aw_goto (tgt := 221) d_Mo_go_161 rfl ?_
                refine aw_iinc (lst' := [_, _, _, some (aI ((p + 1 : Nat) : Int)), _, _]) d_Mo_go_221 (Nat.le_of_ble_eq_true rfl) rfl (by unfold inR; omega) rfl ?_
                refine aw_goto (tgt := 17) d_Mo_go_224 rfl ?_
                obtain ⟨v, hv0⟩ := au_pre hau (show p + 1 ≤ n by omega)
                have hv : aus md (mI μ 75 (40 * i + p)) u = some v := by have := hv0; rw [au_step hu] at this; exact this
                have hst : gStep sh nm w (mI μ 75 (40 * i + p)) s = gEndX s := by unfold gStep; rw [if_neg h44, if_neg h84, if_neg h103, if_neg h140, if_pos h154]
                exact ih (n - (p + 1)) (by omega) (p + 1) (gStep sh nm w (mI μ 75 (40 * i + p)) s) (exM (eaM μ2 k0 (gX s k0 != gA_ s k0)) k0 (gO s k0 || (gX s k0 != gA_ s k0))) _ _ rfl ⟨by omega, by rw [gRun_s, ← hp.2.1], fun u' hu' => by rw [hv0] at hu'; cases hu'; exact gDp_step hv hmd hdp, by rw [hst]; exact (by have := gR_ex (gR_ea hg hk0) hk0; rw [show gX (gEnd s) k0 = (gX s k0 != gA_ s k0) from by show up _ (gDp s - 1) _ k0 = _; rw [show gDp s - 1 = k0 by omega, up_at]] at this; exact this), hF.trans ((FrG_ea _ _ _).trans (FrG_ex _ _ _))⟩
            · refine aw_aload_n d_Mo_go_143 rfl rfl ?_
              refine aw_ve (as := []) rfl cv_Mo_113 (by omega) rfl rfl d_Mo_go_144 (Nat.le_of_ble_eq_true rfl) (d' := d - 1) (by omega) (m_Mo_endAnd (μ := μ2) (k := k0) (x := gX s k0) (a := gA_ s k0) (by omega) hR2 hd26 (by omega) r2 r3) ?_
              refine aw_goto (tgt := 221) d_Mo_go_147 rfl ?_
              refine aw_iinc (lst' := [_, _, _, some (aI ((p + 1 : Nat) : Int)), _, _]) d_Mo_go_221 (Nat.le_of_ble_eq_true rfl) rfl (by unfold inR; omega) rfl ?_
              refine aw_goto (tgt := 17) d_Mo_go_224 rfl ?_
              obtain ⟨v, hv0⟩ := au_pre hau (show p + 1 ≤ n by omega)
              have hv : aus md (mI μ 75 (40 * i + p)) u = some v := by have := hv0; rw [au_step hu] at this; exact this
              have hst : gStep sh nm w (mI μ 75 (40 * i + p)) s = gEnd s := by unfold gStep; rw [if_neg h44, if_neg h84, if_neg h103, if_pos h140]
              exact ih (n - (p + 1)) (by omega) (p + 1) (gStep sh nm w (mI μ 75 (40 * i + p)) s) (eaM μ2 k0 (gX s k0 != gA_ s k0)) _ _ rfl ⟨by omega, by rw [gRun_s, ← hp.2.1], fun u' hu' => by rw [hv0] at hu'; cases hu'; exact gDp_step hv hmd hdp, by rw [hst]; exact gR_ea hg hk0, hF.trans (FrG_ea _ _ _)⟩
          · refine aw_aload_n d_Mo_go_106 rfl rfl ?_
            refine aw_ve (as := []) rfl cv_Mo_124 (by omega) rfl rfl d_Mo_go_107 (Nat.le_of_ble_eq_true rfl) (d' := d - 1) (by omega) (m_Mo_endXor (μ := μ2) (k := k0) (o := gO s k0) (x := gX s k0) (a := gA_ s k0) (by omega) hR2 hd26 (by omega) r1 r2 r3) ?_
            obtain ⟨v41, hv41⟩ := au_pre hau (show p + 1 ≤ n by omega)
            have h1d := (aus_41 (by have := hv41; rw [au_step hu] at this; exact this) hmd h103).1
            obtain ⟨k1, hk1⟩ : ∃ k1, k0 = k1 + 1 := ⟨k0 - 1, by omega⟩
            have hgE : gR (exM (eaM μ2 k0 (gX s k0 != gA_ s k0)) k0 (gO s k0 || (gX s k0 != gA_ s k0))) (gEndX s) := (by have := gR_ex (gR_ea hg hk0) hk0; rw [show gX (gEnd s) k0 = (gX s k0 != gA_ s k0) from by show up _ (gDp s - 1) _ k0 = _; rw [show gDp s - 1 = k0 by omega, up_at]] at this; exact this)
            have hgD := gR_dn hgE (k := k0) hk0
            have hk1' : gDp ((k0, (gEndX s).2) : gS) = k1 + 1 := hk1
            have gJ := gR_jo hgD hk1' (gO (gEndX s) k0)
            obtain ⟨q1, q2, q3, q4, q5⟩ := hgD.2.2 k1 (by show k1 < k0; omega)
            have hRE : ∀ a b, mR (wI (exM (eaM μ2 k0 (gX s k0 != gA_ s k0)) k0 (gO s k0 || (gX s k0 != gA_ s k0))) 67 26 (k0 : Int)) a b = R0 pg a b := fun a b => hR2 a b
            refine aw_aload_n d_Mo_go_110 rfl rfl ?_
            refine aw_dup d_Mo_go_111 rfl ?_
            refine aw_getI fd_Mo_deep lk_Mo_110 (by omega) rfl d_Mo_go_112 ?_
            refine aw_tv (v' := ((k0 + 1 : Nat) : Int)) (by exact hd26) ?_
            refine aw_iconst d_Mo_go_115 (in_c rfl) ?_
            refine aw_isub d_Mo_go_116 (by unfold inR; omega) ?_
            refine aw_tv (v' := (k0 : Int)) (by omega) ?_
            refine aw_putI fd_Mo_deep lk_Mo_110 (by omega) rfl d_Mo_go_117 (Or.inl rfl) ?_
            refine aw_aload_n d_Mo_go_120 rfl rfl ?_
            refine aw_aload_n d_Mo_go_121 rfl rfl ?_
            refine aw_getR fd_Mo_or lk_Mo_59 (by omega) rfl d_Mo_go_122 (hRE _ _) ?_
            refine aw_pc (pc' := 125) rfl ?_
            refine aw_aload_n d_Mo_go_125 rfl rfl ?_
            refine aw_getI fd_Mo_deep lk_Mo_110 (by omega) rfl d_Mo_go_126 ?_
            refine aw_tv (v' := (k0 : Int)) (by rw [mI_wI, if_pos ⟨rfl, rfl⟩]) ?_
            refine aw_zald (n := k0) (by omega) rfl rfl (by omega) d_Mo_go_129 ?_
            refine aw_tv (v' := bI (gO (gEndX s) k0)) ((hgE.2.2 k0 (by show k0 < gDp s; omega)).1) ?_
            refine aw_ve (as := [_]) rfl cv_Mo_127 (by omega) rfl rfl d_Mo_go_130 (Nat.le_of_ble_eq_true rfl) (d' := d - 1) (by omega) (m_Mo_join (μ := wI (exM (eaM μ2 k0 (gX s k0 != gA_ s k0)) k0 (gO s k0 || (gX s k0 != gA_ s k0))) 67 26 (k0 : Int)) (k := k1) (v := gO (gEndX s) k0) (a := gA_ (gEndX s) k1) (t := gN (gEndX s) k1) (by omega) hRE (hgD.1.trans (congrArg (fun z : Nat => (z : Int)) hk1)) (by omega) q3 q4) ?_
            refine aw_goto (tgt := 221) d_Mo_go_133 rfl ?_
            refine aw_iinc (lst' := [_, _, _, some (aI ((p + 1 : Nat) : Int)), _, _]) d_Mo_go_221 (Nat.le_of_ble_eq_true rfl) rfl (by unfold inR; omega) rfl ?_
            refine aw_goto (tgt := 17) d_Mo_go_224 rfl ?_
            obtain ⟨v, hv0⟩ := au_pre hau (show p + 1 ≤ n by omega)
            have hv : aus md (mI μ 75 (40 * i + p)) u = some v := by have := hv0; rw [au_step hu] at this; exact this
            have hst : gStep sh nm w (mI μ 75 (40 * i + p)) s = gJoin (gO (gEndX s) k0) (k0, (gEndX s).2) := by unfold gStep; rw [if_neg h44, if_neg h84, if_pos h103]; rw [show gDp s - 1 = k0 by omega]
            exact ih (n - (p + 1)) (by omega) (p + 1) (gStep sh nm w (mI μ 75 (40 * i + p)) s) (joM (wI (exM (eaM μ2 k0 (gX s k0 != gA_ s k0)) k0 (gO s k0 || (gX s k0 != gA_ s k0))) 67 26 (k0 : Int)) k1 (gA_ (gEndX s) k1 && (gO (gEndX s) k0 != gN (gEndX s) k1))) _ _ rfl ⟨by omega, by rw [gRun_s, ← hp.2.1], fun u' hu' => by rw [hv0] at hu'; cases hu'; exact gDp_step hv hmd hdp, by rw [hst]; exact gJ, hF.trans (((FrG_ea _ _ _).trans (FrG_ex _ _ _)).trans ((FrG_w _ _ (Or.inr ⟨rfl, Or.inl rfl⟩)).trans (FrG_jo _ _ _)))⟩
        · refine aw_aload_n d_Mo_go_87 rfl rfl ?_
          refine aw_aload_n d_Mo_go_88 rfl rfl ?_
          refine aw_iload_n d_Mo_go_89 rfl rfl ?_
          refine aw_ve (as := [_]) rfl cv_Mo_120 (by omega) rfl rfl d_Mo_go_90 (Nat.le_of_ble_eq_true rfl) (d' := d - 1) (by omega) (m_Mo_isNext (μ := μ2) (k := k0) (i := i) (l := gLv s k0) (a := gA_ s k0) (o := gO s k0) (sh := sh) (by omega) hR2 hd26 (by omega) h4 r5 r3 r1 e77) ?_
          refine aw_tv (v' := bI (gNext sh s)) (by rw [show gNext sh s = (gLv s k0 && (!sh || (gA_ s k0 && !gO s k0))) from by unfold gNext; rw [show gDp s - 1 = k0 by omega]]) ?_
          refine aw_ve (as := [_]) rfl cv_Mo_116 (by omega) rfl rfl d_Mo_go_93 (Nat.le_of_ble_eq_true rfl) (d' := d - 1) (by omega) (m_Mo_open (μ := μ2) (k := gDp s) (v := gNext sh s) (by omega) hR2 hg.1 (by omega)) ?_
          refine aw_goto (tgt := 221) d_Mo_go_96 rfl ?_
          refine aw_iinc (lst' := [_, _, _, some (aI ((p + 1 : Nat) : Int)), _, _]) d_Mo_go_221 (Nat.le_of_ble_eq_true rfl) rfl (by unfold inR; omega) rfl ?_
          refine aw_goto (tgt := 17) d_Mo_go_224 rfl ?_
          obtain ⟨v, hv0⟩ := au_pre hau (show p + 1 ≤ n by omega)
          have hv : aus md (mI μ 75 (40 * i + p)) u = some v := by have := hv0; rw [au_step hu] at this; exact this
          have hst : gStep sh nm w (mI μ 75 (40 * i + p)) s = gOpen (gNext sh s) s := by unfold gStep; rw [if_neg h44, if_pos h84]
          exact ih (n - (p + 1)) (by omega) (p + 1) (gStep sh nm w (mI μ 75 (40 * i + p)) s) (opM μ2 (gDp s) (gNext sh s)) _ _ rfl ⟨by omega, by rw [gRun_s, ← hp.2.1], fun u' hu' => by rw [hv0] at hu'; cases hu'; exact gDp_step hv hmd hdp, by rw [hst]; exact gR_op hg _, hF.trans (FrG_op _ _ _)⟩
      · refine aw_aload_n d_Mo_go_47 rfl rfl ?_
        refine aw_getR fd_Mo_not lk_Mo_68 (by omega) rfl d_Mo_go_48 (hR2 _ _) ?_
        refine aw_aload_n d_Mo_go_51 rfl rfl ?_
        refine aw_getI fd_Mo_deep lk_Mo_110 (by omega) rfl d_Mo_go_52 ?_
        refine aw_tv (v' := ((k0 + 1 : Nat) : Int)) hd26 ?_
        refine aw_iconst d_Mo_go_55 (in_c rfl) ?_
        refine aw_isub d_Mo_go_56 (by unfold inR; omega) ?_
        refine aw_tv (v' := (k0 : Int)) (by omega) ?_
        refine aw_aload_n d_Mo_go_57 rfl rfl ?_
        refine aw_getR fd_Mo_not lk_Mo_68 (by omega) rfl d_Mo_go_58 (hR2 _ _) ?_
        refine aw_aload_n d_Mo_go_61 rfl rfl ?_
        refine aw_getI fd_Mo_deep lk_Mo_110 (by omega) rfl d_Mo_go_62 ?_
        refine aw_tv (v' := ((k0 + 1 : Nat) : Int)) hd26 ?_
        refine aw_iconst d_Mo_go_65 (in_c rfl) ?_
        refine aw_pc (pc' := 66) rfl ?_
        refine aw_isub d_Mo_go_66 (by unfold inR; omega) ?_
        refine aw_tv (v' := (k0 : Int)) (by omega) ?_
        refine aw_zald (n := k0) (by omega) rfl rfl (by omega) d_Mo_go_67 ?_
        refine aw_tv (v' := bI (gN s k0)) r4 ?_
        refine aw_if_ne (tgt := 75) d_Mo_go_68 rfl (fun h68 => ?_) (fun h68 => ?_)
        · replace h68 := bn h68
          refine aw_iconst d_Mo_go_75 (in_c rfl) ?_
          refine aw_tv (v' := bI (!gN s k0)) (by rw [h68]; rfl) ?_
          refine aw_zast (n := k0) (by omega) rfl rfl (by omega) (bI_01 _) d_Mo_go_76 ?_
          refine aw_goto (tgt := 221) d_Mo_go_77 rfl ?_
          refine aw_iinc (lst' := [_, _, _, some (aI ((p + 1 : Nat) : Int)), _, _]) d_Mo_go_221 (Nat.le_of_ble_eq_true rfl) rfl (by unfold inR; omega) rfl ?_
          refine aw_goto (tgt := 17) d_Mo_go_224 rfl ?_
          obtain ⟨v, hv0⟩ := au_pre hau (show p + 1 ≤ n by omega)
          have hv : aus md (mI μ 75 (40 * i + p)) u = some v := by have := hv0; rw [au_step hu] at this; exact this
          have hst : gStep sh nm w (mI μ 75 (40 * i + p)) s = (gDp s, gSn s, gO s, gX s, gA_ s, up (gN s) (gDp s - 1) (!gN s (gDp s - 1)), gLv s) := by unfold gStep; rw [if_pos h44]
          exact ih (n - (p + 1)) (by omega) (p + 1) (gStep sh nm w (mI μ 75 (40 * i + p)) s) (wI μ2 87 k0 (bI (!gN s k0))) _ _ rfl ⟨by omega, by rw [gRun_s, ← hp.2.1], fun u' hu' => by rw [hv0] at hu'; cases hu'; exact gDp_step hv hmd hdp, by rw [hst]; exact gR_no hg hk0 _ rfl, hF.trans (FrG_w _ _ (Or.inl ⟨by omega, by omega⟩))⟩
        · replace h68 := bz h68
          refine aw_iconst d_Mo_go_71 (in_c rfl) ?_
          refine aw_tv (v' := bI (!gN s k0)) (by rw [h68]; rfl) ?_
          refine aw_goto (tgt := 76) d_Mo_go_72 rfl ?_
          refine aw_zast (n := k0) (by omega) rfl rfl (by omega) (bI_01 _) d_Mo_go_76 ?_
          refine aw_goto (tgt := 221) d_Mo_go_77 rfl ?_
          refine aw_iinc (lst' := [_, _, _, some (aI ((p + 1 : Nat) : Int)), _, _]) d_Mo_go_221 (Nat.le_of_ble_eq_true rfl) rfl (by unfold inR; omega) rfl ?_
          refine aw_goto (tgt := 17) d_Mo_go_224 rfl ?_
          obtain ⟨v, hv0⟩ := au_pre hau (show p + 1 ≤ n by omega)
          have hv : aus md (mI μ 75 (40 * i + p)) u = some v := by have := hv0; rw [au_step hu] at this; exact this
          have hst : gStep sh nm w (mI μ 75 (40 * i + p)) s = (gDp s, gSn s, gO s, gX s, gA_ s, up (gN s) (gDp s - 1) (!gN s (gDp s - 1)), gLv s) := by unfold gStep; rw [if_pos h44]
          exact ih (n - (p + 1)) (by omega) (p + 1) (gStep sh nm w (mI μ 75 (40 * i + p)) s) (wI μ2 87 k0 (bI (!gN s k0))) _ _ rfl ⟨by omega, by rw [gRun_s, ← hp.2.1], fun u' hu' => by rw [hv0] at hu'; cases hu'; exact gDp_step hv hmd hdp, by rw [hst]; exact gR_no hg hk0 _ rfl, hF.trans (FrG_w _ _ (Or.inl ⟨by omega, by omega⟩))⟩
  refine aw_aload_n d_Mo_go_0 rfl rfl ?_
  refine aw_iconst d_Mo_go_1 (in_c rfl) ?_
  refine aw_putI fd_Mo_deep lk_Mo_110 (by omega) rfl d_Mo_go_2 (Or.inl rfl) ?_
  refine aw_aload_n d_Mo_go_5 rfl rfl ?_
  refine aw_iconst d_Mo_go_6 (in_c rfl) ?_
  refine aw_putI fd_Mo_seen lk_Mo_103 (by omega) rfl d_Mo_go_7 (Or.inl rfl) ?_
  refine aw_aload_n d_Mo_go_10 rfl rfl ?_
  refine aw_iconst d_Mo_go_11 (in_c rfl) ?_
  refine aw_ve (as := [_]) rfl cv_Mo_116 (by omega) rfl rfl d_Mo_go_12 (Nat.le_of_ble_eq_true rfl) (d' := d - 1) (by omega) (m_Mo_open (μ := wI (wI μ 67 26 0) 67 27 0) (k := 0) (v := true) (by omega) (fun a b => hR a b) rfl (by omega)) ?_
  refine aw_iconst d_Mo_go_15 (in_c rfl) ?_
  refine aw_istore_n (lst' := [_, _, _, _, _, _]) d_Mo_go_16 rfl (Nat.le_of_ble_eq_true rfl) rfl ?_
  refine aw_mm (μ' := opM (wI (wI μ 67 26 0) 67 27 0) 0 true) rfl ?_
  exact key (n - 0) 0 gS0 _ none none rfl ⟨Nat.zero_le _, rfl, fun u hu => by cases hu; rfl, gR_op (s := (0, 0, fun _ => false, fun _ => false, fun _ => false, fun _ => false, fun _ => false)) ⟨rfl, rfl, fun j hj => absurd hj (Nat.not_lt_zero _)⟩ true, ((FrG_w _ _ (Or.inr ⟨rfl, Or.inl rfl⟩)).trans (FrG_w _ _ (Or.inr ⟨rfl, Or.inr rfl⟩))).trans (FrG_op _ _ _)⟩
end
