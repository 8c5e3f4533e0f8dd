/-! small methods of the class -/
section
theorem aw_tv {G : aG} {x : Bool} {y : aY} {d bc bs : Nat} {Q : aQ → Nat → aM → Prop} {pc : Nat} {lst : List (Option aV)} {st : List aV} {nn : Nat} {μ : aM} {v v' : Int} (h : v = v') (k : AW G x y d bc bs Q pc lst (aI v' :: st) nn μ) : AW G x y d bc bs Q pc lst (aI v :: st) nn μ := h ▸ k
theorem mI_wI (μ : aM) (k i : Nat) (z : Int) (a j : Nat) : mI (wI μ k i z) a j = if a = k ∧ j = i then z else mI μ a j := rfl
theorem nr_c {z : Int} (h : 0 ≤ z ∧ z < 65536) : narrow .char (.int (Int32.ofInt z)) = .int (Int32.ofInt z) := by
  obtain ⟨n, rfl⟩ : ∃ n : Nat, z = (n : Int) := ⟨z.toNat, by omega⟩
  rw [Int32.ofInt_eq_ofNat]
  exact (pk_charN (by omega)).1
theorem ite_z {c : Prop} [Decidable c] (h : (if c then (1 : Int) else 0) = 0) : ¬ c := fun q => by rw [if_pos q] at h; omega
theorem ite_n {c : Prop} [Decidable c] (h : ¬ (if c then (1 : Int) else 0) = 0) : c := by
  by_cases q : c
  · exact q
  · rw [if_neg q] at h; exact absurd rfl h
def Qt (E n : Nat) (μ : aM) : aQ → Nat → aM → Prop := fun r n' μ' => r = .inr E ∧ n' = n ∧ μ' = μ
theorem am_mono {G : aG} {x : Bool} {d bc bs : Nat} {y : aY} {as : List aV} {nn : Nat} {μ : aM} {Q Q' : aQ → Nat → aM → Prop} (h : AM G x d bc bs y as nn μ Q) (hq : ∀ r n m, Q r n m → Q' r n m) : AM G x d bc bs y as nn μ Q' := by
  intro p e h1 h2 h3 s m args below h4 h5 h6 h7
  obtain ⟨n, o, a1, a2, a3, ⟨r, nn', μ', b1, b2⟩, a5⟩ := h p e h1 h2 h3 s m args below h4 h5 h6 h7
  exact ⟨n, o, a1, a2, a3, ⟨r, nn', μ', hq _ _ _ b1, b2⟩, a5⟩
theorem aw_vt {G : aG} {y : aY} {d bc bs : Nat} {Q : aQ → Nat → aM → Prop} {pc : Nat} {lst : List (Option aV)} {st : List aV} {nn : Nat} {μ : aM} {z : aY} {as rest : List aV} {E n1 : Nat} {μ1 : aM} {d' bc' bs' idx k ci len : Nat} (hst : as.reverse ++ aP k :: rest = st) (hc : CVok y.1.cls idx as.length z) (hk : k < nn) (hq : shL[k]? = some (ci + 10, len)) (hci : (cls0[ci]?).map (fun q => q.1) = some z.1.cls) (hd : decode y.2.1 pc = .ok (.invokevirtual idx, 3))
    (h8 : ((rest.map (cv G)).map fun v => v.category).sum ≤ 8) (hd' : d' + 1 ≤ d) (hbc : bc' ≤ bc) (hbs : bs' ≤ bs) (hM : AM G false d' bc' bs' z (aP k :: as) nn μ (Qt E n1 μ1)) (hno : ∀ w ∈ tableOf y.2.2.2.2, covers w pc = false) (hQ : Q (.inr E) n1 μ1) : AW G false y d bc bs Q pc lst st nn μ :=
  aw_vx hst hc hk hq hci hd h8 hd' hbc hbs hM (fun v n' μ' h => by cases h.1) (fun E' n' μ' h => by obtain ⟨h1, rfl, rfl⟩ := h; cases h1; exact at_out hno hQ)
variable {G : aG} {pg : Nat} {μ : aM}
set_option maxRecDepth 100000 in
theorem m_In_isFull {d : Nat} (hd : 0 ≤ d)  : AM G false d 0 0 y_In_isFull [aP 1] 94 μ (Qe (some (aI (if mI μ 1 2 = 3 then 1 else 0))) 94 μ) := by
  refine am_of (n := 0) pf_In_isFull (Nat.le_of_ble_eq_true rfl) (by intro v hv; simp only [List.mem_cons, List.not_mem_nil, or_false] at hv; rcases hv with rfl <;> first | trivial | assumption) rfl ?_
  refine aw_aload_n d_In_isFull_0 rfl rfl ?_
  refine aw_getI fd_In_count lk_In_18 (by omega) rfl d_In_isFull_1 ?_
  refine aw_iconst d_In_isFull_4 (in_c rfl) ?_
  refine aw_icmp_ne (tgt := 12) d_In_isFull_5 rfl (fun h5 => ?_) (fun h5 => ?_)
  · refine aw_iconst d_In_isFull_12 (in_c rfl) ?_
    exact aw_zret d_In_isFull_13 rfl rfl ⟨by first | rfl | rw [if_pos (by omega)] | rw [if_neg (by omega)], rfl, rfl⟩
  · refine aw_iconst d_In_isFull_8 (in_c rfl) ?_
    refine aw_goto (tgt := 13) d_In_isFull_9 rfl ?_
    exact aw_zret d_In_isFull_13 rfl rfl ⟨by first | rfl | rw [if_pos (by omega)] | rw [if_neg (by omega)], rfl, rfl⟩
set_option maxRecDepth 100000 in
theorem m_In_has {d : Nat} (hd : 0 ≤ d) {i : Int} (hi : inR i) : AM G false d 0 0 y_In_has [aP 1, aI i] 94 μ (Qe (some (aI (if 0 ≤ i ∧ i < mI μ 1 2 then 1 else 0))) 94 μ) := by
  refine am_of (n := 0) pf_In_has (Nat.le_of_ble_eq_true rfl) (by intro v hv; simp only [List.mem_cons, List.not_mem_nil, or_false] at hv; rcases hv with rfl | rfl <;> first | trivial | assumption) rfl ?_
  refine aw_iload_n d_In_has_0 rfl rfl ?_
  refine aw_if_lt (tgt := 16) d_In_has_1 rfl (fun h1 => ?_) (fun h1 => ?_)
  · refine aw_iconst d_In_has_16 (in_c rfl) ?_
    exact aw_zret d_In_has_17 rfl rfl ⟨by first | rfl | rw [if_pos (by omega)] | rw [if_neg (by omega)], rfl, rfl⟩
  · refine aw_iload_n d_In_has_4 rfl rfl ?_
    refine aw_aload_n d_In_has_5 rfl rfl ?_
    refine aw_getI fd_In_count lk_In_18 (by omega) rfl d_In_has_6 ?_
    refine aw_icmp_ge (tgt := 16) d_In_has_9 rfl (fun h9 => ?_) (fun h9 => ?_)
    · refine aw_iconst d_In_has_16 (in_c rfl) ?_
      exact aw_zret d_In_has_17 rfl rfl ⟨by first | rfl | rw [if_pos (by omega)] | rw [if_neg (by omega)], rfl, rfl⟩
    · refine aw_iconst d_In_has_12 (in_c rfl) ?_
      refine aw_goto (tgt := 17) d_In_has_13 rfl ?_
      exact aw_zret d_In_has_17 rfl rfl ⟨by first | rfl | rw [if_pos (by omega)] | rw [if_neg (by omega)], rfl, rfl⟩
set_option maxRecDepth 100000 in
theorem m_In_add {d : Nat} (hd : 0 ≤ d) {lo hi : Int} {c : Nat} (hlo : inR lo) (hhi : inR hi) (hc : mI μ 1 2 = (c : Int)) (h3 : c < 3) (hR : ∀ k j, mR μ k j = R0 pg k j) : AM G false d 0 0 y_In_add [aP 1, aI lo, aI hi] 94 μ (Qe (some (aI (c : Int))) 94 (wI (wI (wI μ 2 c lo) 3 c hi) 1 2 ((c : Int) + 1))) := by
  refine am_of (n := 0) pf_In_add (Nat.le_of_ble_eq_true rfl) (by intro v hv; simp only [List.mem_cons, List.not_mem_nil, or_false] at hv; rcases hv with rfl | rfl | rfl <;> first | trivial | assumption) rfl ?_
  refine aw_aload_n d_In_add_0 rfl rfl ?_
  refine aw_getR fd_In_low lk_In_9 (by omega) rfl d_In_add_1 (hR _ _) ?_
  refine aw_aload_n d_In_add_4 rfl rfl ?_
  refine aw_getI fd_In_count lk_In_18 (by omega) rfl d_In_add_5 ?_
  refine aw_tv (v' := (c : Int)) (show _ = (c : Int) from hc) ?_
  refine aw_iload_n d_In_add_8 rfl rfl ?_
  refine aw_iast (n := _) (by omega) rfl rfl (by omega) d_In_add_9 ?_
  refine aw_aload_n d_In_add_10 rfl rfl ?_
  refine aw_getR fd_In_high lk_In_15 (by omega) rfl d_In_add_11 (hR _ _) ?_
  refine aw_aload_n d_In_add_14 rfl rfl ?_
  refine aw_getI fd_In_count lk_In_18 (by omega) rfl d_In_add_15 ?_
  refine aw_tv (v' := (c : Int)) (show _ = (c : Int) from hc) ?_
  refine aw_iload_n d_In_add_18 rfl rfl ?_
  refine aw_pc (pc' := 19) rfl ?_
  refine aw_iast (n := _) (by omega) rfl rfl (by omega) d_In_add_19 ?_
  refine aw_aload_n d_In_add_20 rfl rfl ?_
  refine aw_dup d_In_add_21 rfl ?_
  refine aw_getI fd_In_count lk_In_18 (by omega) rfl d_In_add_22 ?_
  refine aw_tv (v' := (c : Int)) (show _ = (c : Int) from hc) ?_
  refine aw_iconst d_In_add_25 (in_c rfl) ?_
  refine aw_iadd d_In_add_26 (by unfold inR; omega) ?_
  refine aw_putI fd_In_count lk_In_18 (by omega) rfl d_In_add_27 (Or.inl rfl) ?_
  refine aw_aload_n d_In_add_30 rfl rfl ?_
  refine aw_getI fd_In_count lk_In_18 (by omega) rfl d_In_add_31 ?_
  refine aw_tv (v' := (c : Int) + 1) rfl ?_
  refine aw_iconst d_In_add_34 (in_c rfl) ?_
  refine aw_isub d_In_add_35 (by unfold inR; omega) ?_
  exact aw_iret d_In_add_36 rfl ⟨by rw [Int.add_sub_cancel], rfl, rfl⟩
set_option maxRecDepth 100000 in
theorem m_Co_isFull {d : Nat} (hd : 0 ≤ d)  : AM G false d 0 0 y_Co_isFull [aP 4] 94 μ (Qe (some (aI (if mI μ 4 4 = 8 then 1 else 0))) 94 μ) := by
  refine am_of (n := 0) pf_Co_isFull (Nat.le_of_ble_eq_true rfl) (by intro v hv; simp only [List.mem_cons, List.not_mem_nil, or_false] at hv; rcases hv with rfl <;> first | trivial | assumption) rfl ?_
  refine aw_aload_n d_Co_isFull_0 rfl rfl ?_
  refine aw_getI fd_Co_count lk_Co_24 (by omega) rfl d_Co_isFull_1 ?_
  refine aw_bipush (z := 8) d_Co_isFull_4 (in_c rfl) rfl ?_
  refine aw_icmp_ne (tgt := 13) d_Co_isFull_6 rfl (fun h6 => ?_) (fun h6 => ?_)
  · refine aw_iconst d_Co_isFull_13 (in_c rfl) ?_
    exact aw_zret d_Co_isFull_14 rfl rfl ⟨by first | rfl | rw [if_pos (by omega)] | rw [if_neg (by omega)], rfl, rfl⟩
  · refine aw_iconst d_Co_isFull_9 (in_c rfl) ?_
    refine aw_goto (tgt := 14) d_Co_isFull_10 rfl ?_
    exact aw_zret d_Co_isFull_14 rfl rfl ⟨by first | rfl | rw [if_pos (by omega)] | rw [if_neg (by omega)], rfl, rfl⟩
set_option maxRecDepth 100000 in
theorem m_Co_size {d : Nat} (hd : 0 ≤ d)  : AM G false d 0 0 y_Co_size [aP 4] 94 μ (Qe (some (aI (mI μ 4 4))) 94 μ) := by
  refine am_of (n := 0) pf_Co_size (Nat.le_of_ble_eq_true rfl) (by intro v hv; simp only [List.mem_cons, List.not_mem_nil, or_false] at hv; rcases hv with rfl <;> first | trivial | assumption) rfl ?_
  refine aw_aload_n d_Co_size_0 rfl rfl ?_
  refine aw_getI fd_Co_count lk_Co_24 (by omega) rfl d_Co_size_1 ?_
  exact aw_iret d_Co_size_4 rfl ⟨rfl, rfl, rfl⟩
set_option maxRecDepth 100000 in
theorem m_Co_add {d : Nat} (hd : 0 ≤ d) {kd a b k : Int} {c : Nat} (h1 : inR kd) (h2 : inR a) (h3 : inR b) (h4 : inR k) (hc : mI μ 4 4 = (c : Int)) (h8 : c < 8) (hR : ∀ k j, mR μ k j = R0 pg k j) : AM G false d 0 0 y_Co_add [aP 4, aI kd, aI a, aI b, aI k] 94 μ (Qe (some (aI (c : Int))) 94 (wI (wI (wI (wI (wI μ 5 c kd) 6 c a) 7 c b) 8 c k) 4 4 ((c : Int) + 1))) := by
  refine am_of (n := 0) pf_Co_add (Nat.le_of_ble_eq_true rfl) (by intro v hv; simp only [List.mem_cons, List.not_mem_nil, or_false] at hv; rcases hv with rfl | rfl | rfl | rfl | rfl <;> first | trivial | assumption) rfl ?_
  refine aw_aload_n d_Co_add_0 rfl rfl ?_
  refine aw_getR fd_Co_kinds lk_Co_9 (by omega) rfl d_Co_add_1 (hR _ _) ?_
  refine aw_aload_n d_Co_add_4 rfl rfl ?_
  refine aw_getI fd_Co_count lk_Co_24 (by omega) rfl d_Co_add_5 ?_
  refine aw_tv (v' := (c : Int)) (show _ = (c : Int) from hc) ?_
  refine aw_iload_n d_Co_add_8 rfl rfl ?_
  refine aw_iast (n := _) (by omega) rfl rfl (by omega) d_Co_add_9 ?_
  refine aw_aload_n d_Co_add_10 rfl rfl ?_
  refine aw_getR fd_Co_firsts lk_Co_15 (by omega) rfl d_Co_add_11 (hR _ _) ?_
  refine aw_aload_n d_Co_add_14 rfl rfl ?_
  refine aw_getI fd_Co_count lk_Co_24 (by omega) rfl d_Co_add_15 ?_
  refine aw_tv (v' := (c : Int)) (show _ = (c : Int) from hc) ?_
  refine aw_iload_n d_Co_add_18 rfl rfl ?_
  refine aw_pc (pc' := 19) rfl ?_
  refine aw_iast (n := _) (by omega) rfl rfl (by omega) d_Co_add_19 ?_
  refine aw_aload_n d_Co_add_20 rfl rfl ?_
  refine aw_getR fd_Co_seconds lk_Co_18 (by omega) rfl d_Co_add_21 (hR _ _) ?_
  refine aw_aload_n d_Co_add_24 rfl rfl ?_
  refine aw_getI fd_Co_count lk_Co_24 (by omega) rfl d_Co_add_25 ?_
  refine aw_tv (v' := (c : Int)) (show _ = (c : Int) from hc) ?_
  refine aw_iload_n d_Co_add_28 rfl rfl ?_
  refine aw_iast (n := _) (by omega) rfl rfl (by omega) d_Co_add_29 ?_
  refine aw_aload_n d_Co_add_30 rfl rfl ?_
  refine aw_getR fd_Co_limits lk_Co_21 (by omega) rfl d_Co_add_31 (hR _ _) ?_
  refine aw_aload_n d_Co_add_34 rfl rfl ?_
  refine aw_getI fd_Co_count lk_Co_24 (by omega) rfl d_Co_add_35 ?_
  refine aw_tv (v' := (c : Int)) (show _ = (c : Int) from hc) ?_
  refine aw_iload d_Co_add_38 rfl ?_
  refine aw_pc (pc' := 40) rfl ?_
  refine aw_iast (n := _) (by omega) rfl rfl (by omega) d_Co_add_40 ?_
  refine aw_aload_n d_Co_add_41 rfl rfl ?_
  refine aw_dup d_Co_add_42 rfl ?_
  refine aw_getI fd_Co_count lk_Co_24 (by omega) rfl d_Co_add_43 ?_
  refine aw_tv (v' := (c : Int)) (show _ = (c : Int) from hc) ?_
  refine aw_iconst d_Co_add_46 (in_c rfl) ?_
  refine aw_iadd d_Co_add_47 (by unfold inR; omega) ?_
  refine aw_putI fd_Co_count lk_Co_24 (by omega) rfl d_Co_add_48 (Or.inl rfl) ?_
  refine aw_aload_n d_Co_add_51 rfl rfl ?_
  refine aw_getI fd_Co_count lk_Co_24 (by omega) rfl d_Co_add_52 ?_
  refine aw_tv (v' := (c : Int) + 1) rfl ?_
  refine aw_iconst d_Co_add_55 (in_c rfl) ?_
  refine aw_isub d_Co_add_56 (by unfold inR; omega) ?_
  exact aw_iret d_Co_add_57 rfl ⟨by rw [Int.add_sub_cancel], rfl, rfl⟩
set_option maxRecDepth 100000 in
theorem m_Li_put {d : Nat} (hd : 0 ≤ d) {k : Nat} (hk : k + 1 < 94) (hq : shL[k]? = some (3 + 10, 0)) (hq1 : shL[k + 1]? = some (2, 40)) (hr : mR μ k 0 = some (k + 1)) {n : Nat} (hn : mI μ k 1 = (n : Int)) (h40 : n ≤ 40) {ch : Int} (hch : 0 ≤ ch ∧ ch < 65536) : AM G false d 0 0 y_Li_put [aP k, aI ch] 94 μ (Qe (some (aI (if n = 40 then 0 else 1))) 94 (if n = 40 then μ else wI (wI μ (k + 1) n ch) k 1 ((n : Int) + 1))) := by
  refine am_of (n := 0) pf_Li_put (Nat.le_of_ble_eq_true rfl) (by intro v hv; simp only [List.mem_cons, List.not_mem_nil, or_false] at hv; rcases hv with rfl | rfl; trivial; show inR ch; unfold inR; omega) rfl ?_
  refine aw_aload_n d_Li_put_0 rfl rfl ?_
  refine aw_getI fd_Li_count lk_Li_15 (by omega) hq d_Li_put_1 ?_
  refine aw_tv (v' := (n : Int)) hn ?_
  refine aw_bipush (z := 40) d_Li_put_4 (in_c rfl) rfl ?_
  refine aw_icmp_ne (tgt := 11) d_Li_put_6 rfl (fun h6 => ?_) (fun h6 => ?_)
  · refine aw_aload_n d_Li_put_11 rfl rfl ?_
    refine aw_getR fd_Li_characters lk_Li_9 (by omega) hq d_Li_put_12 hr ?_
    refine aw_aload_n d_Li_put_15 rfl rfl ?_
    refine aw_getI fd_Li_count lk_Li_15 (by omega) hq d_Li_put_16 ?_
    refine aw_tv (v' := (n : Int)) hn ?_
    refine aw_iload_n d_Li_put_19 rfl rfl ?_
    refine aw_cast (n := _) (by omega) hq1 rfl (by omega) (by omega) d_Li_put_20 ?_
    refine aw_aload_n d_Li_put_21 rfl rfl ?_
    refine aw_dup d_Li_put_22 rfl ?_
    refine aw_getI fd_Li_count lk_Li_15 (by omega) hq d_Li_put_23 ?_
    refine aw_tv (v' := (n : Int)) (by rw [mI_wI, if_neg (by omega)]; exact hn) ?_
    refine aw_iconst d_Li_put_26 (in_c rfl) ?_
    refine aw_iadd d_Li_put_27 (by unfold inR; omega) ?_
    refine aw_pc (pc' := 28) rfl ?_
    refine aw_putI fd_Li_count lk_Li_15 (by omega) hq d_Li_put_28 (Or.inl rfl) ?_
    refine aw_iconst d_Li_put_31 (in_c rfl) ?_
    exact aw_zret d_Li_put_32 rfl rfl ⟨by rw [if_neg (by omega)], rfl, by rw [if_neg (by omega)]⟩
  · refine aw_iconst d_Li_put_9 (in_c rfl) ?_
    exact aw_zret d_Li_put_10 rfl rfl ⟨by rw [if_pos (by omega)], rfl, by rw [if_pos (by omega)]⟩
set_option maxRecDepth 100000 in
theorem m_Li_clear {d : Nat} (hd : 0 ≤ d) {k : Nat} (hk : k + 1 < 94) (hq : shL[k]? = some (3 + 10, 0)) (hq1 : shL[k + 1]? = some (2, 40)) (hr : mR μ k 0 = some (k + 1)) : AM G false d 0 0 y_Li_clear [aP k] 94 μ (Qe (some (aI (mI μ k 1))) 94 (wI μ k 1 0)) := by
  refine am_of (n := 1) pf_Li_clear (Nat.le_of_ble_eq_true rfl) (by intro v hv; simp only [List.mem_cons, List.not_mem_nil, or_false] at hv; rcases hv with rfl <;> first | trivial | assumption) rfl ?_
  refine aw_aload_n d_Li_clear_0 rfl rfl ?_
  refine aw_getI fd_Li_count lk_Li_15 (by omega) hq d_Li_clear_1 ?_
  refine aw_istore_n (lst' := [_, _]) d_Li_clear_4 rfl (Nat.le_of_ble_eq_true rfl) rfl ?_
  refine aw_aload_n d_Li_clear_5 rfl rfl ?_
  refine aw_iconst d_Li_clear_6 (in_c rfl) ?_
  refine aw_putI fd_Li_count lk_Li_15 (by omega) hq d_Li_clear_7 (Or.inl rfl) ?_
  refine aw_iload_n d_Li_clear_10 rfl rfl ?_
  exact aw_iret d_Li_clear_11 rfl ⟨rfl, rfl, rfl⟩
set_option maxRecDepth 100000 in
theorem m_Li_size {d : Nat} (hd : 0 ≤ d) {k : Nat} (hk : k + 1 < 94) (hq : shL[k]? = some (3 + 10, 0)) (hq1 : shL[k + 1]? = some (2, 40)) (hr : mR μ k 0 = some (k + 1)) : AM G false d 0 0 y_Li_size [aP k] 94 μ (Qe (some (aI (mI μ k 1))) 94 μ) := by
  refine am_of (n := 0) pf_Li_size (Nat.le_of_ble_eq_true rfl) (by intro v hv; simp only [List.mem_cons, List.not_mem_nil, or_false] at hv; rcases hv with rfl <;> first | trivial | assumption) rfl ?_
  refine aw_aload_n d_Li_size_0 rfl rfl ?_
  refine aw_getI fd_Li_count lk_Li_15 (by omega) hq d_Li_size_1 ?_
  exact aw_iret d_Li_size_4 rfl ⟨rfl, rfl, rfl⟩
set_option maxRecDepth 100000 in
theorem m_Li_at {d : Nat} (hd : 0 ≤ d) {k : Nat} (hk : k + 1 < 94) (hq : shL[k]? = some (3 + 10, 0)) (hq1 : shL[k + 1]? = some (2, 40)) (hr : mR μ k 0 = some (k + 1)) {i : Int} (hi : inR i) (h40 : mI μ k 1 ≤ 40) (hch : ∀ j, 0 ≤ mI μ (k + 1) j ∧ mI μ (k + 1) j < 65536) : AM G false d 0 0 y_Li_at [aP k, aI i] 94 μ (Qe (some (aI (if 0 ≤ i ∧ i < mI μ k 1 then mI μ (k + 1) i.toNat else 32))) 94 μ) := by
  refine am_of (n := 0) pf_Li_at (Nat.le_of_ble_eq_true rfl) (by intro v hv; simp only [List.mem_cons, List.not_mem_nil, or_false] at hv; rcases hv with rfl | rfl <;> first | trivial | assumption) rfl ?_
  refine aw_iload_n d_Li_at_0 rfl rfl ?_
  refine aw_if_lt (tgt := 21) d_Li_at_1 rfl (fun h1 => ?_) (fun h1 => ?_)
  · refine aw_bipush (z := 32) d_Li_at_21 (in_c rfl) rfl ?_
    exact aw_zret d_Li_at_23 rfl (nr_c (by first | exact hch _ | omega)) ⟨by first | rw [if_pos (by omega)] | rw [if_neg (by omega)], rfl, rfl⟩
  · refine aw_iload_n d_Li_at_4 rfl rfl ?_
    refine aw_aload_n d_Li_at_5 rfl rfl ?_
    refine aw_getI fd_Li_count lk_Li_15 (by omega) hq d_Li_at_6 ?_
    refine aw_icmp_ge (tgt := 21) d_Li_at_9 rfl (fun h9 => ?_) (fun h9 => ?_)
    · refine aw_bipush (z := 32) d_Li_at_21 (in_c rfl) rfl ?_
      exact aw_zret d_Li_at_23 rfl (nr_c (by first | exact hch _ | omega)) ⟨by first | rw [if_pos (by omega)] | rw [if_neg (by omega)], rfl, rfl⟩
    · refine aw_aload_n d_Li_at_12 rfl rfl ?_
      refine aw_getR fd_Li_characters lk_Li_9 (by omega) hq d_Li_at_13 hr ?_
      refine aw_iload_n d_Li_at_16 rfl rfl ?_
      refine aw_cald (n := i.toNat) (by omega) hq1 (by omega) (by omega) d_Li_at_17 ?_
      refine aw_goto (tgt := 23) d_Li_at_18 rfl ?_
      exact aw_zret d_Li_at_23 rfl (nr_c (by first | exact hch _ | omega)) ⟨by first | rw [if_pos (by omega)] | rw [if_neg (by omega)], rfl, rfl⟩
set_option maxRecDepth 100000 in
theorem m_Rc_isFull {d : Nat} (hd : 0 ≤ d)  : AM G false d 0 0 y_Rc_isFull [aP 63] 94 μ (Qe (some (aI (if mI μ 63 1 = 12 then 1 else 0))) 94 μ) := by
  refine am_of (n := 0) pf_Rc_isFull (Nat.le_of_ble_eq_true rfl) (by intro v hv; simp only [List.mem_cons, List.not_mem_nil, or_false] at hv; rcases hv with rfl <;> first | trivial | assumption) rfl ?_
  refine aw_aload_n d_Rc_isFull_0 rfl rfl ?_
  refine aw_getI fd_Rc_count lk_Rc_15 (by omega) rfl d_Rc_isFull_1 ?_
  refine aw_bipush (z := 12) d_Rc_isFull_4 (in_c rfl) rfl ?_
  refine aw_icmp_ne (tgt := 13) d_Rc_isFull_6 rfl (fun h6 => ?_) (fun h6 => ?_)
  · refine aw_iconst d_Rc_isFull_13 (in_c rfl) ?_
    exact aw_zret d_Rc_isFull_14 rfl rfl ⟨by first | rfl | rw [if_pos (by omega)] | rw [if_neg (by omega)], rfl, rfl⟩
  · refine aw_iconst d_Rc_isFull_9 (in_c rfl) ?_
    refine aw_goto (tgt := 14) d_Rc_isFull_10 rfl ?_
    exact aw_zret d_Rc_isFull_14 rfl rfl ⟨by first | rfl | rw [if_pos (by omega)] | rw [if_neg (by omega)], rfl, rfl⟩
set_option maxRecDepth 100000 in
theorem m_Rc_clear {d : Nat} (hd : 0 ≤ d)  : AM G false d 0 0 y_Rc_clear [aP 63] 94 μ (Qe (some (aI (mI μ 63 1))) 94 (wI μ 63 1 0)) := by
  refine am_of (n := 1) pf_Rc_clear (Nat.le_of_ble_eq_true rfl) (by intro v hv; simp only [List.mem_cons, List.not_mem_nil, or_false] at hv; rcases hv with rfl <;> first | trivial | assumption) rfl ?_
  refine aw_aload_n d_Rc_clear_0 rfl rfl ?_
  refine aw_getI fd_Rc_count lk_Rc_15 (by omega) rfl d_Rc_clear_1 ?_
  refine aw_istore_n (lst' := [_, _]) d_Rc_clear_4 rfl (Nat.le_of_ble_eq_true rfl) rfl ?_
  refine aw_aload_n d_Rc_clear_5 rfl rfl ?_
  refine aw_iconst d_Rc_clear_6 (in_c rfl) ?_
  refine aw_putI fd_Rc_count lk_Rc_15 (by omega) rfl d_Rc_clear_7 (Or.inl rfl) ?_
  refine aw_iload_n d_Rc_clear_10 rfl rfl ?_
  exact aw_iret d_Rc_clear_11 rfl ⟨rfl, rfl, rfl⟩
set_option maxRecDepth 100000 in
theorem m_Su_wordAt {d : Nat} (hd : 0 ≤ d) {i : Int} (hi : inR i) (h12 : mI μ 59 1 ≤ 12) (hR : ∀ k j, mR μ k j = R0 pg k j) : AM G false d 0 0 y_Su_wordAt [aP 59, aI i] 94 μ (Qe (some (aI (if 0 ≤ i ∧ i < mI μ 59 1 then mI μ 60 i.toNat else -1))) 94 μ) := by
  refine am_of (n := 0) pf_Su_wordAt (Nat.le_of_ble_eq_true rfl) (by intro v hv; simp only [List.mem_cons, List.not_mem_nil, or_false] at hv; rcases hv with rfl | rfl <;> first | trivial | assumption) rfl ?_
  refine aw_iload_n d_Su_wordAt_0 rfl rfl ?_
  refine aw_if_lt (tgt := 21) d_Su_wordAt_1 rfl (fun h1 => ?_) (fun h1 => ?_)
  · refine aw_iconst d_Su_wordAt_21 (in_c rfl) ?_
    exact aw_iret d_Su_wordAt_22 rfl ⟨by first | rw [if_pos (by omega)] | rw [if_neg (by omega)], rfl, rfl⟩
  · refine aw_iload_n d_Su_wordAt_4 rfl rfl ?_
    refine aw_aload_n d_Su_wordAt_5 rfl rfl ?_
    refine aw_getI fd_Su_count lk_Su_15 (by omega) rfl d_Su_wordAt_6 ?_
    refine aw_icmp_ge (tgt := 21) d_Su_wordAt_9 rfl (fun h9 => ?_) (fun h9 => ?_)
    · refine aw_iconst d_Su_wordAt_21 (in_c rfl) ?_
      exact aw_iret d_Su_wordAt_22 rfl ⟨by first | rw [if_pos (by omega)] | rw [if_neg (by omega)], rfl, rfl⟩
    · refine aw_aload_n d_Su_wordAt_12 rfl rfl ?_
      refine aw_getR fd_Su_words lk_Su_9 (by omega) rfl d_Su_wordAt_13 (hR _ _) ?_
      refine aw_iload_n d_Su_wordAt_16 rfl rfl ?_
      refine aw_iald (n := i.toNat) (by omega) rfl (by omega) (by omega) d_Su_wordAt_17 ?_
      refine aw_goto (tgt := 22) d_Su_wordAt_18 rfl ?_
      exact aw_iret d_Su_wordAt_22 rfl ⟨by first | rw [if_pos (by omega)] | rw [if_neg (by omega)], rfl, rfl⟩
end
