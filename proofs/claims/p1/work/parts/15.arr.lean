section
theorem nar_c {z : Int} (h : 0 ≤ z ∧ z < 65536) : vp_nar .char (Int32.ofInt z) = Int32.ofInt z := by
  obtain ⟨n, rfl⟩ : ∃ n : Nat, z = (n : Int) := ⟨z.toNat, by omega⟩
  have hn : n < 65536 := by omega
  rw [Int32.ofInt_eq_ofNat]
  have := (pk_charN hn).1
  show (match narrow .char (.int (nI n)) with | .int y => y | _ => 0) = nI n
  rw [this]
theorem nar_z {z : Int} (h : z = 0 ∨ z = 1) : vp_nar .boolean (Int32.ofInt z) = Int32.ofInt z := by
  rcases h with rfl | rfl <;> rfl
end
section
variable {G : aG} {x : Bool} {y : aY} {d bc bs : Nat} {Q : aQ → Nat → aM → Prop} {pc : Nat} {lst : List (Option aV)} {st : List aV} {nn : Nat} {μ : aM}
theorem aw_iald {k len n : Nat} {i : Int} (hk : k < nn) (hq : shL[k]? = some (0, len)) (hi : i = (n : Int)) (hn : n < len) (hd : decode y.2.1 pc = .ok (.iaload, 1)) (kk : AW G x y d bc bs Q (pc + 1) lst (aI (mI μ k n) :: st) nn μ) : AW G x y d bc bs Q pc lst (aI i :: aP k :: st) nn μ := by
  subst hi
  intro p e R s m args below meth c0 H locs cells slots ls hC hH hL hs h1 h2 h3 h4
  have hw := wld_at (G := G) (σ := (nn, μ)) hk hq
  rw [kE_0] at hw
  have ha : cv G (aP k) = .ref (gb G + k) := by show Value.ref (adr G k) = _; rw [adr_sh hq]
  rw [List.map_cons, List.map_cons, ha]
  have hr : inR (n : Int) := ok_h hs
  refine va_iald hC.1 hC.2.1 hC.kx.2.1 hH.1.1 k 0 hw rfl (n_in hr (by omega) (by omega)) hd ?_
  rw [n_cl hr, Int.toNat_natCast]
  exact kk p e R s m args below meth c0 H locs cells slots ls hC hH hL (ok_k (hH.1.2.2 k n) (ok_s (ok_s hs))) h1 h2 h3 h4
theorem aw_cald {k len n : Nat} {i : Int} (hk : k < nn) (hq : shL[k]? = some (2, len)) (hi : i = (n : Int)) (hn : n < len) (hd : decode y.2.1 pc = .ok (.caload, 1)) (kk : AW G x y d bc bs Q (pc + 1) lst (aI (mI μ k n) :: st) nn μ) : AW G x y d bc bs Q pc lst (aI i :: aP k :: st) nn μ := by
  subst hi
  intro p e R s m args below meth c0 H locs cells slots ls hC hH hL hs h1 h2 h3 h4
  have hw := wld_at (G := G) (σ := (nn, μ)) hk hq
  rw [kE_2] at hw
  have ha : cv G (aP k) = .ref (gb G + k) := by show Value.ref (adr G k) = _; rw [adr_sh hq]
  rw [List.map_cons, List.map_cons, ha]
  have hr : inR (n : Int) := ok_h hs
  refine va_cald hC.1 hC.2.1 hC.kx.2.1 hH.1.1 k 2 hw rfl (n_in hr (by omega) (by omega)) hd ?_
  rw [n_cl hr, Int.toNat_natCast]
  exact kk p e R s m args below meth c0 H locs cells slots ls hC hH hL (ok_k (hH.1.2.2 k n) (ok_s (ok_s hs))) h1 h2 h3 h4
theorem aw_zald {k len n : Nat} {i : Int} (hk : k < nn) (hq : shL[k]? = some (3, len)) (hi : i = (n : Int)) (hn : n < len) (hd : decode y.2.1 pc = .ok (.baload, 1)) (kk : AW G x y d bc bs Q (pc + 1) lst (aI (mI μ k n) :: st) nn μ) : AW G x y d bc bs Q pc lst (aI i :: aP k :: st) nn μ := by
  subst hi
  intro p e R s m args below meth c0 H locs cells slots ls hC hH hL hs h1 h2 h3 h4
  have hw := wld_at (G := G) (σ := (nn, μ)) hk hq
  rw [kE_3] at hw
  have ha : cv G (aP k) = .ref (gb G + k) := by show Value.ref (adr G k) = _; rw [adr_sh hq]
  rw [List.map_cons, List.map_cons, ha]
  have hr : inR (n : Int) := ok_h hs
  refine va_zald hC.1 hC.2.1 hC.kx.2.1 hH.1.1 k 3 hw rfl (n_in hr (by omega) (by omega)) hd ?_
  rw [n_cl hr, Int.toNat_natCast]
  exact kk p e R s m args below meth c0 H locs cells slots ls hC hH hL (ok_k (hH.1.2.2 k n) (ok_s (ok_s hs))) h1 h2 h3 h4
theorem aw_lald {k len n : Nat} {i : Int} (hk : k < nn) (hq : shL[k]? = some (1, len)) (hi : i = (n : Int)) (hn : n < len) (hd : decode y.2.1 pc = .ok (.laload, 1)) (kk : AW G x y d bc bs Q (pc + 1) lst (aL (mL μ k n) :: st) nn μ) : AW G x y d bc bs Q pc lst (aI i :: aP k :: st) nn μ := by
  subst hi
  intro p e R s m args below meth c0 H locs cells slots ls hC hH hL hs h1 h2 h3 h4
  have hw := wld_at (G := G) (σ := (nn, μ)) hk hq
  rw [kE_1] at hw
  have ha : cv G (aP k) = .ref (gb G + k) := by show Value.ref (adr G k) = _; rw [adr_sh hq]
  rw [List.map_cons, List.map_cons, ha]
  have hr : inR (n : Int) := ok_h hs
  refine va_lald hC.1 hC.2.1 hC.kx.2.1 hH.1.1 k 1 hw rfl (n_in hr (by omega) (by omega)) hd ?_
  rw [n_cl hr, Int.toNat_natCast]
  exact kk p e R s m args below meth c0 H locs cells slots ls hC hH hL (ok_kr (ok_s (ok_s hs))) h1 h2 h3 h4
theorem aw_iast {k len n : Nat} {i z : Int} (hk : k < nn) (hq : shL[k]? = some (0, len)) (hi : i = (n : Int)) (hn : n < len) (hd : decode y.2.1 pc = .ok (.iastore, 1)) (kk : AW G x y d bc bs Q (pc + 1) lst st nn (wI μ k n z)) : AW G x y d bc bs Q pc lst (aI z :: aI i :: aP k :: st) nn μ := by
  subst hi
  intro p e R s m args below meth c0 H locs cells slots ls hC hH hL hs h1 h2 h3 h4
  have hw := wld_at (G := G) (σ := (nn, μ)) hk hq
  rw [kE_0] at hw
  have ha : cv G (aP k) = .ref (gb G + k) := by show Value.ref (adr G k) = _; rw [adr_sh hq]
  rw [List.map_cons, List.map_cons, List.map_cons, ha]
  have hr : inR (n : Int) := ok_h (ok_s hs)
  refine va_iast hC.1 hC.2.1 hC.kx.2.1 hH.1.1 (wld_D G _) hH.2 k 0 hw rfl (n_in hr (by omega) (by omega)) hd fun H1 locs1 hP1 _ hS1 => ?_
  rw [n_cl hr, Int.toNat_natCast] at hP1
  have he : (Sum.inl (gt G 0, len, Sum.inl (upd (fun i => Int32.ofInt (μ.1 k i)) n (Int32.ofInt z))) : va_E) = kE G (wI μ k n z) k (0, len) := by
    rw [kE_0]
    congr 4
    funext q
    by_cases hq : q = n
    · simp [upd, wI, hq]
    · simp [upd, wI, hq]
  rw [he, wld_set hk hq (wI_off μ k n z)] at hP1
  exact kk p e R s m args below meth c0 H1 locs1 cells slots ls hC ⟨⟨hP1, hH.1.2.1, rI_ok hH.1.2.2 (ok_h hs)⟩, hS1⟩ hL (ok_s (ok_s (ok_s hs))) h1 h2 h3 h4
theorem aw_cast {k len n : Nat} {i z : Int} (hk : k < nn) (hq : shL[k]? = some (2, len)) (hi : i = (n : Int)) (hn : n < len) (hz : 0 ≤ z ∧ z < 65536) (hd : decode y.2.1 pc = .ok (.castore, 1)) (kk : AW G x y d bc bs Q (pc + 1) lst st nn (wI μ k n z)) : AW G x y d bc bs Q pc lst (aI z :: aI i :: aP k :: st) nn μ := by
  subst hi
  intro p e R s m args below meth c0 H locs cells slots ls hC hH hL hs h1 h2 h3 h4
  have hw := wld_at (G := G) (σ := (nn, μ)) hk hq
  rw [kE_2] at hw
  have ha : cv G (aP k) = .ref (gb G + k) := by show Value.ref (adr G k) = _; rw [adr_sh hq]
  rw [List.map_cons, List.map_cons, List.map_cons, ha]
  have hr : inR (n : Int) := ok_h (ok_s hs)
  refine va_cast hC.1 hC.2.1 hC.kx.2.1 hH.1.1 (wld_D G _) hH.2 k 2 hw rfl (n_in hr (by omega) (by omega)) hd fun H1 locs1 hP1 _ hS1 => ?_
  rw [n_cl hr, Int.toNat_natCast] at hP1
  have he : (Sum.inl (gt G 2, len, Sum.inl (upd (fun i => Int32.ofInt (μ.1 k i)) n (vp_nar .char (Int32.ofInt z)))) : va_E) = kE G (wI μ k n z) k (2, len) := by
    rw [kE_2]
    congr 4
    funext q
    rw [nar_c hz]
    by_cases hq : q = n
    · simp [upd, wI, hq]
    · simp [upd, wI, hq]
  rw [he, wld_set hk hq (wI_off μ k n z)] at hP1
  exact kk p e R s m args below meth c0 H1 locs1 cells slots ls hC ⟨⟨hP1, hH.1.2.1, rI_ok hH.1.2.2 (ok_h hs)⟩, hS1⟩ hL (ok_s (ok_s (ok_s hs))) h1 h2 h3 h4
theorem aw_zast {k len n : Nat} {i z : Int} (hk : k < nn) (hq : shL[k]? = some (3, len)) (hi : i = (n : Int)) (hn : n < len) (hz : z = 0 ∨ z = 1) (hd : decode y.2.1 pc = .ok (.bastore, 1)) (kk : AW G x y d bc bs Q (pc + 1) lst st nn (wI μ k n z)) : AW G x y d bc bs Q pc lst (aI z :: aI i :: aP k :: st) nn μ := by
  subst hi
  intro p e R s m args below meth c0 H locs cells slots ls hC hH hL hs h1 h2 h3 h4
  have hw := wld_at (G := G) (σ := (nn, μ)) hk hq
  rw [kE_3] at hw
  have ha : cv G (aP k) = .ref (gb G + k) := by show Value.ref (adr G k) = _; rw [adr_sh hq]
  rw [List.map_cons, List.map_cons, List.map_cons, ha]
  have hr : inR (n : Int) := ok_h (ok_s hs)
  refine va_zast hC.1 hC.2.1 hC.kx.2.1 hH.1.1 (wld_D G _) hH.2 k 3 hw rfl (n_in hr (by omega) (by omega)) hd fun H1 locs1 hP1 _ hS1 => ?_
  rw [n_cl hr, Int.toNat_natCast] at hP1
  have he : (Sum.inl (gt G 3, len, Sum.inl (upd (fun i => Int32.ofInt (μ.1 k i)) n (vp_nar .boolean (Int32.ofInt z)))) : va_E) = kE G (wI μ k n z) k (3, len) := by
    rw [kE_3]
    congr 4
    funext q
    rw [nar_z hz]
    by_cases hq : q = n
    · simp [upd, wI, hq]
    · simp [upd, wI, hq]
  rw [he, wld_set hk hq (wI_off μ k n z)] at hP1
  exact kk p e R s m args below meth c0 H1 locs1 cells slots ls hC ⟨⟨hP1, hH.1.2.1, rI_ok hH.1.2.2 (ok_h hs)⟩, hS1⟩ hL (ok_s (ok_s (ok_s hs))) h1 h2 h3 h4
theorem aw_last {k len n : Nat} {i : Int} {z : BitVec 64} (hk : k < nn) (hq : shL[k]? = some (1, len)) (hi : i = (n : Int)) (hn : n < len) (hd : decode y.2.1 pc = .ok (.lastore, 1)) (kk : AW G x y d bc bs Q (pc + 1) lst st nn (wL μ k n z)) : AW G x y d bc bs Q pc lst (aL z :: aI i :: aP k :: st) nn μ := by
  subst hi
  intro p e R s m args below meth c0 H locs cells slots ls hC hH hL hs h1 h2 h3 h4
  have hw := wld_at (G := G) (σ := (nn, μ)) hk hq
  rw [kE_1] at hw
  have ha : cv G (aP k) = .ref (gb G + k) := by show Value.ref (adr G k) = _; rw [adr_sh hq]
  rw [List.map_cons, List.map_cons, List.map_cons, ha]
  have hr : inR (n : Int) := ok_h (ok_s hs)
  refine va_last hC.1 hC.2.1 hC.kx.2.1 hH.1.1 (wld_D G _) hH.2 k 1 hw rfl (n_in hr (by omega) (by omega)) hd fun H1 locs1 hP1 _ hS1 => ?_
  rw [n_cl hr, Int.toNat_natCast] at hP1
  have he : (Sum.inl (gt G 1, len, Sum.inr (Sum.inl (vp_updL (fun i => Int64.ofBitVec (μ.2.1 k i)) n (Int64.ofBitVec z)))) : va_E) = kE G (wL μ k n z) k (1, len) := by
    rw [kE_1]
    congr 5
    funext q
    by_cases hq : q = n
    · simp [vp_updL, wL, hq]
    · simp [vp_updL, wL, hq]
  rw [he, wld_set hk hq (wL_off μ k n z)] at hP1
  exact kk p e R s m args below meth c0 H1 locs1 cells slots ls hC ⟨⟨hP1, hH.1.2.1, hH.1.2.2⟩, hS1⟩ hL (ok_s (ok_s (ok_s hs))) h1 h2 h3 h4
end
