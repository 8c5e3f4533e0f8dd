/-! references in arrays, constants, comparisons of longs -/
section
variable {G : aG} {x : Bool} {y : aY} {d bc bs : Nat} {Q : aQ → Nat → aM → Prop} {pc : Nat} {lst : List (Option aV)} {st : List aV} {nn : Nat} {μ : aM}
theorem aw_lcmp {a b : BitVec 64} (hd : decode y.2.1 pc = .ok (.lcmp, 1)) (k : ∀ z : Int, (z = 0 ↔ a = b) → AW G x y d bc bs Q (pc + 1) lst (aI z :: st) nn μ) : AW G x y d bc bs Q pc lst (aL b :: aL a :: st) nn μ := by
  intro p e R s m args below meth c H locs cells slots ls hC hH hL hs h1 h2 h3 h4
  refine W.lcmp hC.1 hC.2.1 hd ?_
  have hr : inR (lg_cmp (Int64.ofBitVec a) (Int64.ofBitVec b)).toInt := by
    have h1 := (lg_cmp (Int64.ofBitVec a) (Int64.ofBitVec b)).toInt_lt
    have h2 := (lg_cmp (Int64.ofBitVec a) (Int64.ofBitVec b)).le_toInt
    unfold inR; omega
  have hk := k (lg_cmp (Int64.ofBitVec a) (Int64.ofBitVec b)).toInt ⟨fun h => ?_, fun h => ?_⟩ p e R s m args below meth c H locs cells slots ls hC hH hL (ok_ki hr (ok_s (ok_s hs))) h1 h2 h3 h4
  · have e1 : cv G (aI (lg_cmp (Int64.ofBitVec a) (Int64.ofBitVec b)).toInt) = .int (lg_cmp (Int64.ofBitVec a) (Int64.ofBitVec b)) := by
      show Value.int (Int32.ofInt _) = _
      rw [Int32.ofInt_toInt]
    rw [List.map_cons, e1] at hk
    exact hk
  · have h0 : lg_cmp (Int64.ofBitVec a) (Int64.ofBitVec b) = 0 := Int32.toInt.inj (by rw [h]; rfl)
    have := (lg_cmp_eq _ _).mp h0
    exact congrArg Int64.toBitVec this
  · subst h
    rw [(lg_cmp_eq _ _).mpr rfl]; rfl
theorem aw_ldc {idx : Nat} {v : Int32} {z : Int} (hc : Cond.constant y.1.cls idx v ∈ TB) (hz : Int32.ofInt z = v) (hr : inR z) (hd : decode y.2.1 pc = .ok (.ldc idx, 2)) (k : AW G x y d bc bs Q (pc + 2) lst (aI z :: st) nn μ) : AW G x y d bc bs Q pc lst st nn μ := by
  subst hz
  exact fun p e R s m args below meth c H locs cells slots ls hC hH hL hs h1 h2 h3 h4 => lv_ldc hC.1 hC.2.1 hC.own (hC.tb _ hc) hd (k p e R s m args below meth c H locs cells slots ls hC hH hL (ok_ki hr hs) h1 h2 h3 h4)
theorem aw_ldc2 {idx : Nat} {v : Int64} {b : BitVec 64} (hc : Cond.constantLong y.1.cls idx v ∈ TB) (hz : Int64.ofBitVec b = v) (hd : decode y.2.1 pc = .ok (.ldc2_w idx, 3)) (k : AW G x y d bc bs Q (pc + 3) lst (aL b :: st) nn μ) : AW G x y d bc bs Q pc lst st nn μ := by
  subst hz
  exact fun p e R s m args below meth c H locs cells slots ls hC hH hL hs h1 h2 h3 h4 => lv_ldc2 hC.1 hC.2.1 hC.own (hC.tb _ hc) hd (k p e R s m args below meth c H locs cells slots ls hC hH hL (ok_kr hs) h1 h2 h3 h4)
theorem aw_aald {k len n a : Nat} {i : Int} (hk : k < nn) (hq : shL[k]? = some (4, len)) (hi : i = (n : Int)) (hn : n < len) (ha : mR μ k n = some a) (hd : decode y.2.1 pc = .ok (.aaload, 1)) (kk : AW G x y d bc bs Q (pc + 1) lst (aP a :: st) nn μ) : AW G x y d bc bs Q pc lst (aI i :: aP k :: st) nn μ := by
  subst hi
  intro p e R s m args below meth c0 H locs cells slots ls hC hH hL hs h1 h2 h3 h4
  have hw := wld_at (G := G) (σ := (nn, μ)) hk hq
  rw [kE_4] at hw
  have hac : cv G (aP k) = .ref (gb G + k) := by show Value.ref (adr G k) = _; rw [adr_sh hq]
  rw [List.map_cons, List.map_cons, hac]
  have hr : inR (n : Int) := ok_h hs
  refine va_aldq hC.1 hC.2.1 hC.kx.2.1 hH.1.1 k 4 hw rfl (n_in hr (by omega) (by omega)) hd ?_
  rw [n_cl hr, Int.toNat_natCast]
  have e1 : (μ.2.2 k n).map (adr G) = some (adr G a) := by
    have : μ.2.2 k n = some a := ha
    rw [this]; rfl
  show W p (gl G) e R s m args below meth c0 H locs cells slots _ (F0 m (pc + 1) ls (va_rf ((μ.2.2 k n).map (adr G)) :: st.map (cv G)))
  rw [e1]
  exact kk p e R s m args below meth c0 H locs cells slots ls hC hH hL (ok_kr (ok_s (ok_s hs))) h1 h2 h3 h4
theorem aw_aald5 {k len n a : Nat} {i : Int} (hk : k < nn) (hq : shL[k]? = some (5, len)) (hi : i = (n : Int)) (hn : n < len) (ha : mR μ k n = some a) (hd : decode y.2.1 pc = .ok (.aaload, 1)) (kk : AW G x y d bc bs Q (pc + 1) lst (aP a :: st) nn μ) : AW G x y d bc bs Q pc lst (aI i :: aP k :: st) nn μ := by
  subst hi
  intro p e R s m args below meth c0 H locs cells slots ls hC hH hL hs h1 h2 h3 h4
  have hw := wld_at (G := G) (σ := (nn, μ)) hk hq
  rw [kE_5] at hw
  have hac : cv G (aP k) = .ref (gb G + k) := by show Value.ref (adr G k) = _; rw [adr_sh hq]
  rw [List.map_cons, List.map_cons, hac]
  have hr : inR (n : Int) := ok_h hs
  have hcell := hH.1.1 k _ hw
  have hv : μ.2.2 k n = some a := ha
  refine W.aald (v := .ref (adr G a)) hC.1 hC.2.1 hcell ((hC.kx.2.1.2 5 _ rfl).1 len (fun j => va_rf ((μ.2.2 k j).map (adr G)))) rfl (fun q => by cases q) (by show ¬ (_ ∨ (arrV _ _ _).slots.size ≤ _); rw [arrV_size]; exact n_in (n := len) hr (by omega) (by omega)) ?_ rfl rfl hd
    (kk p e R s m args below meth c0 H locs cells slots ls hC hH hL (ok_kr (ok_s (ok_s hs))) h1 h2 h3 h4)
  rw [n_cl hr, Int.toNat_natCast]
  show (arrV (gt G 5) len (fun j => va_rf ((μ.2.2 k j).map (adr G)))).slots[n]? = _
  rw [arrV_read (gt G 5) _ hn, hv]
  rfl
theorem aw_aast {k len n a ci len' : Nat} {i : Int} (hk : k < nn) (hq : shL[k]? = some (4, len)) (ha : a < nn) (hqa : shL[a]? = some (ci + 10, len')) (hci : (cls0[ci]?).map (fun q => q.1) = some "MaskedCauses$Decision") (hi : i = (n : Int)) (hn : n < len) (hd : decode y.2.1 pc = .ok (.aastore, 1))
    (kk : AW G x y d bc bs Q (pc + 1) lst st nn (wR μ k n (some a))) : AW G x y d bc bs Q pc lst (aP a :: aI i :: aP k :: st) nn μ := by
  subst hi
  intro p e R s m args below meth c0 H locs cells slots ls hC hH hL hs h1 h2 h3 h4
  have hw := wld_at (G := G) (σ := (nn, μ)) hk hq
  rw [kE_4] at hw
  have hwa := wld_at (G := G) (σ := (nn, μ)) ha hqa
  rw [kE_o] at hwa
  have hac : cv G (aP k) = .ref (gb G + k) := by show Value.ref (adr G k) = _; rw [adr_sh hq]
  have haa : cv G (aP a) = .ref (gb G + a) := by show Value.ref (adr G a) = _; rw [adr_sh hqa]
  rw [List.map_cons, List.map_cons, List.map_cons, hac, haa]
  have hr : inR (n : Int) := ok_h (ok_s hs)
  cases hcl : cls0[ci]? with
  | none => rw [hcl] at hci; cases hci
  | some r =>
    rw [hcl] at hci
    have hr1 : r.1 = "MaskedCauses$Decision" := Option.some.inj hci
    refine va_astq hC.1 hC.2.1 hC.kx.2.1 hH.1.1 (wld_D G _) hH.2 k 4 a ci hw (r := r) (by rw [hr1]; rfl) hwa hcl (n_in hr (by omega) (by omega)) hd fun H1 locs1 hP1 _ hS1 => ?_
    rw [n_cl hr, Int.toNat_natCast] at hP1
    have he : (Sum.inl (gt G 4, len, Sum.inr (Sum.inr (Sum.inr (Sum.inr (va_up (fun i => (μ.2.2 k i).map (adr G)) n (some (gb G + a))))))) : va_E) = kE G (wR μ k n (some a)) k (4, len) := by
      rw [kE_4]
      congr 8
      funext q
      by_cases hq1 : q = n
      · simp [va_up, wR, hq1, adr_sh hqa]
      · simp [va_up, wR, hq1]
    rw [he, wld_set hk hq (wR_off μ k n (some a))] at hP1
    exact kk p e R s m args below meth c0 H1 locs1 cells slots ls hC ⟨⟨hP1, hH.1.2.1, hH.1.2.2⟩, hS1⟩ hL (ok_s (ok_s (ok_s hs))) h1 h2 h3 h4
end
