/-! fields and arrays -/
section
theorem CX.tb {G : aG} {y : aY} {p : Program} {s : State} {m : MethodId} {args : Array Value} {meth : Method} {c : Code} (h : CX G y p s m args meth c) : ∀ w ∈ TB, w.before args s = true := h.2.2.2.2.2.2.2.2.1
theorem CX.kx {G : aG} {y : aY} {p : Program} {s : State} {m : MethodId} {args : Array Value} {meth : Method} {c : Code} (h : CX G y p s m args meth c) : KX G s := h.2.2.2.2.2.2.2.2.2
theorem CX.own {G : aG} {y : aY} {p : Program} {s : State} {m : MethodId} {args : Array Value} {meth : Method} {c : Code} (h : CX G y p s m args meth c) : s.vm.findClass y.1.cls = some m.cls := h.2.2.2.2.1
def tyK (t : Nat) (ty : FieldType) : Prop := (t = 0 ∧ ty = .int) ∨ (t = 1 ∧ ty = .long) ∨ (t = 2 ∧ ((∃ n, ty = .object n) ∨ ∃ t', ty = .array t'))
def FD (c j t : Nat) (C nm ds : String) (fin : Bool) : Prop := ∃ (T : u_T) (N : Nat) (ty0 : Nat → FieldType), cls0[c]? = some (C, T, N) ∧ (∀ w ∈ u_ws C T N, w ∈ TB) ∧ (∀ k, k < N → parseFieldDescriptor (T k).2.2.1 = some (ty0 k)) ∧
  (∀ a, a < N → ∀ b, b < N → a ≠ b → (T a).2.1 ≠ (T b).2.1) ∧ j < N ∧ T j = (C, nm, ds, fin) ∧ (fkL c)[j]? = some t ∧ tyK t (ty0 j) ∧ (fkL c).length = N
def LK (own : String) (idx : Nat) (C nm ds : String) : Prop := Cond.fieldLink own idx C nm ds ∈ TB ∨ ∃ host, Cond.fieldLinkNest own idx C nm ds host ∈ NW
theorem kE_o (G : aG) (μ : aM) (k c len : Nat) : kE G μ k (c + 10, len) = .inr (c, (fkL c).mapIdx (fun j t => cv G (fval μ k j t))) := by
  simp only [kE]
  rw [if_neg (by omega), if_neg (by omega), if_neg (by omega)]
  rw [Nat.add_sub_cancel]
theorem kE_0 (G : aG) (μ : aM) (k len : Nat) : kE G μ k (0, len) = .inl (gt G 0, len, .inl (fun i => Int32.ofInt (μ.1 k i))) := rfl
theorem kE_1 (G : aG) (μ : aM) (k len : Nat) : kE G μ k (1, len) = .inl (gt G 1, len, .inr (.inl (fun i => Int64.ofBitVec (μ.2.1 k i)))) := rfl
theorem kE_2 (G : aG) (μ : aM) (k len : Nat) : kE G μ k (2, len) = .inl (gt G 2, len, .inl (fun i => Int32.ofInt (μ.1 k i))) := rfl
theorem kE_3 (G : aG) (μ : aM) (k len : Nat) : kE G μ k (3, len) = .inl (gt G 3, len, .inl (fun i => Int32.ofInt (μ.1 k i))) := rfl
theorem kE_4 (G : aG) (μ : aM) (k len : Nat) : kE G μ k (4, len) = .inl (gt G 4, len, .inr (.inr (.inr (.inr (fun i => (μ.2.2 k i).map (adr G)))))) := rfl
theorem kE_5 (G : aG) (μ : aM) (k len : Nat) : kE G μ k (5, len) = .inl (gt G 5, len, .inr (.inr (.inr (.inr (fun i => (μ.2.2 k i).map (adr G)))))) := rfl
theorem ok_f {μ : aM} (h : ∀ k i, inR (μ.1 k i)) (k j t : Nat) : okv (fval μ k j t) := by
  unfold fval
  split
  · exact h k j
  · split <;> exact trivial
theorem adr_sh {G : aG} {k : Nat} {q : Nat × Nat} (hq : shL[k]? = some q) : adr G k = gb G + k := by
  have h1 := (List.getElem?_eq_some_iff.mp hq).1
  have h2 := shL_len
  unfold adr
  rw [if_pos (by omega)]
theorem nf_k {G : aG} {t : Nat} {ty : FieldType} {v : aV} (h : tyK t ty) (hv : (t = 0 ∧ ∃ z, v = aI z) ∨ (t = 1 ∧ ∃ b, v = aL b) ∨ (t = 2 ∧ ∃ o, v = aR o)) : narrow ty (cv G v) = cv G v ∧ fits ty (cv G v) = true := by
  rcases h with ⟨rfl, rfl⟩ | ⟨rfl, rfl⟩ | ⟨rfl, ⟨n, rfl⟩ | ⟨t', rfl⟩⟩ <;> rcases hv with ⟨h, z, rfl⟩ | ⟨h, z, rfl⟩ | ⟨h, _ | z, rfl⟩ <;> first | (exfalso; omega) | exact ⟨rfl, rfl⟩
variable {G : aG} {x : Bool} {y : aY} {d bc bs : Nat} {Q : aQ → Nat → aM → Prop} {pc : Nat} {lst : List (Option aV)} {st : List aV} {nn : Nat} {μ : aM}
theorem aw_get {k j t c len idx : Nat} {C nm ds : String} {fin : Bool} (F : FD c j t C nm ds fin) (L : LK y.1.cls idx C nm ds) (hk : k < nn) (hq : shL[k]? = some (c + 10, len)) (hd : decode y.2.1 pc = .ok (.getfield idx, 3))
    (kk : AW G x y d bc bs Q (pc + 3) lst (fval μ k j t :: st) nn μ) : AW G x y d bc bs Q pc lst (aP k :: st) nn μ := by
  intro p e R s m args below meth c0 H locs cells slots ls hC hH hL hs h1 h2 h3 h4
  obtain ⟨T, N, ty0, hc, hin, hty, hnm, hj, hT, hf, htk, hlen⟩ := F
  have hw := wld_at (G := G) (σ := (nn, μ)) hk hq
  rw [kE_o] at hw
  have hv : ((fkL c).mapIdx (fun j t => cv G (fval μ k j t)))[j]? = some (cv G (fval μ k j t)) := by rw [List.getElem?_mapIdx, hf]; rfl
  have kk' := kk p e R s m args below meth c0 H locs cells slots ls hC hH hL (ok_k (ok_f hH.1.2.2 k j t) (ok_s hs)) h1 h2 h3 h4
  have hT0 : (T j).1 = C := by rw [hT]
  have hT1 : (T j).2.1 = nm := by rw [hT]
  have hT2 : (T j).2.2.1 = ds := by rw [hT]
  have ha : cv G (aP k) = .ref (gb G + k) := by show Value.ref (adr G k) = _; rw [adr_sh hq]
  rw [List.map_cons, ha]
  rcases L with L | ⟨host, L⟩
  · exact va_get (own := y.1.cls) (ref := C) hC.1 hC.2.1 hC.tb hin hC.own hC.kx.2.1 hH.1.1 k hw hc j hj (by rw [hT1, hT2]; exact hC.tb _ L) (fun z hz => by rw [hT0] at hz; exact hz) hv hd kk'
  · exact va_getN (own := y.1.cls) (ref := C) (host := host) hC.1 hC.2.1 hC.tb hin hC.own hC.kx.2.1 hH.1.1 k hw hc j hj (by rw [hT1, hT2]; exact va_Nw.use rfl (hC.kx.1 _ L)) (fun z hz => by rw [hT0] at hz; exact hz) hv hd kk'
theorem aw_getI {k j c len idx : Nat} {C nm ds : String} {fin : Bool} (F : FD c j 0 C nm ds fin) (L : LK y.1.cls idx C nm ds) (hk : k < nn) (hq : shL[k]? = some (c + 10, len)) (hd : decode y.2.1 pc = .ok (.getfield idx, 3))
    (kk : AW G x y d bc bs Q (pc + 3) lst (aI (mI μ k j) :: st) nn μ) : AW G x y d bc bs Q pc lst (aP k :: st) nn μ := aw_get F L hk hq hd kk
theorem aw_getL {k j c len idx : Nat} {C nm ds : String} {fin : Bool} (F : FD c j 1 C nm ds fin) (L : LK y.1.cls idx C nm ds) (hk : k < nn) (hq : shL[k]? = some (c + 10, len)) (hd : decode y.2.1 pc = .ok (.getfield idx, 3))
    (kk : AW G x y d bc bs Q (pc + 3) lst (aL (mL μ k j) :: st) nn μ) : AW G x y d bc bs Q pc lst (aP k :: st) nn μ := aw_get F L hk hq hd kk
theorem aw_getR {k j c len idx a : Nat} {C nm ds : String} {fin : Bool} (F : FD c j 2 C nm ds fin) (L : LK y.1.cls idx C nm ds) (hk : k < nn) (hq : shL[k]? = some (c + 10, len)) (hd : decode y.2.1 pc = .ok (.getfield idx, 3)) (hx : mR μ k j = some a)
    (kk : AW G x y d bc bs Q (pc + 3) lst (aP a :: st) nn μ) : AW G x y d bc bs Q pc lst (aP k :: st) nn μ := aw_get F L hk hq hd (by
  have e : fval μ k j 2 = aP a := by show aR (mR μ k j) = _; rw [hx]
  rw [e]; exact kk)
theorem fs_set {G : aG} {μ ν : aM} {k j c : Nat} {v : aV} (hj : ∃ t, (fkL c)[j]? = some t ∧ fval ν k j t = v) (ho : ∀ i t, i ≠ j → fval ν k i t = fval μ k i t) :
    ((fkL c).mapIdx (fun j t => cv G (fval μ k j t))).set j (cv G v) = (fkL c).mapIdx (fun j t => cv G (fval ν k j t)) := by
  obtain ⟨t, ht, rfl⟩ := hj
  apply List.ext_getElem?
  intro i
  by_cases e : j = i
  · subst e
    rw [List.getElem?_set_self (by rw [List.length_mapIdx]; exact (List.getElem?_eq_some_iff.mp ht).1), List.getElem?_mapIdx, ht]
    rfl
  · rw [List.getElem?_set_ne e, List.getElem?_mapIdx, List.getElem?_mapIdx]
    cases (fkL c)[i]? with
    | none => rfl
    | some t' => simp only [Option.map_some, ho i t' (fun z => e z.symm)]
theorem aw_put {k j t c len idx : Nat} {C nm ds : String} {fin : Bool} {v : aV} {ν : aM} (F : FD c j t C nm ds fin) (L : LK y.1.cls idx C nm ds) (hk : k < nn) (hq : shL[k]? = some (c + 10, len)) (hd : decode y.2.1 pc = .ok (.putfield idx, 3))
    (hfin : fin = false ∨ (y.1.name = "<init>" ∧ C = y.1.cls ∧ Cond.fieldLink y.1.cls idx C nm ds ∈ TB)) (hkv : (t = 0 ∧ ∃ z, v = aI z) ∨ (t = 1 ∧ ∃ b, v = aL b) ∨ (t = 2 ∧ ∃ o, v = aR o)) (hv : fval ν k j t = v) (ho : ∀ i t, i ≠ j → fval ν k i t = fval μ k i t)
    (hoff : ∀ j, j ≠ k → μ.1 j = ν.1 j ∧ μ.2.1 j = ν.2.1 j ∧ μ.2.2 j = ν.2.2 j) (hr : (∀ k i, inR (μ.1 k i)) → okv v → ∀ k i, inR (ν.1 k i))
    (kk : AW G x y d bc bs Q (pc + 3) lst st nn ν) : AW G x y d bc bs Q pc lst (v :: aP k :: st) nn μ := by
  intro p e R s m args below meth c0 H locs cells slots ls hC hH hL hs h1 h2 h3 h4
  obtain ⟨T, N, ty0, hc, hin, hty, hnm, hj, hT, hf, htk, hlen⟩ := F
  have hw := wld_at (G := G) (σ := (nn, μ)) hk hq
  rw [kE_o] at hw
  have hT0 : (T j).1 = C := by rw [hT]
  have hT1 : (T j).2.1 = nm := by rw [hT]
  have hT2 : (T j).2.2.1 = ds := by rw [hT]
  have hT3 : (T j).2.2.2 = fin := by rw [hT]
  have ha : cv G (aP k) = .ref (gb G + k) := by show Value.ref (adr G k) = _; rw [adr_sh hq]
  obtain ⟨hnar, hfit⟩ := nf_k (G := G) htk hkv
  have hset : (wld G (nn, μ)).set k (gb G + k, .inr (c, ((fkL c).mapIdx (fun j t => cv G (fval μ k j t))).set j (cv G v))) = wld G (nn, ν) := by
    rw [fs_set ⟨t, hf, hv⟩ ho, ← kE_o G ν k c len]
    exact wld_set hk hq hoff
  have kk' : ∀ (H1 : Heap) (locs1 : List Loc), va_P (gD G) cls0 ((wld G (nn, μ)).set k (gb G + k, .inr (c, ((fkL c).mapIdx (fun j t => cv G (fval μ k j t))).set j (cv G v)))) H1 → va_D (gA G) ((wld G (nn, μ)).set k (gb G + k, .inr (c, ((fkL c).mapIdx (fun j t => cv G (fval μ k j t))).set j (cv G v)))) → va_S (gA G) s.heap H1 locs1 →
      W p (gl G) e R s m args below meth c0 H1 locs1 cells slots (MX G Q below s R.cells R.slots) (F0 m (pc + 3) ls (st.map (cv G))) := by
    intro H1 locs1 hP1 _ hS1
    rw [hset] at hP1
    exact kk p e R s m args below meth c0 H1 locs1 cells slots ls hC ⟨⟨hP1, hH.1.2.1, hr hH.1.2.2 (ok_h hs)⟩, hS1⟩ hL (ok_s (ok_s hs)) h1 h2 h3 h4
  rw [List.map_cons, List.map_cons, ha]
  have hl : j < ((fkL c).mapIdx (fun j t => cv G (fval μ k j t))).length := by rw [List.length_mapIdx, hlen]; exact hj
  have hdt : parseFieldDescriptor (T j).2.2.1 = some (ty0 j) := hty j hj
  rcases hfin with hfin | ⟨hi, hCy, L⟩
  · rcases L with L | ⟨host, L⟩
    · exact va_put (own := y.1.cls) (ref := C) hC.1 hC.2.1 hC.tb hin ty0 hty hnm hC.own hC.kx.2.1 hH.1.1 (wld_D G _) hH.2 k hw hc j hj (by rw [hT1, hT2]; exact hC.tb _ L) (fun z hz => by rw [hT0] at hz; exact hz) (by rw [hT3]; exact hfin) hdt hnar hfit hl hd kk'
    · exact va_putN (own := y.1.cls) (ref := C) (host := host) hC.1 hC.2.1 hC.tb hin ty0 hty hnm hC.own hC.kx.2.1 hH.1.1 (wld_D G _) hH.2 k hw hc j hj (by rw [hT1, hT2]; exact va_Nw.use rfl (hC.kx.1 _ L)) (fun z hz => by rw [hT0] at hz; exact hz) (by rw [hT3]; exact hfin) hdt hnar hfit hl hd kk'
  · cases hfb : fin with
    | false =>
      exact va_put (own := y.1.cls) (ref := C) hC.1 hC.2.1 hC.tb hin ty0 hty hnm hC.own hC.kx.2.1 hH.1.1 (wld_D G _) hH.2 k hw hc j hj (by rw [hT1, hT2]; exact hC.tb _ L) (fun z hz => by rw [hT0] at hz; exact hz) (by rw [hT3]; exact hfb) hdt hnar hfit hl hd kk'
    | true =>
      exact va_putF (own := y.1.cls) (ref := C) hC.1 hC.2.1 hC.tb hin ty0 hty hnm hC.own hC.kx.2.1 hH.1.1 (wld_D G _) hH.2 k hw hc j hj (by rw [hT1, hT2]; exact hC.tb _ L) (fun z hz => by rw [hT0] at hz; exact hz) (by rw [hT3]; exact hfb) (hC.2.2.2.2.2.2.1.trans hi) (by rw [hT0]; exact hCy) hdt hnar hfit hl hd kk'
theorem rI_ok {μ : aM} {k i : Nat} {z : Int} (h : ∀ k i, inR (μ.1 k i)) (hz : inR z) : ∀ a j, inR ((wI μ k i z).1 a j) := fun a j => by
  show inR (if a = k ∧ j = i then z else μ.1 a j)
  split
  · exact hz
  · exact h a j
theorem aw_putI {k j c len idx : Nat} {C nm ds : String} {fin : Bool} {z : Int} (F : FD c j 0 C nm ds fin) (L : LK y.1.cls idx C nm ds) (hk : k < nn) (hq : shL[k]? = some (c + 10, len)) (hd : decode y.2.1 pc = .ok (.putfield idx, 3))
    (hfin : fin = false ∨ (y.1.name = "<init>" ∧ C = y.1.cls ∧ Cond.fieldLink y.1.cls idx C nm ds ∈ TB)) (kk : AW G x y d bc bs Q (pc + 3) lst st nn (wI μ k j z)) : AW G x y d bc bs Q pc lst (aI z :: aP k :: st) nn μ :=
  aw_put F L hk hq hd hfin (Or.inl ⟨rfl, z, rfl⟩) (by show aI (if k = k ∧ j = j then z else _) = aI z; rw [if_pos ⟨rfl, rfl⟩]) (fun i t hi => by simp only [fval, wI, hi, and_false, if_false]) (wI_off μ k j z) (fun h hz => rI_ok h hz) kk
theorem aw_putL {k j c len idx : Nat} {C nm ds : String} {fin : Bool} {z : BitVec 64} (F : FD c j 1 C nm ds fin) (L : LK y.1.cls idx C nm ds) (hk : k < nn) (hq : shL[k]? = some (c + 10, len)) (hd : decode y.2.1 pc = .ok (.putfield idx, 3))
    (hfin : fin = false ∨ (y.1.name = "<init>" ∧ C = y.1.cls ∧ Cond.fieldLink y.1.cls idx C nm ds ∈ TB)) (kk : AW G x y d bc bs Q (pc + 3) lst st nn (wL μ k j z)) : AW G x y d bc bs Q pc lst (aL z :: aP k :: st) nn μ :=
  aw_put F L hk hq hd hfin (Or.inr (Or.inl ⟨rfl, z, rfl⟩)) (by show aL (if k = k ∧ j = j then z else _) = aL z; rw [if_pos ⟨rfl, rfl⟩]) (fun i t hi => by simp only [fval, wL, hi, and_false, if_false]) (wL_off μ k j z) (fun h _ => h) kk
theorem aw_putR {k j c len idx a : Nat} {C nm ds : String} {fin : Bool} (F : FD c j 2 C nm ds fin) (L : LK y.1.cls idx C nm ds) (hk : k < nn) (hq : shL[k]? = some (c + 10, len)) (hd : decode y.2.1 pc = .ok (.putfield idx, 3))
    (hfin : fin = false ∨ (y.1.name = "<init>" ∧ C = y.1.cls ∧ Cond.fieldLink y.1.cls idx C nm ds ∈ TB)) (kk : AW G x y d bc bs Q (pc + 3) lst st nn (wR μ k j (some a))) : AW G x y d bc bs Q pc lst (aP a :: aP k :: st) nn μ :=
  aw_put F L hk hq hd hfin (Or.inr (Or.inr ⟨rfl, some a, rfl⟩)) (by show aR (if k = k ∧ j = j then some a else _) = aP a; rw [if_pos ⟨rfl, rfl⟩]) (fun i t hi => by simp only [fval, wR, hi, and_false, if_false]) (wR_off μ k j (some a)) (fun h _ => h) kk
-- arrays
theorem aw_alen {k t len : Nat} {z : Int} (hk : k < nn) (hq : shL[k]? = some (t, len)) (ht : t < 6) (hz : z = (len : Int)) (hd : decode y.2.1 pc = .ok (.arraylength, 1)) (hr : inR z) (kk : AW G x y d bc bs Q (pc + 1) lst (aI z :: st) nn μ) : AW G x y d bc bs Q pc lst (aP k :: st) nn μ := by
  subst hz
  intro p e R s m args below meth c0 H locs cells slots ls hC hH hL hs h1 h2 h3 h4
  have hw := wld_at (G := G) (σ := (nn, μ)) hk hq
  have ha : cv G (aP k) = .ref (gb G + k) := by show Value.ref (adr G k) = _; rw [adr_sh hq]
  rw [List.map_cons, ha]
  have kk' := kk p e R s m args below meth c0 H locs cells slots ls hC hH hL (ok_ki hr (ok_s hs)) h1 h2 h3 h4
  have hn : Int32.ofNat len = Int32.ofInt (len : Int) := (Int32.ofInt_eq_ofNat).symm
  have ht' : t = 0 ∨ t = 1 ∨ t = 2 ∨ t = 3 ∨ t = 4 ∨ t = 5 := by omega
  rcases ht' with rfl | rfl | rfl | rfl | rfl | rfl
  · exact va_alen hC.1 hC.2.1 hC.kx.2.1 hH.1.1 k 0 hw rfl hn hd kk'
  · exact va_alen hC.1 hC.2.1 hC.kx.2.1 hH.1.1 k 1 hw rfl hn hd kk'
  · exact va_alen hC.1 hC.2.1 hC.kx.2.1 hH.1.1 k 2 hw rfl hn hd kk'
  · exact va_alen hC.1 hC.2.1 hC.kx.2.1 hH.1.1 k 3 hw rfl hn hd kk'
  · exact va_alen hC.1 hC.2.1 hC.kx.2.1 hH.1.1 k 4 hw rfl hn hd kk'
  · exact va_alen hC.1 hC.2.1 hC.kx.2.1 hH.1.1 k 5 hw rfl hn hd kk'
end
