/-! new cells -/
section
theorem wld_len {G : aG} {σ : aS} (h : σ.1 ≤ shL.length) : (wld G σ).length = σ.1 := by
  simp only [wld, List.length_mapIdx, List.length_take]; omega
theorem wld_push {G : aG} {n : Nat} {μ : aM} {q : Nat × Nat} (hq : shL[n]? = some q) : wld G (n + 1, μ) = wld G (n, μ) ++ [(gb G + n, kE G μ n q)] := by
  have hn : n < shL.length := (List.getElem?_eq_some_iff.mp hq).1
  have hl : (wld G (n, μ)).length = n := wld_len (σ := (n, μ)) (Nat.le_of_lt hn)
  apply List.ext_getElem?
  intro j
  by_cases h : j < n
  · rw [List.getElem?_append_left (by rw [hl]; exact h)]
    simp only [wld, List.getElem?_mapIdx, List.getElem?_take, h, Nat.lt_succ_of_lt h, if_true]
  · by_cases h2 : j = n
    · subst h2
      rw [List.getElem?_append_right (by rw [hl]; exact Nat.le_refl _), hl, Nat.sub_self]
      rw [wld_at (G := G) (σ := (j + 1, μ)) (Nat.lt_succ_self j) hq]
      rfl
    · rw [List.getElem?_append_right (by rw [hl]; omega), hl]
      have h3 : (wld G (n + 1, μ))[j]? = none := by
        rw [List.getElem?_eq_none_iff, wld_len (σ := (n + 1, μ)) (by show n + 1 ≤ _; omega)]
        show n + 1 ≤ j
        omega
      rw [h3]
      symm
      rw [List.getElem?_eq_none_iff]
      simp only [List.length_cons, List.length_nil]
      omega
/-- where the new cell lies: the only place left -/
theorem new_q {G : aG} {n q : Nat} {μ : aM} {e : va_E} {H : Heap} (hn : n ≤ shL.length) (hD : va_D (gA G) (wld G (n, μ) ++ [(q, e)])) (hq : q < H.size) (hz : H.size ≤ gb G + (n + 1)) : q = gb G + n := by
  have hl : (wld G (n, μ)).length = n := wld_len (σ := (n, μ)) hn
  have hlast : (wld G (n, μ) ++ [(q, e)])[n]? = some (q, e) := by rw [List.getElem?_append_right (by rw [hl]; exact Nat.le_refl _), hl, Nat.sub_self]; rfl
  have h1 : gb G ≤ q := hD.2 n _ hlast
  rcases Nat.lt_or_ge (q - gb G) n with h | h
  · exfalso
    have hk : q - gb G < shL.length := Nat.lt_of_lt_of_le h hn
    have hw := wld_at (G := G) (σ := (n, μ)) (k := q - gb G) h (List.getElem?_eq_getElem hk)
    have hw' : (wld G (n, μ) ++ [(q, e)])[q - gb G]? = some (gb G + (q - gb G), kE G μ (q - gb G) shL[q - gb G]) := by rw [List.getElem?_append_left (by rw [hl]; exact h)]; exact hw
    have := hD.1 _ _ _ _ hw' hlast (by show gb G + (q - gb G) = q; omega)
    omega
  · omega
def zer (nn : Nat) (μ : aM) : Prop := ∀ j, mI μ nn j = 0 ∧ mL μ nn j = 0 ∧ mR μ nn j = none
variable {G : aG} {x : Bool} {y : aY} {d bc bs : Nat} {Q : aQ → Nat → aM → Prop} {nn : Nat} {μ : aM} {pc : Nat} {lst : List (Option aV)} {st : List aV}
theorem at_lt {D : va_G} {cl : List vw_C} {q : Nat × va_E} {H : Heap} (h : va_at D cl q H) : q.1 < H.size := by
  obtain ⟨a, e⟩ := q
  cases e with
  | inl w => exact (Array.getElem?_eq_some_iff.mp h).1
  | inr o =>
    obtain ⟨r, -, cell, h1, -⟩ := h
    exact (Array.getElem?_eq_some_iff.mp h1).1
/-- what a row that makes a cell leaves to do -/
theorem new_go {p : Program} {e : Env} {R : Room} {s : State} {m : MethodId} {args : Array Value} {below : List Frame} {meth : Method} {c : Code} {locs : List Loc} {cells slots cn pc' : Nat} {ls : Array Slot} {q0 : Nat × Nat} (hx : x = true) (hq : shL[nn]? = some q0)
    (hC : CX G y p s m args meth c) (hL : LX G y.2.2.1 lst ls) (hs : ∀ v ∈ st, okv v) (hr : ∀ k i, inR (μ.1 k i)) (hbc : 1 ≤ bc) (hbs : cn ≤ bs) (h1 : cells + bc ≤ R.cells) (h2 : slots + bs ≤ R.slots) (h3 : d ≤ R.frames ∧ 40 * d ≤ R.locals) (h4 : x = true → s.heap.size + cells ≤ gb G + nn)
    (k : AW G x y d (bc - 1) (bs - cn) Q pc' lst (aP nn :: st) (nn + 1) μ) {q : Nat} {H1 : Heap} (hP : va_P (gD G) cls0 (wld G (nn, μ) ++ [(q, kE G μ nn q0)]) H1) (hD : va_D (gA G) (wld G (nn, μ) ++ [(q, kE G μ nn q0)])) (hS : va_S (gA G) s.heap H1 locs) :
    W p (gl G) e R s m args below meth c H1 locs (cells + 1) (slots + cn) (MX G Q below s R.cells R.slots) (F0 m pc' ls (.ref q :: st.map (cv G))) := by
  intro T hT X
  have hn : nn < shL.length := (List.getElem?_eq_some_iff.mp hq).1
  have hlast : (wld G (nn, μ) ++ [(q, kE G μ nn q0)])[nn]? = some (q, kE G μ nn q0) := by
    have hl : (wld G (nn, μ)).length = nn := wld_len (σ := (nn, μ)) (Nat.le_of_lt hn)
    rw [List.getElem?_append_right (by rw [hl]; exact Nat.le_refl _), hl, Nat.sub_self]; rfl
  have hq1 : q < H1.size := at_lt (hP nn _ hlast)
  have hz : H1.size ≤ gb G + (nn + 1) := by
    have a := X.heapSize
    have b := h4 hx
    rw [hT] at a
    have b' : s.heap.size + cells ≤ gb G + nn := b
    omega
  have hqe : q = gb G + nn := new_q (Nat.le_of_lt hn) hD hq1 hz
  subst hqe
  have hw := wld_push (G := G) (n := nn) (μ := μ) hq
  have hP' : va_P (gD G) cls0 (wld G (nn + 1, μ)) H1 := by rw [hw]; exact hP
  have hk := k p e R s m args below meth c H1 locs (cells + 1) (slots + cn) ls hC ⟨⟨hP', hn, hr⟩, hS⟩ hL (ok_kr hs) (by omega) (by omega) h3 (fun h => by have := h4 h; show _ ≤ gb G + (nn + 1); have b' : s.heap.size + cells ≤ gb G + nn := this; omega)
  have ha : cv G (aP nn) = .ref (gb G + nn) := by show Value.ref (adr G nn) = _; rw [adr_sh hq]
  rw [List.map_cons, ha] at hk
  exact hk T hT X
theorem aw_new {ci len N idx : Nat} {C : String} {T : u_T} {ty : Nat → FieldType} (hx : x = true) (hq : shL[nn]? = some (ci + 10, len)) (hz : zer nn μ) (hc : cls0[ci]? = some (C, T, N)) (hin : ∀ w ∈ u_ws C T N, w ∈ TB) (hty : ∀ k, k < N → parseFieldDescriptor (T k).2.2.1 = some (ty k)) (hf : ∀ j, j < N → ∃ t, (fkL ci)[j]? = some t ∧ tyK t (ty j))
    (hcl : Cond.classLink y.1.cls idx C ∈ TB) (hinst : Cond.instantiable C N ∈ TB) (hini : Cond.initialized C ∈ TB) (hd : decode y.2.1 pc = .ok (.new idx, 3)) (hbc : 1 ≤ bc) (hbs : N ≤ bs)
    (k : AW G x y d (bc - 1) (bs - N) Q (pc + 3) lst (aP nn :: st) (nn + 1) μ) : AW G x y d bc bs Q pc lst st nn μ := by
  intro p e R s m args below meth c H locs cells slots ls hC hH hL hs h1 h2 h3 h4
  refine va_new (ci := ci) (fs := (fkL ci).mapIdx (fun j t => cv G (fval μ nn j t))) hC.1 hC.2.1 hC.tb hin ty hty hC.own (hC.tb _ hcl) (hC.tb _ hinst) (hC.tb _ hini) hC.kx.2.1 hH.1.1 (wld_D G (nn, μ)) hH.2 (fun q hq => Nat.le_trans hC.kx.2.2.2 hq) hc ?_ (by omega) (by omega) hd ?_
  · intro j hj
    obtain ⟨t, ht, htk⟩ := hf j hj
    have e1 : vp_V ((fkL ci).mapIdx (fun j t => cv G (fval μ nn j t))) j = cv G (fval μ nn j t) := by
      show ((fkL ci).mapIdx (fun j t => cv G (fval μ nn j t))).getD j .null = _
      rw [List.getD_eq_getElem?_getD, List.getElem?_mapIdx, ht]; rfl
    rw [e1]
    obtain ⟨z1, z2, z3⟩ := hz j
    rcases htk with ⟨rfl, h⟩ | ⟨rfl, h⟩ | ⟨rfl, ⟨n, h⟩ | ⟨t', h⟩⟩ <;> rw [h]
    · show _ = cv G (aI (mI μ nn j)); rw [z1]; rfl
    · show _ = cv G (aL (mL μ nn j)); rw [z2]; rfl
    · show _ = cv G (aR (mR μ nn j)); rw [z3]; rfl
    · show _ = cv G (aR (mR μ nn j)); rw [z3]; rfl
  · intro q H1 hP hD hS
    rw [← kE_o G μ nn ci len] at hP hD
    exact new_go hx hq hC hL hs hH.1.2.2 hbc hbs h1 h2 h3 h4 k hP hD hS
theorem aw_newa {t len : Nat} {z : Int} {atype : ArrayType} {ty : FieldType} (hx : x = true) (hq : shL[nn]? = some (t, len)) (hz : zer nn μ) (ht : (t = 0 ∧ ty = .int) ∨ (t = 1 ∧ ty = .long) ∨ (t = 2 ∧ ty = .char) ∨ (t = 3 ∧ ty = .boolean)) (hat : newarray.typeOf atype = ty) (harr : Cond.arrayClass (newarray.typeOf atype) ∈ TB)
    (hn : z = (len : Int)) (hlen : len < 10000) (hd : decode y.2.1 pc = .ok (.newarray atype, 2)) (hbc : 1 ≤ bc) (hbs : len ≤ bs)
    (k : AW G x y d (bc - 1) (bs - len) Q (pc + 2) lst (aP nn :: st) (nn + 1) μ) : AW G x y d bc bs Q pc lst (aI z :: st) nn μ := by
  subst hn
  intro p e R s m args below meth c H locs cells slots ls hC hH hL hs h1 h2 h3 h4
  have hr : inR (len : Int) := ok_h hs
  have hneg : ¬ Int32.ofInt (len : Int) < 0 := by rw [← n_0, n_lt hr inR_0]; omega
  have hcl : (Int32.ofInt (len : Int)).toNatClampNeg = len := by rw [n_cl hr]; rfl
  have hbytes : len * componentBytes ty ≤ 536870912 := by
    rcases ht with ⟨-, rfl⟩ | ⟨-, rfl⟩ | ⟨-, rfl⟩ | ⟨-, rfl⟩ <;> (simp only [componentBytes]; omega)
  rw [List.map_cons]
  have key : ∀ (a0 : vp_A) (hcell : ∀ cA : ClassId, vp_cell cA a0 = arrV cA len (fun _ => defaultValue ty)) (hke : kE G μ nn (t, len) = .inl (gt G t, a0)) (htl : (tyL G)[t]? = some (gt G t, ty)) (hra : ∀ cA, va_RA s cA ty → va_RA s (gt G t) ty → cA = gt G t),
      W p (gl G) e R s m args below meth c H locs cells slots (MX G Q below s R.cells R.slots) (F0 m pc ls (cv G (aI (len : Int)) :: st.map (cv G))) := by
    intro a0 hcell hke htl hra
    refine va_newa hC.1 hC.2.1 (hC.tb _ harr) hat hC.kx.2.1 hH.1.1 (wld_D G (nn, μ)) hH.2 (fun q hq => Nat.le_trans hC.kx.2.2.2 hq) hcell hneg hcl hbytes (by omega) (by omega) hd fun q cA H1 hK hP hD hS => ?_
    have hcA : cA = gt G t := by
      refine hra cA ?_ (hC.kx.2.1.2 t _ htl).2
      have hl : (tyL G ++ [(cA, ty)])[(tyL G).length]? = some (cA, ty) := by rw [List.getElem?_append_right (Nat.le_refl _), Nat.sub_self]; rfl
      exact (hK.2 _ _ hl).2
    subst hcA
    rw [← hke] at hP hD
    exact new_go hx hq hC hL (ok_s hs) hH.1.2.2 hbc hbs h1 h2 h3 h4 k hP hD hS
  have fi : (fun i => Int32.ofInt (μ.1 nn i)) = fun _ => 0 := funext fun i => by rw [show μ.1 nn i = 0 from (hz i).1]; rfl
  have fl : (fun i => Int64.ofBitVec (μ.2.1 nn i)) = fun _ => 0 := funext fun i => by rw [show μ.2.1 nn i = 0 from (hz i).2.1]; rfl
  rcases ht with ⟨rfl, rfl⟩ | ⟨rfl, rfl⟩ | ⟨rfl, rfl⟩ | ⟨rfl, rfl⟩
  · exact key (len, .inl (fun _ => 0)) (fun _ => rfl) (by rw [kE_0, fi]) rfl (fun cA a b => Option.some.inj (Eq.trans (Eq.symm a) b))
  · exact key (len, .inr (.inl (fun _ => 0))) (fun _ => rfl) (by rw [kE_1, fl]) rfl (fun cA a b => Option.some.inj (Eq.trans (Eq.symm a) b))
  · exact key (len, .inl (fun _ => 0)) (fun _ => rfl) (by rw [kE_2, fi]) rfl (fun cA a b => Option.some.inj (Eq.trans (Eq.symm a) b))
  · exact key (len, .inl (fun _ => 0)) (fun _ => rfl) (by rw [kE_3, fi]) rfl (fun cA a b => Option.some.inj (Eq.trans (Eq.symm a) b))
end
