/-! new int[6][81], and new T[n] for a class -/
section
variable {G : aG} {x : Bool} {y : aY} {d bc bs : Nat} {Q : aQ → Nat → aM → Prop} {pc : Nat} {lst : List (Option aV)} {st : List aV} {nn : Nat} {μ : aM}
theorem mn_out (c : ClassId) (N h0 : Nat) : ∀ i : Nat, Jvm.Free.Multi.outerC c N h0 i = arrV c N (fun j => va_rf (if j < i then some (h0 + 1 + j) else none))
  | 0 => by
    show ({ cls := c, slots := Array.replicate N .null, vm := .none } : Cell) = _
    rw [arrV_new]
    congr 1
  | i + 1 => by
    show (Jvm.Free.Multi.outerC c N h0 i).setSlot i (.ref (h0 + 1 + i)) = _
    rw [mn_out c N h0 i, arrV_store]
    congr 1
    funext j
    rcases Nat.lt_trichotomy j i with h | h | h
    · simp [updV, Nat.ne_of_lt h, h, Nat.lt_succ_of_lt h]
    · subst h; simp [updV, va_rf]
    · simp [updV, Nat.ne_of_gt h, show ¬ j < i by omega, show ¬ j < i + 1 by omega]
/-- the rows' references -/
def mnR (μ : aM) (k : Nat) : aM := (μ.1, μ.2.1, fun a j => if a = k then (if j < 6 then some (k + 1 + j) else none) else μ.2.2 a j)
theorem aw_mnew {idx : Nat} (hx : x = true) (hs5 : shL[nn]? = some (5, 6)) (hs0 : ∀ j, j < 6 → shL[nn + 1 + j]? = some (0, 81)) (hpos : 0 < nn) (hzz : ∀ k j, nn ≤ k → μ.1 k j = 0) (hcl : Cond.classLink y.1.cls idx "[[I" ∈ TB) (hov : Cond.arrayOver (.array .int) ∈ tables_1) (hovs : ∀ (s : State) (args : Array Value), KX G s → (Cond.arrayOver (.array .int)).before args s = true) (harr : Cond.arrayClass .int ∈ TB)
    (hd : decode y.2.1 pc = .ok (.multianewarray idx 2, 4)) (hbc : 7 ≤ bc) (hbs : 492 ≤ bs) (k : AW G x y d (bc - 7) (bs - 492) Q (pc + 4) lst (aP nn :: st) (nn + 7) (mnR μ nn)) : AW G x y d bc bs Q pc lst (aI 81 :: aI 6 :: st) nn μ := by
  intro p e R s m args below meth c H locs cells slots ls hC hH hL hs h1 h2 h3 h4 T hT X
  have hlen7 : nn + 7 ≤ shL.length := by
    have := (List.getElem?_eq_some_iff.mp (hs0 5 (by omega))).1
    omega
  have hsz : T.heap.size = gb G + nn := by
    have a := X.heapSize
    have b := h4 hx
    have c0 : nn - 1 < nn := by omega
    have hq : shL[nn - 1]? = some shL[nn - 1] := List.getElem?_eq_getElem (by omega)
    have w := at_lt (hH.1.1 (nn - 1) _ (wld_at (G := G) (σ := (nn, μ)) c0 hq))
    have w' : gb G + (nn - 1) < H.size := w
    rw [← hT] at w'
    omega
  have hc81 : (Int32.ofInt 81).toNatClampNeg = 81 := rfl
  have hc6 : (Int32.ofInt 6).toNatClampNeg = 6 := rfl
  obtain ⟨vm₁, cA, comp, hW₁, hfA, hfC, X₁, hgo⟩ := X.multianewarray2 hC.1 (own := y.1.cls) (index := idx) (ty := .int) hC.own (hC.tb _ hcl) (hovs s args hC.kx) (hC.tb _ harr) (g := F0 m pc ls ((aI 81 :: aI 6 :: st).map (cv G))) rfl (by rw [hC.2.1]; exact hd) (n := Int32.ofInt 6) (k := Int32.ofInt 81) (rest := st.map (cv G)) rfl
    (by decide) (by decide) (by decide) (by decide) (by decide) rfl rfl (by rw [hc6]; omega) (by rw [hc6, hc81]; omega)
  rw [hc6, hc81] at X₁ hgo
  generalize hF : Jvm.Free.Multi.fill (T.setVm vm₁) cA comp 6 81 (defaultValue .int) 6 = T1 at X₁ hgo
  obtain ⟨f1, f2, f3, -⟩ := Jvm.Free.Multi.fill_facts (T.setVm vm₁) cA comp 6 81 (defaultValue .int) 6
  rw [hF] at f1 f2 f3
  have fo : ∀ a, a < T.heap.size → T1.heap[a]? = T.heap[a]? := fun a ha => by
    have := Jvm.Free.Multi.fill_old (T.setVm vm₁) cA comp 6 81 (defaultValue .int) (a := a) ha 6
    rw [hF] at this
    exact this
  have fi : ∀ j, j < 6 → T1.heap[T.heap.size + 1 + j]? = some (Jvm.Free.Multi.innerC comp 81 (defaultValue .int)) := fun j hj => by
    have := Jvm.Free.Multi.fill_inner (T.setVm vm₁) cA comp 6 81 (defaultValue .int) 6 j hj
    rw [hF] at this
    exact this
  have f1' : T1.heap.size = T.heap.size + 1 + 6 := f1
  have f2' : T1.heap[T.heap.size]? = some (Jvm.Free.Multi.outerC cA 6 T.heap.size 6) := f2
  have hK := hC.kx.2.1.2
  have ecA : cA = gt G 5 := Option.some.inj (hfA.symm.trans (hK 5 _ rfl).2)
  have ecC : comp = gt G 0 := Option.some.inj (hfC.symm.trans (hK 0 _ rfl).2)
  subst ecA
  subst ecC
  rw [mn_out, hsz] at f2'
  rw [hsz] at fo fi f1'
  have hP' : va_P (gD G) cls0 (wld G (nn + 7, mnR μ nn)) T1.heap := by
    intro k0 q hk0
    obtain ⟨hlt, q0, hq0, rfl⟩ := wld_of hk0
    have hlt' : k0 < nn + 7 := hlt
    rcases Nat.lt_trichotomy k0 nn with h | h | h
    · have hold := hH.1.1 k0 _ (wld_at (G := G) (σ := (nn, μ)) h hq0)
      have e9 : kE G (mnR μ nn) k0 q0 = kE G μ k0 q0 := kE_eq (μ := mnR μ nn) (ν := μ) rfl rfl (funext fun j => by simp [mnR, Nat.ne_of_lt h]) q0
      show va_at _ _ (gb G + k0, kE G (mnR μ nn) k0 q0) _
      rw [e9]
      refine hold.kept ?_
      show T1.heap[gb G + k0]? = H[gb G + k0]?
      rw [fo _ (by omega), hT]
    · subst h
      cases Option.some.inj (hs5.symm.trans hq0)
      show T1.heap[gb G + k0]? = some (vp_cell (gt G 5) (6, .inr (.inr (.inr (.inr (fun i => ((mnR μ k0).2.2 k0 i).map (adr G)))))))
      rw [f2']
      show some (arrV (gt G 5) 6 fun j => va_rf (if j < 6 then some (gb G + k0 + 1 + j) else none)) = some (arrV (gt G 5) 6 (fun j => va_rf (((mnR μ k0).2.2 k0 j).map (adr G))))
      congr 2
      funext j
      by_cases hj : j < 6
      · have ha : adr G (k0 + 1 + j) = gb G + k0 + 1 + j := by rw [adr_sh (hs0 j hj)]; omega
        simp [mnR, hj, ha]
      · simp [mnR, hj]
    · obtain ⟨j, rfl⟩ : ∃ j, k0 = nn + 1 + j := ⟨k0 - nn - 1, by omega⟩
      have hj : j < 6 := by omega
      cases Option.some.inj ((hs0 j hj).symm.trans hq0)
      show T1.heap[gb G + (nn + 1 + j)]? = some (vp_cell (gt G 0) (81, .inl (fun i => Int32.ofInt (μ.1 (nn + 1 + j) i))))
      rw [show gb G + (nn + 1 + j) = gb G + nn + 1 + j by omega, fi j hj]
      have hz0 : (fun i => Int32.ofInt (μ.1 (nn + 1 + j) i)) = fun _ => 0 := funext fun i => by rw [hzz _ _ (by omega)]; rfl
      rw [hz0]
      show some ({ cls := gt G 0, slots := Array.replicate 81 (.int 0), vm := .none } : Cell) = some (arrV (gt G 0) 81 (fun _ => .int 0))
      rw [arrV_new]
  have hS' : va_S (gA G) s.heap T1.heap (locs ++ (List.range 6).map fun j => ⟨T.heap.size, j⟩) := by
    refine ⟨Nat.le_trans hH.2.1 (by rw [← hT]; omega), fun q a b => ?_, fun q hq => ?_⟩
    · rw [fo q (by have := Nat.lt_of_lt_of_le a hH.2.1; rw [← hT] at this; omega), hT]
      exact hH.2.2.1 q a b
    · rcases List.mem_append.mp hq with h | h
      · exact hH.2.2.2 q h
      · obtain ⟨j, -, rfl⟩ := List.mem_map.mp h
        show gb G ≤ T.heap.size
        omega
  have hk := k p e R s m args below meth c T1.heap (locs ++ (List.range 6).map fun j => ⟨T.heap.size, j⟩) (cells + 1 + 6) (slots + 6 + 6 * 81) ls hC ⟨⟨hP', hlen7, hH.1.2.2⟩, hS'⟩ hL (ok_kr (ok_s (ok_s hs))) (by omega) (by omega) h3 (fun h => by have := h4 h; omega)
  have ha : cv G (aP nn) = .ref (gb G + nn) := by show Value.ref (adr G nn) = _; rw [adr_sh hs5]
  rw [List.map_cons, ha] at hk
  obtain ⟨t, a1, b1⟩ := hk T1 rfl X₁
  refine ⟨t, hgo t ?_, b1⟩
  rw [hsz]
  exact a1
theorem aw_anew {idx len : Nat} {z : Int} (hx : x = true) (hq : shL[nn]? = some (4, len)) (hz : zer nn μ) (hn : z = (len : Int)) (hlen : len < 10000) (hcl : Cond.classLink y.1.cls idx "MaskedCauses$Decision" ∈ TB) (hovs : ∀ s : State, KX G s → va_AO "MaskedCauses$Decision" s) (hd : decode y.2.1 pc = .ok (.anewarray idx, 3)) (hbc : 1 ≤ bc) (hbs : len ≤ bs)
    (k : AW G x y d (bc - 1) (bs - len) Q (pc + 3) lst (aP nn :: st) (nn + 1) μ) : AW G x y d bc bs Q pc lst (aI z :: st) nn μ := by
  subst hn
  intro p e R s m args below meth c H locs cells slots ls hC hH hL hs h1 h2 h3 h4
  have hr : inR (len : Int) := ok_h hs
  have hneg : ¬ Int32.ofInt (len : Int) < 0 := by rw [← n_0, n_lt hr inR_0]; omega
  have hcl9 : (Int32.ofInt (len : Int)).toNatClampNeg = len := by rw [n_cl hr]; rfl
  rw [List.map_cons]
  refine va_newq hC.1 hC.2.1 hC.own (hC.tb _ hcl) (hovs s hC.kx) hC.kx.2.1 hH.1.1 (wld_D G (nn, μ)) hH.2 (fun q hq => Nat.le_trans hC.kx.2.2.2 hq) hneg hcl9 (by omega) (by omega) (by omega) hd fun q cA H1 hK hP hD hS => ?_
  have hcA : cA = gt G 4 := by
    have hl : (tyL G ++ [(cA, .object "MaskedCauses$Decision")])[(tyL G).length]? = some (cA, .object "MaskedCauses$Decision") := by rw [List.getElem?_append_right (Nat.le_refl _), Nat.sub_self]; rfl
    obtain ⟨k1, c1, -, -, -, g1⟩ := (hK.2 _ _ hl).2
    obtain ⟨k2, c2, -, -, -, g2⟩ := (hC.kx.2.1.2 4 _ rfl).2
    exact Option.some.inj (g1.symm.trans g2)
  subst hcA
  have hke : kE G μ nn (4, len) = .inl (gt G 4, len, .inr (.inr (.inr (.inr (fun _ => none))))) := by
    rw [kE_4]
    congr 7
    funext i
    rw [show μ.2.2 nn i = none from (hz i).2.2]
    rfl
  rw [← hke] at hP hD
  exact new_go hx hq hC hL (ok_s hs) hH.1.2.2 hbc hbs h1 h2 h3 h4 k hP hD hS
end
