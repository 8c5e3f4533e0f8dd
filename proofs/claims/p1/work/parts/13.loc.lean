/-! locals -/
section
def kl : Option aV → Option aV
  | some (.inr (.inl _)) => none
  | o => o
def ls1 : List (Option aV) → Nat → aV → List (Option aV)
  | [], _, _ => []
  | _ :: l, 0, v => some v :: l
  | o :: l, 1, v => kl o :: ls1 l 0 v
  | o :: l, i + 2, v => o :: ls1 l (i + 1) v
def kz : List (Option aV) → List (Option aV)
  | [] => []
  | _ :: l => none :: l
def ls2 : List (Option aV) → Nat → aV → List (Option aV)
  | [], _, _ => []
  | _ :: l, 0, v => some v :: kz l
  | o :: l, 1, v => kl o :: ls2 l 0 v
  | o :: l, i + 2, v => o :: ls2 l (i + 1) v
theorem kl_s {o : Option aV} {w : aV} (h : kl o = some w) : o = some w ∧ ∀ b, w ≠ aL b := by
  rcases o with _ | z | b | r
  · cases h
  · cases h; exact ⟨rfl, fun b e => by cases e⟩
  · cases h
  · cases h; exact ⟨rfl, fun b e => by cases e⟩
theorem ls1_s : ∀ (lst : List (Option aV)) (i : Nat) (v : aV) (j : Nat) (w : aV), (ls1 lst i v)[j]? = some (some w) → (j = i ∧ w = v) ∨ (j ≠ i ∧ lst[j]? = some (some w) ∧ (j + 1 = i → ∀ b, w ≠ aL b))
  | [], _, _, j, w, h => by simp [ls1] at h
  | _ :: l, 0, v, j, w, h => by
    cases j with
    | zero => simp [ls1] at h; exact Or.inl ⟨rfl, h.symm⟩
    | succ j => simp only [ls1, List.getElem?_cons_succ] at h; exact Or.inr ⟨by omega, by simpa using h, by omega⟩
  | o :: l, 1, v, j, w, h => by
    cases j with
    | zero =>
      simp only [ls1, List.getElem?_cons_zero, Option.some.injEq] at h
      obtain ⟨h1, h2⟩ := kl_s h
      exact Or.inr ⟨by omega, by simp [h1], fun _ => h2⟩
    | succ j =>
      simp only [ls1, List.getElem?_cons_succ] at h
      rcases ls1_s l 0 v j w h with ⟨a, b⟩ | ⟨a, b, c⟩
      · exact Or.inl ⟨by omega, b⟩
      · exact Or.inr ⟨by omega, by simpa using b, by omega⟩
  | o :: l, i + 2, v, j, w, h => by
    cases j with
    | zero => simp only [ls1, List.getElem?_cons_zero] at h; exact Or.inr ⟨by omega, by simpa using h, by omega⟩
    | succ j =>
      simp only [ls1, List.getElem?_cons_succ] at h
      rcases ls1_s l (i + 1) v j w h with ⟨a, b⟩ | ⟨a, b, c⟩
      · exact Or.inl ⟨by omega, b⟩
      · exact Or.inr ⟨by omega, by simpa using b, fun q => c (by omega)⟩
theorem kz_s : ∀ (l : List (Option aV)) (j : Nat) (w : aV), (kz l)[j]? = some (some w) → j ≠ 0 ∧ l[j]? = some (some w)
  | [], j, w, h => by simp [kz] at h
  | _ :: l, j, w, h => by
    cases j with
    | zero => simp [kz] at h
    | succ j => exact ⟨by omega, by simpa [kz] using h⟩
theorem ls2_s : ∀ (lst : List (Option aV)) (i : Nat) (v : aV) (j : Nat) (w : aV), (ls2 lst i v)[j]? = some (some w) → (j = i ∧ w = v) ∨ (j ≠ i ∧ j ≠ i + 1 ∧ lst[j]? = some (some w) ∧ (j + 1 = i → ∀ b, w ≠ aL b))
  | [], _, _, j, w, h => by simp [ls2] at h
  | _ :: l, 0, v, j, w, h => by
    cases j with
    | zero => simp [ls2] at h; exact Or.inl ⟨rfl, h.symm⟩
    | succ j =>
      simp only [ls2, List.getElem?_cons_succ] at h
      obtain ⟨a, b⟩ := kz_s l j w h
      exact Or.inr ⟨by omega, by omega, by simpa using b, by omega⟩
  | o :: l, 1, v, j, w, h => by
    cases j with
    | zero =>
      simp only [ls2, List.getElem?_cons_zero, Option.some.injEq] at h
      obtain ⟨h1, h2⟩ := kl_s h
      exact Or.inr ⟨by omega, by omega, by simp [h1], fun _ => h2⟩
    | succ j =>
      simp only [ls2, List.getElem?_cons_succ] at h
      rcases ls2_s l 0 v j w h with ⟨a, b⟩ | ⟨a, a', b, c⟩
      · exact Or.inl ⟨by omega, b⟩
      · exact Or.inr ⟨by omega, by omega, by simpa using b, by omega⟩
  | o :: l, i + 2, v, j, w, h => by
    cases j with
    | zero => simp only [ls2, List.getElem?_cons_zero] at h; exact Or.inr ⟨by omega, by omega, by simpa using h, by omega⟩
    | succ j =>
      simp only [ls2, List.getElem?_cons_succ] at h
      rcases ls2_s l (i + 1) v j w h with ⟨a, b⟩ | ⟨a, a', b, c⟩
      · exact Or.inl ⟨by omega, b⟩
      · exact Or.inr ⟨by omega, by omega, by simpa using b, fun q => c (by omega)⟩
def prs (G : aG) : Nat → List (Option aV) → List (Nat × Value)
  | _, [] => []
  | k, none :: l => prs G (k + 1) l
  | k, some v :: l => (k, cv G v) :: prs G (k + 1) l
theorem prs_of {G : aG} : ∀ (l : List (Option aV)) (k : Nat) (q : Nat × Value), q ∈ prs G k l → ∃ (j : Nat) (v : aV), l[j]? = some (some v) ∧ q = (k + j, cv G v)
  | [], k, q, h => by simp [prs] at h
  | none :: l, k, q, h => by
    obtain ⟨j, v, h1, h2⟩ := prs_of l (k + 1) q h
    exact ⟨j + 1, v, by simpa using h1, by rw [h2]; congr 1; omega⟩
  | some v :: l, k, q, h => by
    rcases List.mem_cons.mp h with h | h
    · exact ⟨0, v, by simp, h⟩
    · obtain ⟨j, v, h1, h2⟩ := prs_of l (k + 1) q h
      exact ⟨j + 1, v, by simpa using h1, by rw [h2]; congr 1; omega⟩
theorem prs_in {G : aG} : ∀ (l : List (Option aV)) (k j : Nat) (v : aV), l[j]? = some (some v) → (k + j, cv G v) ∈ prs G k l
  | [], k, j, v, h => by simp at h
  | none :: l, k, j, v, h => by
    cases j with
    | zero => simp at h
    | succ j =>
      have := prs_in (G := G) l (k + 1) j v (by simpa using h)
      simp only [prs]
      rw [show k + (j + 1) = k + 1 + j by omega]
      exact this
  | some w :: l, k, j, v, h => by
    cases j with
    | zero => simp at h; subst h; exact List.mem_cons_self
    | succ j =>
      have := prs_in (G := G) l (k + 1) j v (by simpa using h)
      simp only [prs]
      rw [show k + (j + 1) = k + 1 + j by omega]
      exact List.mem_cons_of_mem _ this
theorem LX.has {G : aG} {nL : Nat} {lst : List (Option aV)} {ls : Array Slot} (h : LX G nL lst ls) : lv_has ls nL (prs G 0 lst) :=
  ⟨h.1, h.2.1, fun q hq => by
    obtain ⟨j, v, h1, rfl⟩ := prs_of lst 0 q hq
    simpa using (h.2.2 j v h1).1⟩
theorem LX.set1 {G : aG} {nL i : Nat} {lst lst' : List (Option aV)} {ls ls' : Array Slot} {v : aV} (h : LX G nL lst ls) (hv : okv v) (he : ls1 lst i v = lst')
    (h' : lv_has ls' nL ((i, cv G v) :: (prs G 0 lst).filter (fun q => !(q.1 == i) && !(q.1 + 1 == i && q.2.category == 2)))) : LX G nL lst' ls' := by
  subst he
  refine ⟨h'.1, h'.2.1, fun j w hw => ?_⟩
  rcases ls1_s lst i v j w hw with ⟨rfl, rfl⟩ | ⟨a, b, c⟩
  · exact ⟨h'.2.2 _ List.mem_cons_self, hv⟩
  · refine ⟨h'.2.2 (j, cv G w) (List.mem_cons_of_mem _ (List.mem_filter.mpr ⟨by simpa using prs_in (G := G) lst 0 j w b, ?_⟩)), (h.2.2 j w b).2⟩
    by_cases e : j + 1 = i
    · have hn := c e
      have : (cv G w).category = 1 := by rcases w with z | b | _ | k <;> first | rfl | exact absurd rfl (hn _)
      simp [a, this]
    · simp [a, e]
theorem LX.set2 {G : aG} {nL i : Nat} {lst lst' : List (Option aV)} {ls ls' : Array Slot} {v : aV} (h : LX G nL lst ls) (hv : okv v) (he : ls2 lst i v = lst')
    (h' : lv_has ls' nL ((i, cv G v) :: (prs G 0 lst).filter (fun q => !(q.1 == i) && (!(q.1 == i + 1) && !(q.1 + 1 == i && q.2.category == 2))))) : LX G nL lst' ls' := by
  subst he
  refine ⟨h'.1, h'.2.1, fun j w hw => ?_⟩
  rcases ls2_s lst i v j w hw with ⟨rfl, rfl⟩ | ⟨a, a', b, c⟩
  · exact ⟨h'.2.2 _ List.mem_cons_self, hv⟩
  · refine ⟨h'.2.2 (j, cv G w) (List.mem_cons_of_mem _ (List.mem_filter.mpr ⟨by simpa using prs_in (G := G) lst 0 j w b, ?_⟩)), (h.2.2 j w b).2⟩
    by_cases e : j + 1 = i
    · have hn := c e
      have : (cv G w).category = 1 := by rcases w with z | b | _ | k <;> first | rfl | exact absurd rfl (hn _)
      simp [a, a', this]
    · simp [a, a', e]
variable {G : aG} {x : Bool} {y : aY} {d bc bs : Nat} {Q : aQ → Nat → aM → Prop} {pc : Nat} {lst lst' : List (Option aV)} {st : List aV} {nn : Nat} {μ : aM}
theorem aw_wk (h : ∀ (i : Nat) (v : aV), lst'[i]? = some (some v) → lst[i]? = some (some v)) (k : AW G x y d bc bs Q pc lst' st nn μ) : AW G x y d bc bs Q pc lst st nn μ :=
  fun p e R s m args below meth c H locs cells slots ls hC hH hL hs h1 h2 h3 h4 => k p e R s m args below meth c H locs cells slots ls hC hH ⟨hL.1, hL.2.1, fun i v hv => hL.2.2 i v (h i v hv)⟩ hs h1 h2 h3 h4
theorem aw_iload_n {kk : Fin 4} {i : Nat} {z : Int} (hd : decode y.2.1 pc = .ok (.iload_n kk, 1)) (hi : (kk : Nat) = i) (hl : lst[i]? = some (some (aI z))) (k : AW G x y d bc bs Q (pc + 1) lst (aI z :: st) nn μ) : AW G x y d bc bs Q pc lst st nn μ :=
  fun p e R s m args below meth c H locs cells slots ls hC hH hL hs h1 h2 h3 h4 => lv_iload_n hC.1 hC.2.1 hd hi (hL.2.2 i _ hl).1 (k p e R s m args below meth c H locs cells slots ls hC hH hL (ok_k (hL.2.2 i _ hl).2 hs) h1 h2 h3 h4)
theorem aw_iload {i : Nat} {z : Int} (hd : decode y.2.1 pc = .ok (.iload i, 2)) (hl : lst[i]? = some (some (aI z))) (k : AW G x y d bc bs Q (pc + 2) lst (aI z :: st) nn μ) : AW G x y d bc bs Q pc lst st nn μ :=
  fun p e R s m args below meth c H locs cells slots ls hC hH hL hs h1 h2 h3 h4 => lv_iload hC.1 hC.2.1 hd (hL.2.2 i _ hl).1 (k p e R s m args below meth c H locs cells slots ls hC hH hL (ok_k (hL.2.2 i _ hl).2 hs) h1 h2 h3 h4)
theorem aw_lload_n {kk : Fin 4} {i : Nat} {z : BitVec 64} (hd : decode y.2.1 pc = .ok (.lload_n kk, 1)) (hi : (kk : Nat) = i) (hl : lst[i]? = some (some (aL z))) (k : AW G x y d bc bs Q (pc + 1) lst (aL z :: st) nn μ) : AW G x y d bc bs Q pc lst st nn μ :=
  fun p e R s m args below meth c H locs cells slots ls hC hH hL hs h1 h2 h3 h4 => lv_lload_n hC.1 hC.2.1 hd hi (hL.2.2 i _ hl).1 (k p e R s m args below meth c H locs cells slots ls hC hH hL (ok_kr hs) h1 h2 h3 h4)
theorem aw_lload {i : Nat} {z : BitVec 64} (hd : decode y.2.1 pc = .ok (.lload i, 2)) (hl : lst[i]? = some (some (aL z))) (k : AW G x y d bc bs Q (pc + 2) lst (aL z :: st) nn μ) : AW G x y d bc bs Q pc lst st nn μ :=
  fun p e R s m args below meth c H locs cells slots ls hC hH hL hs h1 h2 h3 h4 => lv_lload hC.1 hC.2.1 hd (hL.2.2 i _ hl).1 (k p e R s m args below meth c H locs cells slots ls hC hH hL (ok_kr hs) h1 h2 h3 h4)
theorem aw_aload_n {kk : Fin 4} {i a : Nat} (hd : decode y.2.1 pc = .ok (.aload_n kk, 1)) (hi : (kk : Nat) = i) (hl : lst[i]? = some (some (aP a))) (k : AW G x y d bc bs Q (pc + 1) lst (aP a :: st) nn μ) : AW G x y d bc bs Q pc lst st nn μ :=
  fun p e R s m args below meth c H locs cells slots ls hC hH hL hs h1 h2 h3 h4 => lv_aload_n hC.1 hC.2.1 hd hi (hL.2.2 i _ hl).1 (k p e R s m args below meth c H locs cells slots ls hC hH hL (ok_kr hs) h1 h2 h3 h4)
theorem aw_aload {i a : Nat} (hd : decode y.2.1 pc = .ok (.aload i, 2)) (hl : lst[i]? = some (some (aP a))) (k : AW G x y d bc bs Q (pc + 2) lst (aP a :: st) nn μ) : AW G x y d bc bs Q pc lst st nn μ :=
  fun p e R s m args below meth c H locs cells slots ls hC hH hL hs h1 h2 h3 h4 => lv_aload hC.1 hC.2.1 hd (hL.2.2 i _ hl).1 (k p e R s m args below meth c H locs cells slots ls hC hH hL (ok_kr hs) h1 h2 h3 h4)
theorem aw_istore_n {kk : Fin 4} {i : Nat} {z : Int} (hd : decode y.2.1 pc = .ok (.istore_n kk, 1)) (hi : (kk : Nat) = i) (hn : i < y.2.2.1) (he : ls1 lst i (aI z) = lst') (k : AW G x y d bc bs Q (pc + 1) lst' st nn μ) : AW G x y d bc bs Q pc lst (aI z :: st) nn μ :=
  fun p e R s m args below meth c H locs cells slots ls hC hH hL hs h1 h2 h3 h4 => lv_istore_n hC.1 hC.2.1 hd hi hL.has hn rfl (fun ls' h' => k p e R s m args below meth c H locs cells slots ls' hC hH (hL.set1 (ok_h hs) he h') (ok_s hs) h1 h2 h3 h4)
theorem aw_istore {i : Nat} {z : Int} (hd : decode y.2.1 pc = .ok (.istore i, 2)) (hn : i < y.2.2.1) (he : ls1 lst i (aI z) = lst') (k : AW G x y d bc bs Q (pc + 2) lst' st nn μ) : AW G x y d bc bs Q pc lst (aI z :: st) nn μ :=
  fun p e R s m args below meth c H locs cells slots ls hC hH hL hs h1 h2 h3 h4 => lv_istore hC.1 hC.2.1 hd hL.has hn rfl (fun ls' h' => k p e R s m args below meth c H locs cells slots ls' hC hH (hL.set1 (ok_h hs) he h') (ok_s hs) h1 h2 h3 h4)
theorem aw_lstore_n {kk : Fin 4} {i : Nat} {z : BitVec 64} (hd : decode y.2.1 pc = .ok (.lstore_n kk, 1)) (hi : (kk : Nat) = i) (hn : i + 1 < y.2.2.1) (he : ls2 lst i (aL z) = lst') (k : AW G x y d bc bs Q (pc + 1) lst' st nn μ) : AW G x y d bc bs Q pc lst (aL z :: st) nn μ :=
  fun p e R s m args below meth c H locs cells slots ls hC hH hL hs h1 h2 h3 h4 => lv_lstore_n hC.1 hC.2.1 hd hi hL.has hn rfl (fun ls' h' => k p e R s m args below meth c H locs cells slots ls' hC hH (hL.set2 (v := aL z) trivial he h') (ok_s hs) h1 h2 h3 h4)
theorem aw_lstore {i : Nat} {z : BitVec 64} (hd : decode y.2.1 pc = .ok (.lstore i, 2)) (hn : i + 1 < y.2.2.1) (he : ls2 lst i (aL z) = lst') (k : AW G x y d bc bs Q (pc + 2) lst' st nn μ) : AW G x y d bc bs Q pc lst (aL z :: st) nn μ :=
  fun p e R s m args below meth c H locs cells slots ls hC hH hL hs h1 h2 h3 h4 => lv_lstore hC.1 hC.2.1 hd hL.has hn rfl (fun ls' h' => k p e R s m args below meth c H locs cells slots ls' hC hH (hL.set2 (v := aL z) trivial he h') (ok_s hs) h1 h2 h3 h4)
theorem aw_astore_n {kk : Fin 4} {i a : Nat} (hd : decode y.2.1 pc = .ok (.astore_n kk, 1)) (hi : (kk : Nat) = i) (hn : i < y.2.2.1) (he : ls1 lst i (aP a) = lst') (k : AW G x y d bc bs Q (pc + 1) lst' st nn μ) : AW G x y d bc bs Q pc lst (aP a :: st) nn μ :=
  fun p e R s m args below meth c H locs cells slots ls hC hH hL hs h1 h2 h3 h4 => lv_astore_n hC.1 hC.2.1 hd hi hL.has hn rfl (fun ls' h' => k p e R s m args below meth c H locs cells slots ls' hC hH (hL.set1 (v := aP a) trivial he h') (ok_s hs) h1 h2 h3 h4)
theorem aw_astore {i a : Nat} (hd : decode y.2.1 pc = .ok (.astore i, 2)) (hn : i < y.2.2.1) (he : ls1 lst i (aP a) = lst') (k : AW G x y d bc bs Q (pc + 2) lst' st nn μ) : AW G x y d bc bs Q pc lst (aP a :: st) nn μ :=
  fun p e R s m args below meth c H locs cells slots ls hC hH hL hs h1 h2 h3 h4 => lv_astore hC.1 hC.2.1 hd hL.has hn rfl (fun ls' h' => k p e R s m args below meth c H locs cells slots ls' hC hH (hL.set1 (v := aP a) trivial he h') (ok_s hs) h1 h2 h3 h4)
theorem aw_iinc {i : Nat} {n z : Int} (hd : decode y.2.1 pc = .ok (.iinc i n, 3)) (hn : i < y.2.2.1) (hl : lst[i]? = some (some (aI z))) (hr : inR (z + n)) (he : ls1 lst i (aI (z + n)) = lst') (k : AW G x y d bc bs Q (pc + 3) lst' st nn μ) : AW G x y d bc bs Q pc lst st nn μ := by
  intro p e R s m args below meth c H locs cells slots ls hC hH hL hs h1 h2 h3 h4
  obtain ⟨q, hq⟩ := List.getElem?_of_mem (by simpa using prs_in (G := G) lst 0 i _ hl)
  exact lv_iinc hC.1 hC.2.1 hd hL.has hq (Int32.ofInt_add z n).symm hn rfl (fun ls' h' => k p e R s m args below meth c H locs cells slots ls' hC hH (hL.set1 (v := aI (z + n)) hr he h') hs h1 h2 h3 h4)
end
