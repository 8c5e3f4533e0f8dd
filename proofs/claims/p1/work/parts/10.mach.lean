/-! the abstract machine: values, memory, worlds -/
section
abbrev aV : Type := Int ⊕ (BitVec 64 ⊕ Option Nat)
abbrev aI (z : Int) : aV := Sum.inl z
abbrev aL (b : BitVec 64) : aV := Sum.inr (Sum.inl b)
abbrev aR (o : Option Nat) : aV := Sum.inr (Sum.inr o)
abbrev aP (k : Nat) : aV := Sum.inr (Sum.inr (some k))
abbrev aM : Type := (Nat → Nat → Int) × (Nat → Nat → BitVec 64) × (Nat → Nat → Option Nat)
/-- how many cells are made, their contents -/
abbrev aS : Type := Nat × aM
/-- launch, where the new cells begin, where old cells lie, the script, the classes' numbers -/
abbrev aG : Type := Launch × Nat × (Nat → Nat) × (Nat × (Nat → Int)) × va_G × (Nat → ClassId)
abbrev gl (G : aG) : Launch := G.1
abbrev gb (G : aG) : Nat := G.2.1
abbrev go (G : aG) : Nat → Nat := G.2.2.1
abbrev gn (G : aG) : Nat := G.2.2.2.1.1
abbrev gx (G : aG) : Nat → Int := G.2.2.2.1.2
abbrev gD (G : aG) : va_G := G.2.2.2.2.1
abbrev gt (G : aG) : Nat → ClassId := G.2.2.2.2.2
def inR (z : Int) : Prop := -2147483648 ≤ z ∧ z ≤ 2147483647
def okv : aV → Prop
  | .inl z => inR z
  | .inr _ => True
def adr (G : aG) (k : Nat) : Nat := if k < 1000 then gb G + k else go G (k - 1000)
def cv (G : aG) : aV → Value
  | .inl z => .int (Int32.ofInt z)
  | .inr (.inl b) => .long (Int64.ofBitVec b)
  | .inr (.inr none) => .null
  | .inr (.inr (some k)) => .ref (adr G k)
theorem n_ti {a : Int} (h : inR a) : (Int32.ofInt a).toInt = a := Int32.toInt_ofInt_of_le (by unfold inR at h; omega) (by unfold inR at h; omega)
theorem n_lt {a b : Int} (ha : inR a) (hb : inR b) : Int32.ofInt a < Int32.ofInt b ↔ a < b := by rw [Int32.lt_iff_toInt_lt, n_ti ha, n_ti hb]
theorem n_le {a b : Int} (ha : inR a) (hb : inR b) : Int32.ofInt a ≤ Int32.ofInt b ↔ a ≤ b := by rw [Int32.le_iff_toInt_le, n_ti ha, n_ti hb]
theorem n_eq {a b : Int} (ha : inR a) (hb : inR b) : Int32.ofInt a = Int32.ofInt b ↔ a = b := ⟨fun h => by have := congrArg Int32.toInt h; rwa [n_ti ha, n_ti hb] at this, fun h => by rw [h]⟩
theorem n_0 : Int32.ofInt 0 = 0 := rfl
theorem inR_0 : inR 0 := by unfold inR; omega
theorem n_in {i : Int} {n : Nat} (h : inR i) (h0 : 0 ≤ i) (h1 : i < n) : vp_in (Int32.ofInt i) n := by rw [vp_in_iff, n_ti h]; exact ⟨h0, h1⟩
theorem n_cl {i : Int} (h : inR i) : (Int32.ofInt i).toNatClampNeg = i.toNat := Int32.toNatClampNeg_ofInt_of_le (by unfold inR at h; omega) (by unfold inR at h; omega)
def mI (μ : aM) (k i : Nat) : Int := μ.1 k i
def mL (μ : aM) (k i : Nat) : BitVec 64 := μ.2.1 k i
def mR (μ : aM) (k i : Nat) : Option Nat := μ.2.2 k i
def wI (μ : aM) (k i : Nat) (z : Int) : aM := (fun a j => if a = k ∧ j = i then z else μ.1 a j, μ.2)
def wL (μ : aM) (k i : Nat) (z : BitVec 64) : aM := (μ.1, fun a j => if a = k ∧ j = i then z else μ.2.1 a j, μ.2.2)
def wR (μ : aM) (k i : Nat) (z : Option Nat) : aM := (μ.1, μ.2.1, fun a j => if a = k ∧ j = i then z else μ.2.2 a j)
def fval (μ : aM) (k j t : Nat) : aV := if t = 0 then aI (μ.1 k j) else if t = 1 then aL (μ.2.1 k j) else aR (μ.2.2 k j)
/-- what the cell k is, its shape being q: 0 int[], 1 long[], 2 char[], 3 boolean[], 4 Decision[], 5 int[][], 10 + c an object of class c -/
def kE (G : aG) (μ : aM) (k : Nat) (q : Nat × Nat) : va_E :=
  if q.1 = 1 then .inl (gt G 1, q.2, .inr (.inl (fun i => Int64.ofBitVec (μ.2.1 k i))))
  else if q.1 < 4 then .inl (gt G q.1, q.2, .inl (fun i => Int32.ofInt (μ.1 k i)))
  else if q.1 < 10 then .inl (gt G q.1, q.2, .inr (.inr (.inr (.inr (fun i => (μ.2.2 k i).map (adr G))))))
  else .inr (q.1 - 10, (fkL (q.1 - 10)).mapIdx (fun j t => cv G (fval μ k j t)))
def wld (G : aG) (σ : aS) : va_W := (shL.take σ.1).mapIdx (fun k q => (gb G + k, kE G σ.2 k q))
theorem wld_at {G : aG} {σ : aS} {k : Nat} {q : Nat × Nat} (hk : k < σ.1) (hq : shL[k]? = some q) : (wld G σ)[k]? = some (gb G + k, kE G σ.2 k q) := by
  simp [wld, List.getElem?_mapIdx, List.getElem?_take, hk, hq]
theorem wld_of {G : aG} {σ : aS} {k : Nat} {w : Nat × va_E} (h : (wld G σ)[k]? = some w) : k < σ.1 ∧ ∃ q, shL[k]? = some q ∧ w = (gb G + k, kE G σ.2 k q) := by
  simp only [wld, List.getElem?_mapIdx, List.getElem?_take] at h
  split at h
  · rename_i hk
    cases hq : shL[k]? with
    | none => rw [hq] at h; cases h
    | some q =>
      rw [hq] at h
      exact ⟨hk, q, rfl, (Option.some.inj h).symm⟩
  · cases h
def gA (G : aG) : Nat → Prop := fun q => gb G ≤ q
theorem wld_D (G : aG) (σ : aS) : va_D (gA G) (wld G σ) := by
  refine ⟨fun i j p q hp hq e => ?_, fun k q hq => ?_⟩
  · obtain ⟨-, a, -, rfl⟩ := wld_of hp
    obtain ⟨-, b, -, rfl⟩ := wld_of hq
    have e' : gb G + i = gb G + j := e
    omega
  · obtain ⟨-, a, -, rfl⟩ := wld_of hq
    exact Nat.le_add_right _ _
theorem kE_eq {G : aG} {μ ν : aM} {k : Nat} (h1 : μ.1 k = ν.1 k) (h2 : μ.2.1 k = ν.2.1 k) (h3 : μ.2.2 k = ν.2.2 k) (q : Nat × Nat) : kE G μ k q = kE G ν k q := by
  have h : ∀ j t, fval μ k j t = fval ν k j t := fun j t => by simp only [fval, h1, h2, h3]
  simp only [kE, h1, h2, h3, h]
theorem wld_set {G : aG} {n k : Nat} {μ ν : aM} {q : Nat × Nat} (hk : k < n) (hq : shL[k]? = some q) (h : ∀ j, j ≠ k → μ.1 j = ν.1 j ∧ μ.2.1 j = ν.2.1 j ∧ μ.2.2 j = ν.2.2 j) :
    (wld G (n, μ)).set k (gb G + k, kE G ν k q) = wld G (n, ν) := by
  apply List.ext_getElem?
  intro j
  have hlen : k < (wld G (n, μ)).length := (List.getElem?_eq_some_iff.mp (wld_at (G := G) (σ := (n, μ)) hk hq)).1
  by_cases e : k = j
  · subst e
    rw [List.getElem?_set_self hlen]
    exact (wld_at (G := G) (σ := (n, ν)) hk hq).symm
  · rw [List.getElem?_set_ne e]
    obtain ⟨a1, a2, a3⟩ := h j (fun z => e z.symm)
    simp only [wld, List.getElem?_mapIdx, kE_eq a1 a2 a3]
theorem wI_off (μ : aM) (k i : Nat) (z : Int) : ∀ j, j ≠ k → μ.1 j = (wI μ k i z).1 j ∧ μ.2.1 j = (wI μ k i z).2.1 j ∧ μ.2.2 j = (wI μ k i z).2.2 j :=
  fun j hj => ⟨funext fun a => by simp [wI, hj], rfl, rfl⟩
theorem wL_off (μ : aM) (k i : Nat) (z : BitVec 64) : ∀ j, j ≠ k → μ.1 j = (wL μ k i z).1 j ∧ μ.2.1 j = (wL μ k i z).2.1 j ∧ μ.2.2 j = (wL μ k i z).2.2 j :=
  fun j hj => ⟨rfl, funext fun a => by simp [wL, hj], rfl⟩
theorem wR_off (μ : aM) (k i : Nat) (z : Option Nat) : ∀ j, j ≠ k → μ.1 j = (wR μ k i z).1 j ∧ μ.2.1 j = (wR μ k i z).2.1 j ∧ μ.2.2 j = (wR μ k i z).2.2 j :=
  fun j hj => ⟨rfl, rfl, funext fun a => by simp [wR, hj]⟩
end
