/-! constructors -/
section
theorem in_c {z : Int} (h : (decide (-2147483648 ≤ z) && decide (z ≤ 2147483647)) = true) : inR z := by
  simp only [Bool.and_eq_true, decide_eq_true_eq] at h
  exact h
theorem aw_pc {G : aG} {x : Bool} {y : aY} {d bc bs : Nat} {Q : aQ → Nat → aM → Prop} {pc pc' : Nat} {lst : List (Option aV)} {st : List aV} {nn : Nat} {μ : aM} (h : pc = pc') (k : AW G x y d bc bs Q pc' lst st nn μ) : AW G x y d bc bs Q pc lst st nn μ := h ▸ k
def Zs (n : Nat) (μ : aM) : Prop := ∀ k, n ≤ k → zer k μ
theorem Zs.le {n m : Nat} {μ : aM} (h : Zs n μ) (hn : n ≤ m) : Zs m μ := fun k hk => h k (Nat.le_trans hn hk)
theorem zs_here {n : Nat} {μ : aM} (h : Zs n μ) : zer n μ := h n (Nat.le_refl _)
theorem Zs.wR {n o j : Nat} {v : Option Nat} {μ : aM} (h : Zs n μ) (ho : o < n) : Zs n (wR μ o j v) := fun k hk i => by
  obtain ⟨a, b, c⟩ := h k hk i
  refine ⟨a, b, ?_⟩
  show (if k = o ∧ i = j then v else μ.2.2 k i) = none
  rw [if_neg (fun q => by omega)]
  exact c
theorem Zs.wI {n o j : Nat} {v : Int} {μ : aM} (h : Zs n μ) (ho : o < n) : Zs n (wI μ o j v) := fun k hk i => by
  obtain ⟨a, b, c⟩ := h k hk i
  refine ⟨?_, b, c⟩
  show (if k = o ∧ i = j then v else μ.1 k i) = 0
  rw [if_neg (fun q => by omega)]
  exact a
theorem Zs.wL {n o j : Nat} {v : BitVec 64} {μ : aM} (h : Zs n μ) (ho : o < n) : Zs n (wL μ o j v) := fun k hk i => by
  obtain ⟨a, b, c⟩ := h k hk i
  refine ⟨a, ?_, c⟩
  show (if k = o ∧ i = j then v else μ.2.1 k i) = 0
  rw [if_neg (fun q => by omega)]
  exact b
theorem Zs.mn {n o : Nat} {μ : aM} (h : Zs n μ) (ho : o < n) : Zs n (mnR μ o) := fun k hk i => by
  obtain ⟨a, b, c⟩ := h k hk i
  refine ⟨a, b, ?_⟩
  show (if k = o then _ else μ.2.2 k i) = none
  rw [if_neg (by omega)]
  exact c
theorem fk_MC : ∀ j, j < 12 → ∃ t, (fkL 0)[j]? = some t ∧ tyK t (ty_MC j)
  | 0, _ => ⟨2, rfl, Or.inr (Or.inr ⟨rfl, Or.inl ⟨_, rfl⟩⟩)⟩
  | 1, _ => ⟨2, rfl, Or.inr (Or.inr ⟨rfl, Or.inl ⟨_, rfl⟩⟩)⟩
  | 2, _ => ⟨2, rfl, Or.inr (Or.inr ⟨rfl, Or.inl ⟨_, rfl⟩⟩)⟩
  | 3, _ => ⟨2, rfl, Or.inr (Or.inr ⟨rfl, Or.inl ⟨_, rfl⟩⟩)⟩
  | 4, _ => ⟨2, rfl, Or.inr (Or.inr ⟨rfl, Or.inl ⟨_, rfl⟩⟩)⟩
  | 5, _ => ⟨2, rfl, Or.inr (Or.inr ⟨rfl, Or.inl ⟨_, rfl⟩⟩)⟩
  | 6, _ => ⟨2, rfl, Or.inr (Or.inr ⟨rfl, Or.inr ⟨_, rfl⟩⟩)⟩
  | 7, _ => ⟨2, rfl, Or.inr (Or.inr ⟨rfl, Or.inl ⟨_, rfl⟩⟩)⟩
  | 8, _ => ⟨2, rfl, Or.inr (Or.inr ⟨rfl, Or.inl ⟨_, rfl⟩⟩)⟩
  | 9, _ => ⟨2, rfl, Or.inr (Or.inr ⟨rfl, Or.inl ⟨_, rfl⟩⟩)⟩
  | 10, _ => ⟨0, rfl, Or.inl ⟨rfl, rfl⟩⟩
  | 11, _ => ⟨2, rfl, Or.inr (Or.inr ⟨rfl, Or.inl ⟨_, rfl⟩⟩)⟩
  | j + 12, h => absurd h (by omega)
theorem fk_In : ∀ j, j < 3 → ∃ t, (fkL 1)[j]? = some t ∧ tyK t (ty_In j)
  | 0, _ => ⟨2, rfl, Or.inr (Or.inr ⟨rfl, Or.inr ⟨_, rfl⟩⟩)⟩
  | 1, _ => ⟨2, rfl, Or.inr (Or.inr ⟨rfl, Or.inr ⟨_, rfl⟩⟩)⟩
  | 2, _ => ⟨0, rfl, Or.inl ⟨rfl, rfl⟩⟩
  | j + 3, h => absurd h (by omega)
theorem fk_Co : ∀ j, j < 5 → ∃ t, (fkL 2)[j]? = some t ∧ tyK t (ty_Co j)
  | 0, _ => ⟨2, rfl, Or.inr (Or.inr ⟨rfl, Or.inr ⟨_, rfl⟩⟩)⟩
  | 1, _ => ⟨2, rfl, Or.inr (Or.inr ⟨rfl, Or.inr ⟨_, rfl⟩⟩)⟩
  | 2, _ => ⟨2, rfl, Or.inr (Or.inr ⟨rfl, Or.inr ⟨_, rfl⟩⟩)⟩
  | 3, _ => ⟨2, rfl, Or.inr (Or.inr ⟨rfl, Or.inr ⟨_, rfl⟩⟩)⟩
  | 4, _ => ⟨0, rfl, Or.inl ⟨rfl, rfl⟩⟩
  | j + 5, h => absurd h (by omega)
theorem fk_Li : ∀ j, j < 2 → ∃ t, (fkL 3)[j]? = some t ∧ tyK t (ty_Li j)
  | 0, _ => ⟨2, rfl, Or.inr (Or.inr ⟨rfl, Or.inr ⟨_, rfl⟩⟩)⟩
  | 1, _ => ⟨0, rfl, Or.inl ⟨rfl, rfl⟩⟩
  | j + 2, h => absurd h (by omega)
theorem fk_Tr : ∀ j, j < 7 → ∃ t, (fkL 4)[j]? = some t ∧ tyK t (ty_Tr j)
  | 0, _ => ⟨2, rfl, Or.inr (Or.inr ⟨rfl, Or.inr ⟨_, rfl⟩⟩)⟩
  | 1, _ => ⟨2, rfl, Or.inr (Or.inr ⟨rfl, Or.inr ⟨_, rfl⟩⟩)⟩
  | 2, _ => ⟨2, rfl, Or.inr (Or.inr ⟨rfl, Or.inr ⟨_, rfl⟩⟩)⟩
  | 3, _ => ⟨2, rfl, Or.inr (Or.inr ⟨rfl, Or.inr ⟨_, rfl⟩⟩)⟩
  | 4, _ => ⟨2, rfl, Or.inr (Or.inr ⟨rfl, Or.inr ⟨_, rfl⟩⟩)⟩
  | 5, _ => ⟨0, rfl, Or.inl ⟨rfl, rfl⟩⟩
  | 6, _ => ⟨0, rfl, Or.inl ⟨rfl, rfl⟩⟩
  | j + 7, h => absurd h (by omega)
theorem fk_Re : ∀ j, j < 5 → ∃ t, (fkL 5)[j]? = some t ∧ tyK t (ty_Re j)
  | 0, _ => ⟨2, rfl, Or.inr (Or.inr ⟨rfl, Or.inl ⟨_, rfl⟩⟩)⟩
  | 1, _ => ⟨2, rfl, Or.inr (Or.inr ⟨rfl, Or.inl ⟨_, rfl⟩⟩)⟩
  | 2, _ => ⟨0, rfl, Or.inl ⟨rfl, rfl⟩⟩
  | 3, _ => ⟨0, rfl, Or.inl ⟨rfl, rfl⟩⟩
  | 4, _ => ⟨0, rfl, Or.inl ⟨rfl, rfl⟩⟩
  | j + 5, h => absurd h (by omega)
theorem fk_De : ∀ j, j < 10 → ∃ t, (fkL 6)[j]? = some t ∧ tyK t (ty_De j)
  | 0, _ => ⟨2, rfl, Or.inr (Or.inr ⟨rfl, Or.inl ⟨_, rfl⟩⟩)⟩
  | 1, _ => ⟨2, rfl, Or.inr (Or.inr ⟨rfl, Or.inl ⟨_, rfl⟩⟩)⟩
  | 2, _ => ⟨2, rfl, Or.inr (Or.inr ⟨rfl, Or.inr ⟨_, rfl⟩⟩)⟩
  | 3, _ => ⟨2, rfl, Or.inr (Or.inr ⟨rfl, Or.inr ⟨_, rfl⟩⟩)⟩
  | 4, _ => ⟨2, rfl, Or.inr (Or.inr ⟨rfl, Or.inr ⟨_, rfl⟩⟩)⟩
  | 5, _ => ⟨2, rfl, Or.inr (Or.inr ⟨rfl, Or.inr ⟨_, rfl⟩⟩)⟩
  | 6, _ => ⟨2, rfl, Or.inr (Or.inr ⟨rfl, Or.inr ⟨_, rfl⟩⟩)⟩
  | 7, _ => ⟨0, rfl, Or.inl ⟨rfl, rfl⟩⟩
  | 8, _ => ⟨1, rfl, Or.inr (Or.inl ⟨rfl, rfl⟩)⟩
  | 9, _ => ⟨1, rfl, Or.inr (Or.inl ⟨rfl, rfl⟩)⟩
  | j + 10, h => absurd h (by omega)
theorem fk_Wa : ∀ j, j < 3 → ∃ t, (fkL 7)[j]? = some t ∧ tyK t (ty_Wa j)
  | 0, _ => ⟨2, rfl, Or.inr (Or.inr ⟨rfl, Or.inl ⟨_, rfl⟩⟩)⟩
  | 1, _ => ⟨2, rfl, Or.inr (Or.inr ⟨rfl, Or.inl ⟨_, rfl⟩⟩)⟩
  | 2, _ => ⟨2, rfl, Or.inr (Or.inr ⟨rfl, Or.inr ⟨_, rfl⟩⟩)⟩
  | j + 3, h => absurd h (by omega)
theorem fk_Su : ∀ j, j < 3 → ∃ t, (fkL 8)[j]? = some t ∧ tyK t (ty_Su j)
  | 0, _ => ⟨2, rfl, Or.inr (Or.inr ⟨rfl, Or.inr ⟨_, rfl⟩⟩)⟩
  | 1, _ => ⟨0, rfl, Or.inl ⟨rfl, rfl⟩⟩
  | 2, _ => ⟨1, rfl, Or.inr (Or.inl ⟨rfl, rfl⟩)⟩
  | j + 3, h => absurd h (by omega)
theorem fk_Fe : ∀ j, j < 5 → ∃ t, (fkL 9)[j]? = some t ∧ tyK t (ty_Fe j)
  | 0, _ => ⟨2, rfl, Or.inr (Or.inr ⟨rfl, Or.inr ⟨_, rfl⟩⟩)⟩
  | 1, _ => ⟨0, rfl, Or.inl ⟨rfl, rfl⟩⟩
  | 2, _ => ⟨0, rfl, Or.inl ⟨rfl, rfl⟩⟩
  | 3, _ => ⟨1, rfl, Or.inr (Or.inl ⟨rfl, rfl⟩)⟩
  | 4, _ => ⟨0, rfl, Or.inl ⟨rfl, rfl⟩⟩
  | j + 5, h => absurd h (by omega)
theorem fk_Rc : ∀ j, j < 2 → ∃ t, (fkL 10)[j]? = some t ∧ tyK t (ty_Rc j)
  | 0, _ => ⟨2, rfl, Or.inr (Or.inr ⟨rfl, Or.inr ⟨_, rfl⟩⟩)⟩
  | 1, _ => ⟨0, rfl, Or.inl ⟨rfl, rfl⟩⟩
  | j + 2, h => absurd h (by omega)
theorem fk_Mo : ∀ j, j < 35 → ∃ t, (fkL 11)[j]? = some t ∧ tyK t (ty_Mo j)
  | 0, _ => ⟨0, rfl, Or.inl ⟨rfl, rfl⟩⟩
  | 1, _ => ⟨0, rfl, Or.inl ⟨rfl, rfl⟩⟩
  | 2, _ => ⟨2, rfl, Or.inr (Or.inr ⟨rfl, Or.inr ⟨_, rfl⟩⟩)⟩
  | 3, _ => ⟨2, rfl, Or.inr (Or.inr ⟨rfl, Or.inr ⟨_, rfl⟩⟩)⟩
  | 4, _ => ⟨0, rfl, Or.inl ⟨rfl, rfl⟩⟩
  | 5, _ => ⟨2, rfl, Or.inr (Or.inr ⟨rfl, Or.inr ⟨_, rfl⟩⟩)⟩
  | 6, _ => ⟨2, rfl, Or.inr (Or.inr ⟨rfl, Or.inr ⟨_, rfl⟩⟩)⟩
  | 7, _ => ⟨2, rfl, Or.inr (Or.inr ⟨rfl, Or.inr ⟨_, rfl⟩⟩)⟩
  | 8, _ => ⟨2, rfl, Or.inr (Or.inr ⟨rfl, Or.inr ⟨_, rfl⟩⟩)⟩
  | 9, _ => ⟨0, rfl, Or.inl ⟨rfl, rfl⟩⟩
  | 10, _ => ⟨2, rfl, Or.inr (Or.inr ⟨rfl, Or.inr ⟨_, rfl⟩⟩)⟩
  | 11, _ => ⟨0, rfl, Or.inl ⟨rfl, rfl⟩⟩
  | 12, _ => ⟨2, rfl, Or.inr (Or.inr ⟨rfl, Or.inr ⟨_, rfl⟩⟩)⟩
  | 13, _ => ⟨2, rfl, Or.inr (Or.inr ⟨rfl, Or.inr ⟨_, rfl⟩⟩)⟩
  | 14, _ => ⟨2, rfl, Or.inr (Or.inr ⟨rfl, Or.inr ⟨_, rfl⟩⟩)⟩
  | 15, _ => ⟨2, rfl, Or.inr (Or.inr ⟨rfl, Or.inr ⟨_, rfl⟩⟩)⟩
  | 16, _ => ⟨2, rfl, Or.inr (Or.inr ⟨rfl, Or.inr ⟨_, rfl⟩⟩)⟩
  | 17, _ => ⟨2, rfl, Or.inr (Or.inr ⟨rfl, Or.inr ⟨_, rfl⟩⟩)⟩
  | 18, _ => ⟨2, rfl, Or.inr (Or.inr ⟨rfl, Or.inr ⟨_, rfl⟩⟩)⟩
  | 19, _ => ⟨2, rfl, Or.inr (Or.inr ⟨rfl, Or.inr ⟨_, rfl⟩⟩)⟩
  | 20, _ => ⟨2, rfl, Or.inr (Or.inr ⟨rfl, Or.inr ⟨_, rfl⟩⟩)⟩
  | 21, _ => ⟨2, rfl, Or.inr (Or.inr ⟨rfl, Or.inr ⟨_, rfl⟩⟩)⟩
  | 22, _ => ⟨2, rfl, Or.inr (Or.inr ⟨rfl, Or.inr ⟨_, rfl⟩⟩)⟩
  | 23, _ => ⟨2, rfl, Or.inr (Or.inr ⟨rfl, Or.inr ⟨_, rfl⟩⟩)⟩
  | 24, _ => ⟨2, rfl, Or.inr (Or.inr ⟨rfl, Or.inr ⟨_, rfl⟩⟩)⟩
  | 25, _ => ⟨2, rfl, Or.inr (Or.inr ⟨rfl, Or.inr ⟨_, rfl⟩⟩)⟩
  | 26, _ => ⟨0, rfl, Or.inl ⟨rfl, rfl⟩⟩
  | 27, _ => ⟨0, rfl, Or.inl ⟨rfl, rfl⟩⟩
  | 28, _ => ⟨0, rfl, Or.inl ⟨rfl, rfl⟩⟩
  | 29, _ => ⟨2, rfl, Or.inr (Or.inr ⟨rfl, Or.inr ⟨_, rfl⟩⟩)⟩
  | 30, _ => ⟨2, rfl, Or.inr (Or.inr ⟨rfl, Or.inr ⟨_, rfl⟩⟩)⟩
  | 31, _ => ⟨0, rfl, Or.inl ⟨rfl, rfl⟩⟩
  | 32, _ => ⟨2, rfl, Or.inr (Or.inr ⟨rfl, Or.inr ⟨_, rfl⟩⟩)⟩
  | 33, _ => ⟨0, rfl, Or.inl ⟨rfl, rfl⟩⟩
  | 34, _ => ⟨2, rfl, Or.inr (Or.inr ⟨rfl, Or.inr ⟨_, rfl⟩⟩)⟩
  | j + 35, h => absurd h (by omega)
def ini_In_init_1 (μ : aM) : aM := (wI (wR (wR μ 1 0 (some 2)) 1 1 (some 3)) 1 2 0)
def ini_Co_init_4 (μ : aM) : aM := (wI (wR (wR (wR (wR μ 4 0 (some 5)) 4 1 (some 6)) 4 2 (some 7)) 4 3 (some 8)) 4 4 0)
def ini_Li_init_9 (μ : aM) : aM := (wI (wR μ 9 0 (some 10)) 9 1 0)
def ini_Tr_init_11 (μ : aM) : aM := (wI (wI (wR (wR (wR (wR (wR μ 11 0 (some 12)) 11 1 (some 13)) 11 2 (some 14)) 11 3 (some 15)) 11 4 (some 16)) 11 5 0) 11 6 0)
def ini_Re_init_17 (μ : aM) : aM := (wR (wR (wI (wI (wI μ 17 2 0) 17 3 0) 17 4 (-1)) 17 0 (some 9)) 17 1 (some 11))
def ini_Wa_init_18 (μ : aM) : aM := (wR (wR (wR (mnR μ 19) 18 2 (some 19)) 18 0 (some 1)) 18 1 (some 4))
def ini_Li_init_28 (μ : aM) : aM := (wI (wR μ 28 0 (some 29)) 28 1 0)
def ini_De_init_27 (μ : aM) : aM := (wR (wL (wL (wI (wR (wR (wR (wR (wR (wR (ini_Li_init_28 μ) 27 1 (some 28)) 27 2 (some 30)) 27 3 (some 31)) 27 4 (some 32)) 27 5 (some 33)) 27 6 (some 34)) 27 7 0) 27 8 0) 27 9 0) 27 0 (some 4))
def ini_Li_init_36 (μ : aM) : aM := (wI (wR μ 36 0 (some 37)) 36 1 0)
def ini_De_init_35 (μ : aM) : aM := (wR (wL (wL (wI (wR (wR (wR (wR (wR (wR (ini_Li_init_36 μ) 35 1 (some 36)) 35 2 (some 38)) 35 3 (some 39)) 35 4 (some 40)) 35 5 (some 41)) 35 6 (some 42)) 35 7 0) 35 8 0) 35 9 0) 35 0 (some 4))
def ini_Li_init_44 (μ : aM) : aM := (wI (wR μ 44 0 (some 45)) 44 1 0)
def ini_De_init_43 (μ : aM) : aM := (wR (wL (wL (wI (wR (wR (wR (wR (wR (wR (ini_Li_init_44 μ) 43 1 (some 44)) 43 2 (some 46)) 43 3 (some 47)) 43 4 (some 48)) 43 5 (some 49)) 43 6 (some 50)) 43 7 0) 43 8 0) 43 9 0) 43 0 (some 4))
def ini_Li_init_52 (μ : aM) : aM := (wI (wR μ 52 0 (some 53)) 52 1 0)
def ini_De_init_51 (μ : aM) : aM := (wR (wL (wL (wI (wR (wR (wR (wR (wR (wR (ini_Li_init_52 μ) 51 1 (some 52)) 51 2 (some 54)) 51 3 (some 55)) 51 4 (some 56)) 51 5 (some 57)) 51 6 (some 58)) 51 7 0) 51 8 0) 51 9 0) 51 0 (some 4))
def ini_Su_init_59 (μ : aM) : aM := (wL (wI (wR μ 59 0 (some 60)) 59 1 0) 59 2 0)
def ini_Fe_init_61 (μ : aM) : aM := (wI (wL (wI (wI (wR μ 61 0 (some 62)) 61 1 0) 61 2 0) 61 3 0) 61 4 0)
def ini_Rc_init_63 (μ : aM) : aM := (wI (wR μ 63 0 (some 64)) 63 1 0)
def ini_Li_init_65 (μ : aM) : aM := (wI (wR μ 65 0 (some 66)) 65 1 0)
def ini_MC_init_0 (μ : aM) : aM := (wR (ini_Li_init_65 (wI (wR (ini_Rc_init_63 (wR (ini_Fe_init_61 (wR (ini_Su_init_59 (wR (ini_De_init_51 (wR (ini_De_init_43 (wR (ini_De_init_35 (wR (ini_De_init_27 (wR (wR (ini_Wa_init_18 (wR (ini_Re_init_17 (wR (ini_Tr_init_11 (wR (ini_Li_init_9 (wR (ini_Co_init_4 (wR (ini_In_init_1 μ) 0 0 (some 1))) 0 1 (some 4))) 0 2 (some 9))) 0 3 (some 11))) 0 4 (some 17))) 0 5 (some 18)) 0 6 (some 26))) 26 0 (some 27))) 26 1 (some 35))) 26 2 (some 43))) 26 3 (some 51))) 0 7 (some 59))) 0 8 (some 61))) 0 9 (some 63)) 0 10 0)) 0 11 (some 65))
def ini_Mo_init_67 (μ : aM) : aM := (wR (wR (wR (wR (wR (wR (wR (wR (wR (wR (wR (wR (wR (wR (wR (wR (wR (wR (wR (wR (wR (wR (wR (wR (wR μ 67 2 (some 68)) 67 3 (some 69)) 67 5 (some 70)) 67 6 (some 71)) 67 7 (some 72)) 67 8 (some 73)) 67 10 (some 74)) 67 12 (some 75)) 67 13 (some 76)) 67 14 (some 77)) 67 15 (some 78)) 67 16 (some 79)) 67 17 (some 80)) 67 18 (some 81)) 67 19 (some 82)) 67 20 (some 83)) 67 21 (some 84)) 67 22 (some 85)) 67 23 (some 86)) 67 24 (some 87)) 67 25 (some 88)) 67 29 (some 89)) 67 30 (some 90)) 67 32 (some 91)) 67 34 (some 92))
variable {G : aG}
set_option maxRecDepth 100000 in
theorem am_In_init_1 {d : Nat} (hd : 1 ≤ d) {μ : aM} (hz : Zs 2 μ) : AM G true d 2 6 y_In_init [aP 1] 2 μ (Qe none 4 (ini_In_init_1 μ)) := by
  refine am_of (n := 0) pf_In_init (Nat.le_of_ble_eq_true rfl) (by intro v hv; simp at hv; rcases hv with rfl <;> trivial) rfl ?_
  refine aw_aload_n d_In_init_0 rfl rfl ?_
  refine aw_oinit ol_In_3 oi_in oi_cd d_In_init_1 (by omega) (Nat.le_of_ble_eq_true rfl) ?_
  refine aw_aload_n d_In_init_4 rfl rfl ?_
  refine aw_iconst d_In_init_5 (in_c rfl) ?_
  refine aw_newa (atype := .int) rfl rfl (zs_here (by (repeat (first | refine Zs.wR ?_ (by omega) | refine Zs.wI ?_ (by omega) | refine Zs.wL ?_ (by omega) | refine Zs.mn ?_ (by omega))); exact Zs.le hz (by omega))) (Or.inl ⟨rfl, rfl⟩) rfl ac_int rfl (by decide) d_In_init_6 (by omega) (by omega) ?_
  refine aw_putR fd_In_low lk_In_9 (by omega) rfl d_In_init_8 (Or.inr ⟨rfl, rfl, lp_In_9⟩) ?_
  refine aw_aload_n d_In_init_11 rfl rfl ?_
  refine aw_iconst d_In_init_12 (in_c rfl) ?_
  refine aw_newa (atype := .int) rfl rfl (zs_here (by (repeat (first | refine Zs.wR ?_ (by omega) | refine Zs.wI ?_ (by omega) | refine Zs.wL ?_ (by omega) | refine Zs.mn ?_ (by omega))); exact Zs.le hz (by omega))) (Or.inl ⟨rfl, rfl⟩) rfl ac_int rfl (by decide) d_In_init_13 (by omega) (by omega) ?_
  refine aw_putR fd_In_high lk_In_15 (by omega) rfl d_In_init_15 (Or.inr ⟨rfl, rfl, lp_In_15⟩) ?_
  refine aw_aload_n d_In_init_18 rfl rfl ?_
  refine aw_pc (pc' := 19) rfl ?_
  refine aw_iconst d_In_init_19 (in_c rfl) ?_
  refine aw_putI fd_In_count lk_In_18 (by omega) rfl d_In_init_20 (Or.inl rfl) ?_
  exact aw_vret d_In_init_23 rfl ⟨rfl, rfl, rfl⟩
set_option maxRecDepth 100000 in
theorem am_Co_init_4 {d : Nat} (hd : 1 ≤ d) {μ : aM} (hz : Zs 5 μ) : AM G true d 4 32 y_Co_init [aP 4] 5 μ (Qe none 9 (ini_Co_init_4 μ)) := by
  refine am_of (n := 0) pf_Co_init (Nat.le_of_ble_eq_true rfl) (by intro v hv; simp at hv; rcases hv with rfl <;> trivial) rfl ?_
  refine aw_aload_n d_Co_init_0 rfl rfl ?_
  refine aw_oinit ol_Co_3 oi_in oi_cd d_Co_init_1 (by omega) (Nat.le_of_ble_eq_true rfl) ?_
  refine aw_aload_n d_Co_init_4 rfl rfl ?_
  refine aw_bipush (z := 8) d_Co_init_5 (in_c rfl) rfl ?_
  refine aw_newa (atype := .int) rfl rfl (zs_here (by (try simp only [ini_In_init_1]); (repeat (first | refine Zs.wR ?_ (by omega) | refine Zs.wI ?_ (by omega) | refine Zs.wL ?_ (by omega) | refine Zs.mn ?_ (by omega))); exact Zs.le hz (by omega))) (Or.inl ⟨rfl, rfl⟩) rfl ac_int rfl (by decide) d_Co_init_7 (by omega) (by omega) ?_
  refine aw_putR fd_Co_kinds lk_Co_9 (by omega) rfl d_Co_init_9 (Or.inr ⟨rfl, rfl, lp_Co_9⟩) ?_
  refine aw_aload_n d_Co_init_12 rfl rfl ?_
  refine aw_bipush (z := 8) d_Co_init_13 (in_c rfl) rfl ?_
  refine aw_newa (atype := .int) rfl rfl (zs_here (by (try simp only [ini_In_init_1]); (repeat (first | refine Zs.wR ?_ (by omega) | refine Zs.wI ?_ (by omega) | refine Zs.wL ?_ (by omega) | refine Zs.mn ?_ (by omega))); exact Zs.le hz (by omega))) (Or.inl ⟨rfl, rfl⟩) rfl ac_int rfl (by decide) d_Co_init_15 (by omega) (by omega) ?_
  refine aw_putR fd_Co_firsts lk_Co_15 (by omega) rfl d_Co_init_17 (Or.inr ⟨rfl, rfl, lp_Co_15⟩) ?_
  refine aw_aload_n d_Co_init_20 rfl rfl ?_
  refine aw_pc (pc' := 21) rfl ?_
  refine aw_bipush (z := 8) d_Co_init_21 (in_c rfl) rfl ?_
  refine aw_newa (atype := .int) rfl rfl (zs_here (by (try simp only [ini_In_init_1]); (repeat (first | refine Zs.wR ?_ (by omega) | refine Zs.wI ?_ (by omega) | refine Zs.wL ?_ (by omega) | refine Zs.mn ?_ (by omega))); exact Zs.le hz (by omega))) (Or.inl ⟨rfl, rfl⟩) rfl ac_int rfl (by decide) d_Co_init_23 (by omega) (by omega) ?_
  refine aw_putR fd_Co_seconds lk_Co_18 (by omega) rfl d_Co_init_25 (Or.inr ⟨rfl, rfl, lp_Co_18⟩) ?_
  refine aw_aload_n d_Co_init_28 rfl rfl ?_
  refine aw_bipush (z := 8) d_Co_init_29 (in_c rfl) rfl ?_
  refine aw_newa (atype := .int) rfl rfl (zs_here (by (try simp only [ini_In_init_1]); (repeat (first | refine Zs.wR ?_ (by omega) | refine Zs.wI ?_ (by omega) | refine Zs.wL ?_ (by omega) | refine Zs.mn ?_ (by omega))); exact Zs.le hz (by omega))) (Or.inl ⟨rfl, rfl⟩) rfl ac_int rfl (by decide) d_Co_init_31 (by omega) (by omega) ?_
  refine aw_putR fd_Co_limits lk_Co_21 (by omega) rfl d_Co_init_33 (Or.inr ⟨rfl, rfl, lp_Co_21⟩) ?_
  refine aw_aload_n d_Co_init_36 rfl rfl ?_
  refine aw_iconst d_Co_init_37 (in_c rfl) ?_
  refine aw_putI fd_Co_count lk_Co_24 (by omega) rfl d_Co_init_38 (Or.inl rfl) ?_
  exact aw_vret d_Co_init_41 rfl ⟨rfl, rfl, rfl⟩
set_option maxRecDepth 100000 in
theorem am_Li_init_9 {d : Nat} (hd : 1 ≤ d) {μ : aM} (hz : Zs 10 μ) : AM G true d 1 40 y_Li_init [aP 9] 10 μ (Qe none 11 (ini_Li_init_9 μ)) := by
  refine am_of (n := 0) pf_Li_init (Nat.le_of_ble_eq_true rfl) (by intro v hv; simp at hv; rcases hv with rfl <;> trivial) rfl ?_
  refine aw_aload_n d_Li_init_0 rfl rfl ?_
  refine aw_oinit ol_Li_3 oi_in oi_cd d_Li_init_1 (by omega) (Nat.le_of_ble_eq_true rfl) ?_
  refine aw_aload_n d_Li_init_4 rfl rfl ?_
  refine aw_bipush (z := 40) d_Li_init_5 (in_c rfl) rfl ?_
  refine aw_newa (atype := .char) rfl rfl (zs_here (by (try simp only [ini_In_init_1, ini_Co_init_4]); (repeat (first | refine Zs.wR ?_ (by omega) | refine Zs.wI ?_ (by omega) | refine Zs.wL ?_ (by omega) | refine Zs.mn ?_ (by omega))); exact Zs.le hz (by omega))) (Or.inr (Or.inr (Or.inl ⟨rfl, rfl⟩))) rfl ac_char rfl (by decide) d_Li_init_7 (by omega) (by omega) ?_
  refine aw_putR fd_Li_characters lk_Li_9 (by omega) rfl d_Li_init_9 (Or.inr ⟨rfl, rfl, lp_Li_9⟩) ?_
  refine aw_aload_n d_Li_init_12 rfl rfl ?_
  refine aw_iconst d_Li_init_13 (in_c rfl) ?_
  refine aw_putI fd_Li_count lk_Li_15 (by omega) rfl d_Li_init_14 (Or.inl rfl) ?_
  exact aw_vret d_Li_init_17 rfl ⟨rfl, rfl, rfl⟩
set_option maxRecDepth 100000 in
theorem am_Tr_init_11 {d : Nat} (hd : 1 ≤ d) {μ : aM} (hz : Zs 12 μ) : AM G true d 5 200 y_Tr_init [aP 11] 12 μ (Qe none 17 (ini_Tr_init_11 μ)) := by
  refine am_of (n := 0) pf_Tr_init (Nat.le_of_ble_eq_true rfl) (by intro v hv; simp at hv; rcases hv with rfl <;> trivial) rfl ?_
  refine aw_aload_n d_Tr_init_0 rfl rfl ?_
  refine aw_oinit ol_Tr_3 oi_in oi_cd d_Tr_init_1 (by omega) (Nat.le_of_ble_eq_true rfl) ?_
  refine aw_aload_n d_Tr_init_4 rfl rfl ?_
  refine aw_bipush (z := 40) d_Tr_init_5 (in_c rfl) rfl ?_
  refine aw_newa (atype := .int) rfl rfl (zs_here (by (try simp only [ini_In_init_1, ini_Co_init_4, ini_Li_init_9]); (repeat (first | refine Zs.wR ?_ (by omega) | refine Zs.wI ?_ (by omega) | refine Zs.wL ?_ (by omega) | refine Zs.mn ?_ (by omega))); exact Zs.le hz (by omega))) (Or.inl ⟨rfl, rfl⟩) rfl ac_int rfl (by decide) d_Tr_init_7 (by omega) (by omega) ?_
  refine aw_putR fd_Tr_joints lk_Tr_9 (by omega) rfl d_Tr_init_9 (Or.inr ⟨rfl, rfl, lp_Tr_9⟩) ?_
  refine aw_aload_n d_Tr_init_12 rfl rfl ?_
  refine aw_bipush (z := 40) d_Tr_init_13 (in_c rfl) rfl ?_
  refine aw_newa (atype := .int) rfl rfl (zs_here (by (try simp only [ini_In_init_1, ini_Co_init_4, ini_Li_init_9]); (repeat (first | refine Zs.wR ?_ (by omega) | refine Zs.wI ?_ (by omega) | refine Zs.wL ?_ (by omega) | refine Zs.mn ?_ (by omega))); exact Zs.le hz (by omega))) (Or.inl ⟨rfl, rfl⟩) rfl ac_int rfl (by decide) d_Tr_init_15 (by omega) (by omega) ?_
  refine aw_putR fd_Tr_lefts lk_Tr_15 (by omega) rfl d_Tr_init_17 (Or.inr ⟨rfl, rfl, lp_Tr_15⟩) ?_
  refine aw_aload_n d_Tr_init_20 rfl rfl ?_
  refine aw_pc (pc' := 21) rfl ?_
  refine aw_bipush (z := 40) d_Tr_init_21 (in_c rfl) rfl ?_
  refine aw_newa (atype := .int) rfl rfl (zs_here (by (try simp only [ini_In_init_1, ini_Co_init_4, ini_Li_init_9]); (repeat (first | refine Zs.wR ?_ (by omega) | refine Zs.wI ?_ (by omega) | refine Zs.wL ?_ (by omega) | refine Zs.mn ?_ (by omega))); exact Zs.le hz (by omega))) (Or.inl ⟨rfl, rfl⟩) rfl ac_int rfl (by decide) d_Tr_init_23 (by omega) (by omega) ?_
  refine aw_putR fd_Tr_rights lk_Tr_18 (by omega) rfl d_Tr_init_25 (Or.inr ⟨rfl, rfl, lp_Tr_18⟩) ?_
  refine aw_aload_n d_Tr_init_28 rfl rfl ?_
  refine aw_bipush (z := 40) d_Tr_init_29 (in_c rfl) rfl ?_
  refine aw_newa (atype := .long) rfl rfl (zs_here (by (try simp only [ini_In_init_1, ini_Co_init_4, ini_Li_init_9]); (repeat (first | refine Zs.wR ?_ (by omega) | refine Zs.wI ?_ (by omega) | refine Zs.wL ?_ (by omega) | refine Zs.mn ?_ (by omega))); exact Zs.le hz (by omega))) (Or.inr (Or.inl ⟨rfl, rfl⟩)) rfl ac_long rfl (by decide) d_Tr_init_31 (by omega) (by omega) ?_
  refine aw_putR fd_Tr_truths lk_Tr_21 (by omega) rfl d_Tr_init_33 (Or.inr ⟨rfl, rfl, lp_Tr_21⟩) ?_
  refine aw_aload_n d_Tr_init_36 rfl rfl ?_
  refine aw_bipush (z := 40) d_Tr_init_37 (in_c rfl) rfl ?_
  refine aw_newa (atype := .long) rfl rfl (zs_here (by (try simp only [ini_In_init_1, ini_Co_init_4, ini_Li_init_9]); (repeat (first | refine Zs.wR ?_ (by omega) | refine Zs.wI ?_ (by omega) | refine Zs.wL ?_ (by omega) | refine Zs.mn ?_ (by omega))); exact Zs.le hz (by omega))) (Or.inr (Or.inl ⟨rfl, rfl⟩)) rfl ac_long rfl (by decide) d_Tr_init_39 (by omega) (by omega) ?_
  refine aw_putR fd_Tr_reached lk_Tr_25 (by omega) rfl d_Tr_init_41 (Or.inr ⟨rfl, rfl, lp_Tr_25⟩) ?_
  refine aw_aload_n d_Tr_init_44 rfl rfl ?_
  refine aw_pc (pc' := 45) rfl ?_
  refine aw_iconst d_Tr_init_45 (in_c rfl) ?_
  refine aw_putI fd_Tr_count lk_Tr_28 (by omega) rfl d_Tr_init_46 (Or.inl rfl) ?_
  refine aw_aload_n d_Tr_init_49 rfl rfl ?_
  refine aw_iconst d_Tr_init_50 (in_c rfl) ?_
  refine aw_putI fd_Tr_letters lk_Tr_32 (by omega) rfl d_Tr_init_51 (Or.inl rfl) ?_
  exact aw_vret d_Tr_init_54 rfl ⟨rfl, rfl, rfl⟩
set_option maxRecDepth 100000 in
theorem am_Re_init_17 {d : Nat} (hd : 1 ≤ d) {μ : aM} (hz : Zs 18 μ) : AM G true d 0 0 y_Re_init [aP 17, aP 9, aP 11] 18 μ (Qe none 18 (ini_Re_init_17 μ)) := by
  refine am_of (n := 0) pf_Re_init (Nat.le_of_ble_eq_true rfl) (by intro v hv; simp at hv; rcases hv with rfl | rfl | rfl <;> trivial) rfl ?_
  refine aw_aload_n d_Re_init_0 rfl rfl ?_
  refine aw_oinit ol_Re_3 oi_in oi_cd d_Re_init_1 (by omega) (Nat.le_of_ble_eq_true rfl) ?_
  refine aw_aload_n d_Re_init_4 rfl rfl ?_
  refine aw_iconst d_Re_init_5 (in_c rfl) ?_
  refine aw_putI fd_Re_known lk_Re_9 (by omega) rfl d_Re_init_6 (Or.inl rfl) ?_
  refine aw_aload_n d_Re_init_9 rfl rfl ?_
  refine aw_iconst d_Re_init_10 (in_c rfl) ?_
  refine aw_putI fd_Re_place lk_Re_15 (by omega) rfl d_Re_init_11 (Or.inl rfl) ?_
  refine aw_aload_n d_Re_init_14 rfl rfl ?_
  refine aw_iconst d_Re_init_15 (in_c rfl) ?_
  refine aw_putI fd_Re_fault lk_Re_18 (by omega) rfl d_Re_init_16 (Or.inl rfl) ?_
  refine aw_pc (pc' := 19) rfl ?_
  refine aw_aload_n d_Re_init_19 rfl rfl ?_
  refine aw_aload_n d_Re_init_20 rfl rfl ?_
  refine aw_putR fd_Re_text lk_Re_21 (by omega) rfl d_Re_init_21 (Or.inr ⟨rfl, rfl, lp_Re_21⟩) ?_
  refine aw_aload_n d_Re_init_24 rfl rfl ?_
  refine aw_aload_n d_Re_init_25 rfl rfl ?_
  refine aw_putR fd_Re_tree lk_Re_25 (by omega) rfl d_Re_init_26 (Or.inr ⟨rfl, rfl, lp_Re_25⟩) ?_
  exact aw_vret d_Re_init_29 rfl ⟨rfl, rfl, rfl⟩
set_option maxRecDepth 100000 in
theorem am_Wa_init_18 {d : Nat} (hd : 1 ≤ d) {μ : aM} (hz : Zs 19 μ) : AM G true d 7 492 y_Wa_init [aP 18, aP 1, aP 4] 19 μ (Qe none 26 (ini_Wa_init_18 μ)) := by
  refine am_of (n := 0) pf_Wa_init (Nat.le_of_ble_eq_true rfl) (by intro v hv; simp at hv; rcases hv with rfl | rfl | rfl <;> trivial) rfl ?_
  refine aw_aload_n d_Wa_init_0 rfl rfl ?_
  refine aw_oinit ol_Wa_3 oi_in oi_cd d_Wa_init_1 (by omega) (Nat.le_of_ble_eq_true rfl) ?_
  refine aw_aload_n d_Wa_init_4 rfl rfl ?_
  refine aw_bipush (z := 6) d_Wa_init_5 (in_c rfl) rfl ?_
  refine aw_bipush (z := 81) d_Wa_init_7 (in_c rfl) rfl ?_
  refine aw_mnew rfl rfl (by decide) (by omega) (fun k j hk => (((by (try simp only [ini_In_init_1, ini_Co_init_4, ini_Li_init_9, ini_Tr_init_11, ini_Re_init_17]); (repeat (first | refine Zs.wR ?_ (by omega) | refine Zs.wI ?_ (by omega) | refine Zs.wL ?_ (by omega) | refine Zs.mn ?_ (by omega))); exact Zs.le hz (by omega)) : Zs _ _) k hk j).1) cl_Wa_11 ao_i (fun s args h => h.2.2.1.2.2.2.2.2.2.2.2.2.2.2.2.1) ac_int d_Wa_init_9 (by omega) (by omega) ?_
  refine aw_putR fd_Wa_bits lk_Wa_13 (by omega) rfl d_Wa_init_13 (Or.inr ⟨rfl, rfl, lp_Wa_13⟩) ?_
  refine aw_aload_n d_Wa_init_16 rfl rfl ?_
  refine aw_aload_n d_Wa_init_17 rfl rfl ?_
  refine aw_putR fd_Wa_inputs lk_Wa_16 (by omega) rfl d_Wa_init_18 (Or.inr ⟨rfl, rfl, lp_Wa_16⟩) ?_
  refine aw_aload_n d_Wa_init_21 rfl rfl ?_
  refine aw_pc (pc' := 22) rfl ?_
  refine aw_aload_n d_Wa_init_22 rfl rfl ?_
  refine aw_putR fd_Wa_conditions lk_Wa_20 (by omega) rfl d_Wa_init_23 (Or.inr ⟨rfl, rfl, lp_Wa_20⟩) ?_
  exact aw_vret d_Wa_init_26 rfl ⟨rfl, rfl, rfl⟩
set_option maxRecDepth 100000 in
theorem am_Li_init_28 {d : Nat} (hd : 1 ≤ d) {μ : aM} (hz : Zs 29 μ) : AM G true d 1 40 y_Li_init [aP 28] 29 μ (Qe none 30 (ini_Li_init_28 μ)) := by
  refine am_of (n := 0) pf_Li_init (Nat.le_of_ble_eq_true rfl) (by intro v hv; simp at hv; rcases hv with rfl <;> trivial) rfl ?_
  refine aw_aload_n d_Li_init_0 rfl rfl ?_
  refine aw_oinit ol_Li_3 oi_in oi_cd d_Li_init_1 (by omega) (Nat.le_of_ble_eq_true rfl) ?_
  refine aw_aload_n d_Li_init_4 rfl rfl ?_
  refine aw_bipush (z := 40) d_Li_init_5 (in_c rfl) rfl ?_
  refine aw_newa (atype := .char) rfl rfl (zs_here (by (try simp only [ini_In_init_1, ini_Co_init_4, ini_Li_init_9, ini_Tr_init_11, ini_Re_init_17, ini_Wa_init_18]); (repeat (first | refine Zs.wR ?_ (by omega) | refine Zs.wI ?_ (by omega) | refine Zs.wL ?_ (by omega) | refine Zs.mn ?_ (by omega))); exact Zs.le hz (by omega))) (Or.inr (Or.inr (Or.inl ⟨rfl, rfl⟩))) rfl ac_char rfl (by decide) d_Li_init_7 (by omega) (by omega) ?_
  refine aw_putR fd_Li_characters lk_Li_9 (by omega) rfl d_Li_init_9 (Or.inr ⟨rfl, rfl, lp_Li_9⟩) ?_
  refine aw_aload_n d_Li_init_12 rfl rfl ?_
  refine aw_iconst d_Li_init_13 (in_c rfl) ?_
  refine aw_putI fd_Li_count lk_Li_15 (by omega) rfl d_Li_init_14 (Or.inl rfl) ?_
  exact aw_vret d_Li_init_17 rfl ⟨rfl, rfl, rfl⟩
set_option maxRecDepth 100000 in
theorem am_De_init_27 {d : Nat} (hd : 2 ≤ d) {μ : aM} (hz : Zs 28 μ) : AM G true d 7 258 y_De_init [aP 27, aP 4] 28 μ (Qe none 35 (ini_De_init_27 μ)) := by
  refine am_of (n := 0) pf_De_init (Nat.le_of_ble_eq_true rfl) (by intro v hv; simp at hv; rcases hv with rfl | rfl <;> trivial) rfl ?_
  refine aw_aload_n d_De_init_0 rfl rfl ?_
  refine aw_oinit ol_De_3 oi_in oi_cd d_De_init_1 (by omega) (Nat.le_of_ble_eq_true rfl) ?_
  refine aw_aload_n d_De_init_4 rfl rfl ?_
  refine aw_new (ci := 3) rfl rfl (zs_here (by (try simp only [ini_In_init_1, ini_Co_init_4, ini_Li_init_9, ini_Tr_init_11, ini_Re_init_17, ini_Wa_init_18, ini_Li_init_28]); (repeat (first | refine Zs.wR ?_ (by omega) | refine Zs.wI ?_ (by omega) | refine Zs.wL ?_ (by omega) | refine Zs.mn ?_ (by omega))); exact Zs.le hz (by omega))) rfl ino_Li tyo_Li fk_Li cl_De_9 it_Li in_Li d_De_init_5 (by omega) (by omega) ?_
  refine aw_dup d_De_init_8 rfl ?_
  refine aw_ie (as := []) (bc' := 1) (bs' := 40) rfl ci_De_11 d_De_init_9 (Nat.le_of_ble_eq_true rfl) (d' := d - 1) (by omega) (by omega) (by omega) rfl (am_Li_init_28 (d := d - 1) (by omega) (by (try simp only [ini_In_init_1, ini_Co_init_4, ini_Li_init_9, ini_Tr_init_11, ini_Re_init_17, ini_Wa_init_18, ini_Li_init_28]); (repeat (first | refine Zs.wR ?_ (by omega) | refine Zs.wI ?_ (by omega) | refine Zs.wL ?_ (by omega) | refine Zs.mn ?_ (by omega))); exact Zs.le hz (by omega))) ?_
  refine aw_putR fd_De_shown lk_De_12 (by omega) rfl d_De_init_12 (Or.inr ⟨rfl, rfl, lp_De_12⟩) ?_
  refine aw_aload_n d_De_init_15 rfl rfl ?_
  refine aw_bipush (z := 6) d_De_init_16 (in_c rfl) rfl ?_
  refine aw_newa (atype := .int) rfl rfl (zs_here (by (try simp only [ini_In_init_1, ini_Co_init_4, ini_Li_init_9, ini_Tr_init_11, ini_Re_init_17, ini_Wa_init_18, ini_Li_init_28]); (repeat (first | refine Zs.wR ?_ (by omega) | refine Zs.wI ?_ (by omega) | refine Zs.wL ?_ (by omega) | refine Zs.mn ?_ (by omega))); exact Zs.le hz (by omega))) (Or.inl ⟨rfl, rfl⟩) rfl ac_int rfl (by decide) d_De_init_18 (by omega) (by omega) ?_
  refine aw_putR fd_De_letters lk_De_18 (by omega) rfl d_De_init_20 (Or.inr ⟨rfl, rfl, lp_De_18⟩) ?_
  refine aw_pc (pc' := 23) rfl ?_
  refine aw_aload_n d_De_init_23 rfl rfl ?_
  refine aw_bipush (z := 6) d_De_init_24 (in_c rfl) rfl ?_
  refine aw_newa (atype := .int) rfl rfl (zs_here (by (try simp only [ini_In_init_1, ini_Co_init_4, ini_Li_init_9, ini_Tr_init_11, ini_Re_init_17, ini_Wa_init_18, ini_Li_init_28]); (repeat (first | refine Zs.wR ?_ (by omega) | refine Zs.wI ?_ (by omega) | refine Zs.wL ?_ (by omega) | refine Zs.mn ?_ (by omega))); exact Zs.le hz (by omega))) (Or.inl ⟨rfl, rfl⟩) rfl ac_int rfl (by decide) d_De_init_26 (by omega) (by omega) ?_
  refine aw_putR fd_De_strangers lk_De_22 (by omega) rfl d_De_init_28 (Or.inr ⟨rfl, rfl, lp_De_22⟩) ?_
  refine aw_aload_n d_De_init_31 rfl rfl ?_
  refine aw_bipush (z := 6) d_De_init_32 (in_c rfl) rfl ?_
  refine aw_newa (atype := .long) rfl rfl (zs_here (by (try simp only [ini_In_init_1, ini_Co_init_4, ini_Li_init_9, ini_Tr_init_11, ini_Re_init_17, ini_Wa_init_18, ini_Li_init_28]); (repeat (first | refine Zs.wR ?_ (by omega) | refine Zs.wI ?_ (by omega) | refine Zs.wL ?_ (by omega) | refine Zs.mn ?_ (by omega))); exact Zs.le hz (by omega))) (Or.inr (Or.inl ⟨rfl, rfl⟩)) rfl ac_long rfl (by decide) d_De_init_34 (by omega) (by omega) ?_
  refine aw_putR fd_De_evaluating lk_De_25 (by omega) rfl d_De_init_36 (Or.inr ⟨rfl, rfl, lp_De_25⟩) ?_
  refine aw_aload_n d_De_init_39 rfl rfl ?_
  refine aw_bipush (z := 6) d_De_init_40 (in_c rfl) rfl ?_
  refine aw_newa (atype := .long) rfl rfl (zs_here (by (try simp only [ini_In_init_1, ini_Co_init_4, ini_Li_init_9, ini_Tr_init_11, ini_Re_init_17, ini_Wa_init_18, ini_Li_init_28]); (repeat (first | refine Zs.wR ?_ (by omega) | refine Zs.wI ?_ (by omega) | refine Zs.wL ?_ (by omega) | refine Zs.mn ?_ (by omega))); exact Zs.le hz (by omega))) (Or.inr (Or.inl ⟨rfl, rfl⟩)) rfl ac_long rfl (by decide) d_De_init_42 (by omega) (by omega) ?_
  refine aw_putR fd_De_decisive lk_De_29 (by omega) rfl d_De_init_44 (Or.inr ⟨rfl, rfl, lp_De_29⟩) ?_
  refine aw_pc (pc' := 47) rfl ?_
  refine aw_aload_n d_De_init_47 rfl rfl ?_
  refine aw_sipush (z := 192) d_De_init_48 (in_c rfl) rfl ?_
  refine aw_newa (atype := .int) rfl rfl (zs_here (by (try simp only [ini_In_init_1, ini_Co_init_4, ini_Li_init_9, ini_Tr_init_11, ini_Re_init_17, ini_Wa_init_18, ini_Li_init_28]); (repeat (first | refine Zs.wR ?_ (by omega) | refine Zs.wI ?_ (by omega) | refine Zs.wL ?_ (by omega) | refine Zs.mn ?_ (by omega))); exact Zs.le hz (by omega))) (Or.inl ⟨rfl, rfl⟩) rfl ac_int rfl (by decide) d_De_init_51 (by omega) (by omega) ?_
  refine aw_putR fd_De_vectors lk_De_32 (by omega) rfl d_De_init_53 (Or.inr ⟨rfl, rfl, lp_De_32⟩) ?_
  refine aw_aload_n d_De_init_56 rfl rfl ?_
  refine aw_iconst d_De_init_57 (in_c rfl) ?_
  refine aw_putI fd_De_count lk_De_35 (by omega) rfl d_De_init_58 (Or.inl rfl) ?_
  refine aw_aload_n d_De_init_61 rfl rfl ?_
  refine aw_lconst (b := 0) d_De_init_62 rfl ?_
  refine aw_putL fd_De_trueWords lk_De_39 (by omega) rfl d_De_init_63 (Or.inl rfl) ?_
  refine aw_aload_n d_De_init_66 rfl rfl ?_
  refine aw_lconst (b := 0) d_De_init_67 rfl ?_
  refine aw_pc (pc' := 68) rfl ?_
  refine aw_putL fd_De_feasibleWords lk_De_43 (by omega) rfl d_De_init_68 (Or.inl rfl) ?_
  refine aw_aload_n d_De_init_71 rfl rfl ?_
  refine aw_aload_n d_De_init_72 rfl rfl ?_
  refine aw_putR fd_De_conditions lk_De_46 (by omega) rfl d_De_init_73 (Or.inr ⟨rfl, rfl, lp_De_46⟩) ?_
  exact aw_vret d_De_init_76 rfl ⟨rfl, rfl, rfl⟩
set_option maxRecDepth 100000 in
theorem am_Li_init_36 {d : Nat} (hd : 1 ≤ d) {μ : aM} (hz : Zs 37 μ) : AM G true d 1 40 y_Li_init [aP 36] 37 μ (Qe none 38 (ini_Li_init_36 μ)) := by
  refine am_of (n := 0) pf_Li_init (Nat.le_of_ble_eq_true rfl) (by intro v hv; simp at hv; rcases hv with rfl <;> trivial) rfl ?_
  refine aw_aload_n d_Li_init_0 rfl rfl ?_
  refine aw_oinit ol_Li_3 oi_in oi_cd d_Li_init_1 (by omega) (Nat.le_of_ble_eq_true rfl) ?_
  refine aw_aload_n d_Li_init_4 rfl rfl ?_
  refine aw_bipush (z := 40) d_Li_init_5 (in_c rfl) rfl ?_
  refine aw_newa (atype := .char) rfl rfl (zs_here (by (try simp only [ini_In_init_1, ini_Co_init_4, ini_Li_init_9, ini_Tr_init_11, ini_Re_init_17, ini_Wa_init_18, ini_Li_init_28, ini_De_init_27]); (repeat (first | refine Zs.wR ?_ (by omega) | refine Zs.wI ?_ (by omega) | refine Zs.wL ?_ (by omega) | refine Zs.mn ?_ (by omega))); exact Zs.le hz (by omega))) (Or.inr (Or.inr (Or.inl ⟨rfl, rfl⟩))) rfl ac_char rfl (by decide) d_Li_init_7 (by omega) (by omega) ?_
  refine aw_putR fd_Li_characters lk_Li_9 (by omega) rfl d_Li_init_9 (Or.inr ⟨rfl, rfl, lp_Li_9⟩) ?_
  refine aw_aload_n d_Li_init_12 rfl rfl ?_
  refine aw_iconst d_Li_init_13 (in_c rfl) ?_
  refine aw_putI fd_Li_count lk_Li_15 (by omega) rfl d_Li_init_14 (Or.inl rfl) ?_
  exact aw_vret d_Li_init_17 rfl ⟨rfl, rfl, rfl⟩
set_option maxRecDepth 100000 in
theorem am_De_init_35 {d : Nat} (hd : 2 ≤ d) {μ : aM} (hz : Zs 36 μ) : AM G true d 7 258 y_De_init [aP 35, aP 4] 36 μ (Qe none 43 (ini_De_init_35 μ)) := by
  refine am_of (n := 0) pf_De_init (Nat.le_of_ble_eq_true rfl) (by intro v hv; simp at hv; rcases hv with rfl | rfl <;> trivial) rfl ?_
  refine aw_aload_n d_De_init_0 rfl rfl ?_
  refine aw_oinit ol_De_3 oi_in oi_cd d_De_init_1 (by omega) (Nat.le_of_ble_eq_true rfl) ?_
  refine aw_aload_n d_De_init_4 rfl rfl ?_
  refine aw_new (ci := 3) rfl rfl (zs_here (by (try simp only [ini_In_init_1, ini_Co_init_4, ini_Li_init_9, ini_Tr_init_11, ini_Re_init_17, ini_Wa_init_18, ini_Li_init_28, ini_De_init_27, ini_Li_init_36]); (repeat (first | refine Zs.wR ?_ (by omega) | refine Zs.wI ?_ (by omega) | refine Zs.wL ?_ (by omega) | refine Zs.mn ?_ (by omega))); exact Zs.le hz (by omega))) rfl ino_Li tyo_Li fk_Li cl_De_9 it_Li in_Li d_De_init_5 (by omega) (by omega) ?_
  refine aw_dup d_De_init_8 rfl ?_
  refine aw_ie (as := []) (bc' := 1) (bs' := 40) rfl ci_De_11 d_De_init_9 (Nat.le_of_ble_eq_true rfl) (d' := d - 1) (by omega) (by omega) (by omega) rfl (am_Li_init_36 (d := d - 1) (by omega) (by (try simp only [ini_In_init_1, ini_Co_init_4, ini_Li_init_9, ini_Tr_init_11, ini_Re_init_17, ini_Wa_init_18, ini_Li_init_28, ini_De_init_27, ini_Li_init_36]); (repeat (first | refine Zs.wR ?_ (by omega) | refine Zs.wI ?_ (by omega) | refine Zs.wL ?_ (by omega) | refine Zs.mn ?_ (by omega))); exact Zs.le hz (by omega))) ?_
  refine aw_putR fd_De_shown lk_De_12 (by omega) rfl d_De_init_12 (Or.inr ⟨rfl, rfl, lp_De_12⟩) ?_
  refine aw_aload_n d_De_init_15 rfl rfl ?_
  refine aw_bipush (z := 6) d_De_init_16 (in_c rfl) rfl ?_
  refine aw_newa (atype := .int) rfl rfl (zs_here (by (try simp only [ini_In_init_1, ini_Co_init_4, ini_Li_init_9, ini_Tr_init_11, ini_Re_init_17, ini_Wa_init_18, ini_Li_init_28, ini_De_init_27, ini_Li_init_36]); (repeat (first | refine Zs.wR ?_ (by omega) | refine Zs.wI ?_ (by omega) | refine Zs.wL ?_ (by omega) | refine Zs.mn ?_ (by omega))); exact Zs.le hz (by omega))) (Or.inl ⟨rfl, rfl⟩) rfl ac_int rfl (by decide) d_De_init_18 (by omega) (by omega) ?_
  refine aw_putR fd_De_letters lk_De_18 (by omega) rfl d_De_init_20 (Or.inr ⟨rfl, rfl, lp_De_18⟩) ?_
  refine aw_pc (pc' := 23) rfl ?_
  refine aw_aload_n d_De_init_23 rfl rfl ?_
  refine aw_bipush (z := 6) d_De_init_24 (in_c rfl) rfl ?_
  refine aw_newa (atype := .int) rfl rfl (zs_here (by (try simp only [ini_In_init_1, ini_Co_init_4, ini_Li_init_9, ini_Tr_init_11, ini_Re_init_17, ini_Wa_init_18, ini_Li_init_28, ini_De_init_27, ini_Li_init_36]); (repeat (first | refine Zs.wR ?_ (by omega) | refine Zs.wI ?_ (by omega) | refine Zs.wL ?_ (by omega) | refine Zs.mn ?_ (by omega))); exact Zs.le hz (by omega))) (Or.inl ⟨rfl, rfl⟩) rfl ac_int rfl (by decide) d_De_init_26 (by omega) (by omega) ?_
  refine aw_putR fd_De_strangers lk_De_22 (by omega) rfl d_De_init_28 (Or.inr ⟨rfl, rfl, lp_De_22⟩) ?_
  refine aw_aload_n d_De_init_31 rfl rfl ?_
  refine aw_bipush (z := 6) d_De_init_32 (in_c rfl) rfl ?_
  refine aw_newa (atype := .long) rfl rfl (zs_here (by (try simp only [ini_In_init_1, ini_Co_init_4, ini_Li_init_9, ini_Tr_init_11, ini_Re_init_17, ini_Wa_init_18, ini_Li_init_28, ini_De_init_27, ini_Li_init_36]); (repeat (first | refine Zs.wR ?_ (by omega) | refine Zs.wI ?_ (by omega) | refine Zs.wL ?_ (by omega) | refine Zs.mn ?_ (by omega))); exact Zs.le hz (by omega))) (Or.inr (Or.inl ⟨rfl, rfl⟩)) rfl ac_long rfl (by decide) d_De_init_34 (by omega) (by omega) ?_
  refine aw_putR fd_De_evaluating lk_De_25 (by omega) rfl d_De_init_36 (Or.inr ⟨rfl, rfl, lp_De_25⟩) ?_
  refine aw_aload_n d_De_init_39 rfl rfl ?_
  refine aw_bipush (z := 6) d_De_init_40 (in_c rfl) rfl ?_
  refine aw_newa (atype := .long) rfl rfl (zs_here (by (try simp only [ini_In_init_1, ini_Co_init_4, ini_Li_init_9, ini_Tr_init_11, ini_Re_init_17, ini_Wa_init_18, ini_Li_init_28, ini_De_init_27, ini_Li_init_36]); (repeat (first | refine Zs.wR ?_ (by omega) | refine Zs.wI ?_ (by omega) | refine Zs.wL ?_ (by omega) | refine Zs.mn ?_ (by omega))); exact Zs.le hz (by omega))) (Or.inr (Or.inl ⟨rfl, rfl⟩)) rfl ac_long rfl (by decide) d_De_init_42 (by omega) (by omega) ?_
  refine aw_putR fd_De_decisive lk_De_29 (by omega) rfl d_De_init_44 (Or.inr ⟨rfl, rfl, lp_De_29⟩) ?_
  refine aw_pc (pc' := 47) rfl ?_
  refine aw_aload_n d_De_init_47 rfl rfl ?_
  refine aw_sipush (z := 192) d_De_init_48 (in_c rfl) rfl ?_
  refine aw_newa (atype := .int) rfl rfl (zs_here (by (try simp only [ini_In_init_1, ini_Co_init_4, ini_Li_init_9, ini_Tr_init_11, ini_Re_init_17, ini_Wa_init_18, ini_Li_init_28, ini_De_init_27, ini_Li_init_36]); (repeat (first | refine Zs.wR ?_ (by omega) | refine Zs.wI ?_ (by omega) | refine Zs.wL ?_ (by omega) | refine Zs.mn ?_ (by omega))); exact Zs.le hz (by omega))) (Or.inl ⟨rfl, rfl⟩) rfl ac_int rfl (by decide) d_De_init_51 (by omega) (by omega) ?_
  refine aw_putR fd_De_vectors lk_De_32 (by omega) rfl d_De_init_53 (Or.inr ⟨rfl, rfl, lp_De_32⟩) ?_
  refine aw_aload_n d_De_init_56 rfl rfl ?_
  refine aw_iconst d_De_init_57 (in_c rfl) ?_
  refine aw_putI fd_De_count lk_De_35 (by omega) rfl d_De_init_58 (Or.inl rfl) ?_
  refine aw_aload_n d_De_init_61 rfl rfl ?_
  refine aw_lconst (b := 0) d_De_init_62 rfl ?_
  refine aw_putL fd_De_trueWords lk_De_39 (by omega) rfl d_De_init_63 (Or.inl rfl) ?_
  refine aw_aload_n d_De_init_66 rfl rfl ?_
  refine aw_lconst (b := 0) d_De_init_67 rfl ?_
  refine aw_pc (pc' := 68) rfl ?_
  refine aw_putL fd_De_feasibleWords lk_De_43 (by omega) rfl d_De_init_68 (Or.inl rfl) ?_
  refine aw_aload_n d_De_init_71 rfl rfl ?_
  refine aw_aload_n d_De_init_72 rfl rfl ?_
  refine aw_putR fd_De_conditions lk_De_46 (by omega) rfl d_De_init_73 (Or.inr ⟨rfl, rfl, lp_De_46⟩) ?_
  exact aw_vret d_De_init_76 rfl ⟨rfl, rfl, rfl⟩
set_option maxRecDepth 100000 in
theorem am_Li_init_44 {d : Nat} (hd : 1 ≤ d) {μ : aM} (hz : Zs 45 μ) : AM G true d 1 40 y_Li_init [aP 44] 45 μ (Qe none 46 (ini_Li_init_44 μ)) := by
  refine am_of (n := 0) pf_Li_init (Nat.le_of_ble_eq_true rfl) (by intro v hv; simp at hv; rcases hv with rfl <;> trivial) rfl ?_
  refine aw_aload_n d_Li_init_0 rfl rfl ?_
  refine aw_oinit ol_Li_3 oi_in oi_cd d_Li_init_1 (by omega) (Nat.le_of_ble_eq_true rfl) ?_
  refine aw_aload_n d_Li_init_4 rfl rfl ?_
  refine aw_bipush (z := 40) d_Li_init_5 (in_c rfl) rfl ?_
  refine aw_newa (atype := .char) rfl rfl (zs_here (by (try simp only [ini_In_init_1, ini_Co_init_4, ini_Li_init_9, ini_Tr_init_11, ini_Re_init_17, ini_Wa_init_18, ini_Li_init_28, ini_De_init_27, ini_Li_init_36, ini_De_init_35]); (repeat (first | refine Zs.wR ?_ (by omega) | refine Zs.wI ?_ (by omega) | refine Zs.wL ?_ (by omega) | refine Zs.mn ?_ (by omega))); exact Zs.le hz (by omega))) (Or.inr (Or.inr (Or.inl ⟨rfl, rfl⟩))) rfl ac_char rfl (by decide) d_Li_init_7 (by omega) (by omega) ?_
  refine aw_putR fd_Li_characters lk_Li_9 (by omega) rfl d_Li_init_9 (Or.inr ⟨rfl, rfl, lp_Li_9⟩) ?_
  refine aw_aload_n d_Li_init_12 rfl rfl ?_
  refine aw_iconst d_Li_init_13 (in_c rfl) ?_
  refine aw_putI fd_Li_count lk_Li_15 (by omega) rfl d_Li_init_14 (Or.inl rfl) ?_
  exact aw_vret d_Li_init_17 rfl ⟨rfl, rfl, rfl⟩
set_option maxRecDepth 100000 in
theorem am_De_init_43 {d : Nat} (hd : 2 ≤ d) {μ : aM} (hz : Zs 44 μ) : AM G true d 7 258 y_De_init [aP 43, aP 4] 44 μ (Qe none 51 (ini_De_init_43 μ)) := by
  refine am_of (n := 0) pf_De_init (Nat.le_of_ble_eq_true rfl) (by intro v hv; simp at hv; rcases hv with rfl | rfl <;> trivial) rfl ?_
  refine aw_aload_n d_De_init_0 rfl rfl ?_
  refine aw_oinit ol_De_3 oi_in oi_cd d_De_init_1 (by omega) (Nat.le_of_ble_eq_true rfl) ?_
  refine aw_aload_n d_De_init_4 rfl rfl ?_
  refine aw_new (ci := 3) rfl rfl (zs_here (by (try simp only [ini_In_init_1, ini_Co_init_4, ini_Li_init_9, ini_Tr_init_11, ini_Re_init_17, ini_Wa_init_18, ini_Li_init_28, ini_De_init_27, ini_Li_init_36, ini_De_init_35, ini_Li_init_44]); (repeat (first | refine Zs.wR ?_ (by omega) | refine Zs.wI ?_ (by omega) | refine Zs.wL ?_ (by omega) | refine Zs.mn ?_ (by omega))); exact Zs.le hz (by omega))) rfl ino_Li tyo_Li fk_Li cl_De_9 it_Li in_Li d_De_init_5 (by omega) (by omega) ?_
  refine aw_dup d_De_init_8 rfl ?_
  refine aw_ie (as := []) (bc' := 1) (bs' := 40) rfl ci_De_11 d_De_init_9 (Nat.le_of_ble_eq_true rfl) (d' := d - 1) (by omega) (by omega) (by omega) rfl (am_Li_init_44 (d := d - 1) (by omega) (by (try simp only [ini_In_init_1, ini_Co_init_4, ini_Li_init_9, ini_Tr_init_11, ini_Re_init_17, ini_Wa_init_18, ini_Li_init_28, ini_De_init_27, ini_Li_init_36, ini_De_init_35, ini_Li_init_44]); (repeat (first | refine Zs.wR ?_ (by omega) | refine Zs.wI ?_ (by omega) | refine Zs.wL ?_ (by omega) | refine Zs.mn ?_ (by omega))); exact Zs.le hz (by omega))) ?_
  refine aw_putR fd_De_shown lk_De_12 (by omega) rfl d_De_init_12 (Or.inr ⟨rfl, rfl, lp_De_12⟩) ?_
  refine aw_aload_n d_De_init_15 rfl rfl ?_
  refine aw_bipush (z := 6) d_De_init_16 (in_c rfl) rfl ?_
  refine aw_newa (atype := .int) rfl rfl (zs_here (by (try simp only [ini_In_init_1, ini_Co_init_4, ini_Li_init_9, ini_Tr_init_11, ini_Re_init_17, ini_Wa_init_18, ini_Li_init_28, ini_De_init_27, ini_Li_init_36, ini_De_init_35, ini_Li_init_44]); (repeat (first | refine Zs.wR ?_ (by omega) | refine Zs.wI ?_ (by omega) | refine Zs.wL ?_ (by omega) | refine Zs.mn ?_ (by omega))); exact Zs.le hz (by omega))) (Or.inl ⟨rfl, rfl⟩) rfl ac_int rfl (by decide) d_De_init_18 (by omega) (by omega) ?_
  refine aw_putR fd_De_letters lk_De_18 (by omega) rfl d_De_init_20 (Or.inr ⟨rfl, rfl, lp_De_18⟩) ?_
  refine aw_pc (pc' := 23) rfl ?_
  refine aw_aload_n d_De_init_23 rfl rfl ?_
  refine aw_bipush (z := 6) d_De_init_24 (in_c rfl) rfl ?_
  refine aw_newa (atype := .int) rfl rfl (zs_here (by (try simp only [ini_In_init_1, ini_Co_init_4, ini_Li_init_9, ini_Tr_init_11, ini_Re_init_17, ini_Wa_init_18, ini_Li_init_28, ini_De_init_27, ini_Li_init_36, ini_De_init_35, ini_Li_init_44]); (repeat (first | refine Zs.wR ?_ (by omega) | refine Zs.wI ?_ (by omega) | refine Zs.wL ?_ (by omega) | refine Zs.mn ?_ (by omega))); exact Zs.le hz (by omega))) (Or.inl ⟨rfl, rfl⟩) rfl ac_int rfl (by decide) d_De_init_26 (by omega) (by omega) ?_
  refine aw_putR fd_De_strangers lk_De_22 (by omega) rfl d_De_init_28 (Or.inr ⟨rfl, rfl, lp_De_22⟩) ?_
  refine aw_aload_n d_De_init_31 rfl rfl ?_
  refine aw_bipush (z := 6) d_De_init_32 (in_c rfl) rfl ?_
  refine aw_newa (atype := .long) rfl rfl (zs_here (by (try simp only [ini_In_init_1, ini_Co_init_4, ini_Li_init_9, ini_Tr_init_11, ini_Re_init_17, ini_Wa_init_18, ini_Li_init_28, ini_De_init_27, ini_Li_init_36, ini_De_init_35, ini_Li_init_44]); (repeat (first | refine Zs.wR ?_ (by omega) | refine Zs.wI ?_ (by omega) | refine Zs.wL ?_ (by omega) | refine Zs.mn ?_ (by omega))); exact Zs.le hz (by omega))) (Or.inr (Or.inl ⟨rfl, rfl⟩)) rfl ac_long rfl (by decide) d_De_init_34 (by omega) (by omega) ?_
  refine aw_putR fd_De_evaluating lk_De_25 (by omega) rfl d_De_init_36 (Or.inr ⟨rfl, rfl, lp_De_25⟩) ?_
  refine aw_aload_n d_De_init_39 rfl rfl ?_
  refine aw_bipush (z := 6) d_De_init_40 (in_c rfl) rfl ?_
  refine aw_newa (atype := .long) rfl rfl (zs_here (by (try simp only [ini_In_init_1, ini_Co_init_4, ini_Li_init_9, ini_Tr_init_11, ini_Re_init_17, ini_Wa_init_18, ini_Li_init_28, ini_De_init_27, ini_Li_init_36, ini_De_init_35, ini_Li_init_44]); (repeat (first | refine Zs.wR ?_ (by omega) | refine Zs.wI ?_ (by omega) | refine Zs.wL ?_ (by omega) | refine Zs.mn ?_ (by omega))); exact Zs.le hz (by omega))) (Or.inr (Or.inl ⟨rfl, rfl⟩)) rfl ac_long rfl (by decide) d_De_init_42 (by omega) (by omega) ?_
  refine aw_putR fd_De_decisive lk_De_29 (by omega) rfl d_De_init_44 (Or.inr ⟨rfl, rfl, lp_De_29⟩) ?_
  refine aw_pc (pc' := 47) rfl ?_
  refine aw_aload_n d_De_init_47 rfl rfl ?_
  refine aw_sipush (z := 192) d_De_init_48 (in_c rfl) rfl ?_
  refine aw_newa (atype := .int) rfl rfl (zs_here (by (try simp only [ini_In_init_1, ini_Co_init_4, ini_Li_init_9, ini_Tr_init_11, ini_Re_init_17, ini_Wa_init_18, ini_Li_init_28, ini_De_init_27, ini_Li_init_36, ini_De_init_35, ini_Li_init_44]); (repeat (first | refine Zs.wR ?_ (by omega) | refine Zs.wI ?_ (by omega) | refine Zs.wL ?_ (by omega) | refine Zs.mn ?_ (by omega))); exact Zs.le hz (by omega))) (Or.inl ⟨rfl, rfl⟩) rfl ac_int rfl (by decide) d_De_init_51 (by omega) (by omega) ?_
  refine aw_putR fd_De_vectors lk_De_32 (by omega) rfl d_De_init_53 (Or.inr ⟨rfl, rfl, lp_De_32⟩) ?_
  refine aw_aload_n d_De_init_56 rfl rfl ?_
  refine aw_iconst d_De_init_57 (in_c rfl) ?_
  refine aw_putI fd_De_count lk_De_35 (by omega) rfl d_De_init_58 (Or.inl rfl) ?_
  refine aw_aload_n d_De_init_61 rfl rfl ?_
  refine aw_lconst (b := 0) d_De_init_62 rfl ?_
  refine aw_putL fd_De_trueWords lk_De_39 (by omega) rfl d_De_init_63 (Or.inl rfl) ?_
  refine aw_aload_n d_De_init_66 rfl rfl ?_
  refine aw_lconst (b := 0) d_De_init_67 rfl ?_
  refine aw_pc (pc' := 68) rfl ?_
  refine aw_putL fd_De_feasibleWords lk_De_43 (by omega) rfl d_De_init_68 (Or.inl rfl) ?_
  refine aw_aload_n d_De_init_71 rfl rfl ?_
  refine aw_aload_n d_De_init_72 rfl rfl ?_
  refine aw_putR fd_De_conditions lk_De_46 (by omega) rfl d_De_init_73 (Or.inr ⟨rfl, rfl, lp_De_46⟩) ?_
  exact aw_vret d_De_init_76 rfl ⟨rfl, rfl, rfl⟩
set_option maxRecDepth 100000 in
theorem am_Li_init_52 {d : Nat} (hd : 1 ≤ d) {μ : aM} (hz : Zs 53 μ) : AM G true d 1 40 y_Li_init [aP 52] 53 μ (Qe none 54 (ini_Li_init_52 μ)) := by
  refine am_of (n := 0) pf_Li_init (Nat.le_of_ble_eq_true rfl) (by intro v hv; simp at hv; rcases hv with rfl <;> trivial) rfl ?_
  refine aw_aload_n d_Li_init_0 rfl rfl ?_
  refine aw_oinit ol_Li_3 oi_in oi_cd d_Li_init_1 (by omega) (Nat.le_of_ble_eq_true rfl) ?_
  refine aw_aload_n d_Li_init_4 rfl rfl ?_
  refine aw_bipush (z := 40) d_Li_init_5 (in_c rfl) rfl ?_
  refine aw_newa (atype := .char) rfl rfl (zs_here (by (try simp only [ini_In_init_1, ini_Co_init_4, ini_Li_init_9, ini_Tr_init_11, ini_Re_init_17, ini_Wa_init_18, ini_Li_init_28, ini_De_init_27, ini_Li_init_36, ini_De_init_35, ini_Li_init_44, ini_De_init_43]); (repeat (first | refine Zs.wR ?_ (by omega) | refine Zs.wI ?_ (by omega) | refine Zs.wL ?_ (by omega) | refine Zs.mn ?_ (by omega))); exact Zs.le hz (by omega))) (Or.inr (Or.inr (Or.inl ⟨rfl, rfl⟩))) rfl ac_char rfl (by decide) d_Li_init_7 (by omega) (by omega) ?_
  refine aw_putR fd_Li_characters lk_Li_9 (by omega) rfl d_Li_init_9 (Or.inr ⟨rfl, rfl, lp_Li_9⟩) ?_
  refine aw_aload_n d_Li_init_12 rfl rfl ?_
  refine aw_iconst d_Li_init_13 (in_c rfl) ?_
  refine aw_putI fd_Li_count lk_Li_15 (by omega) rfl d_Li_init_14 (Or.inl rfl) ?_
  exact aw_vret d_Li_init_17 rfl ⟨rfl, rfl, rfl⟩
set_option maxRecDepth 100000 in
theorem am_De_init_51 {d : Nat} (hd : 2 ≤ d) {μ : aM} (hz : Zs 52 μ) : AM G true d 7 258 y_De_init [aP 51, aP 4] 52 μ (Qe none 59 (ini_De_init_51 μ)) := by
  refine am_of (n := 0) pf_De_init (Nat.le_of_ble_eq_true rfl) (by intro v hv; simp at hv; rcases hv with rfl | rfl <;> trivial) rfl ?_
  refine aw_aload_n d_De_init_0 rfl rfl ?_
  refine aw_oinit ol_De_3 oi_in oi_cd d_De_init_1 (by omega) (Nat.le_of_ble_eq_true rfl) ?_
  refine aw_aload_n d_De_init_4 rfl rfl ?_
  refine aw_new (ci := 3) rfl rfl (zs_here (by (try simp only [ini_In_init_1, ini_Co_init_4, ini_Li_init_9, ini_Tr_init_11, ini_Re_init_17, ini_Wa_init_18, ini_Li_init_28, ini_De_init_27, ini_Li_init_36, ini_De_init_35, ini_Li_init_44, ini_De_init_43, ini_Li_init_52]); (repeat (first | refine Zs.wR ?_ (by omega) | refine Zs.wI ?_ (by omega) | refine Zs.wL ?_ (by omega) | refine Zs.mn ?_ (by omega))); exact Zs.le hz (by omega))) rfl ino_Li tyo_Li fk_Li cl_De_9 it_Li in_Li d_De_init_5 (by omega) (by omega) ?_
  refine aw_dup d_De_init_8 rfl ?_
  refine aw_ie (as := []) (bc' := 1) (bs' := 40) rfl ci_De_11 d_De_init_9 (Nat.le_of_ble_eq_true rfl) (d' := d - 1) (by omega) (by omega) (by omega) rfl (am_Li_init_52 (d := d - 1) (by omega) (by (try simp only [ini_In_init_1, ini_Co_init_4, ini_Li_init_9, ini_Tr_init_11, ini_Re_init_17, ini_Wa_init_18, ini_Li_init_28, ini_De_init_27, ini_Li_init_36, ini_De_init_35, ini_Li_init_44, ini_De_init_43, ini_Li_init_52]); (repeat (first | refine Zs.wR ?_ (by omega) | refine Zs.wI ?_ (by omega) | refine Zs.wL ?_ (by omega) | refine Zs.mn ?_ (by omega))); exact Zs.le hz (by omega))) ?_
  refine aw_putR fd_De_shown lk_De_12 (by omega) rfl d_De_init_12 (Or.inr ⟨rfl, rfl, lp_De_12⟩) ?_
  refine aw_aload_n d_De_init_15 rfl rfl ?_
  refine aw_bipush (z := 6) d_De_init_16 (in_c rfl) rfl ?_
  refine aw_newa (atype := .int) rfl rfl (zs_here (by (try simp only [ini_In_init_1, ini_Co_init_4, ini_Li_init_9, ini_Tr_init_11, ini_Re_init_17, ini_Wa_init_18, ini_Li_init_28, ini_De_init_27, ini_Li_init_36, ini_De_init_35, ini_Li_init_44, ini_De_init_43, ini_Li_init_52]); (repeat (first | refine Zs.wR ?_ (by omega) | refine Zs.wI ?_ (by omega) | refine Zs.wL ?_ (by omega) | refine Zs.mn ?_ (by omega))); exact Zs.le hz (by omega))) (Or.inl ⟨rfl, rfl⟩) rfl ac_int rfl (by decide) d_De_init_18 (by omega) (by omega) ?_
  refine aw_putR fd_De_letters lk_De_18 (by omega) rfl d_De_init_20 (Or.inr ⟨rfl, rfl, lp_De_18⟩) ?_
  refine aw_pc (pc' := 23) rfl ?_
  refine aw_aload_n d_De_init_23 rfl rfl ?_
  refine aw_bipush (z := 6) d_De_init_24 (in_c rfl) rfl ?_
  refine aw_newa (atype := .int) rfl rfl (zs_here (by (try simp only [ini_In_init_1, ini_Co_init_4, ini_Li_init_9, ini_Tr_init_11, ini_Re_init_17, ini_Wa_init_18, ini_Li_init_28, ini_De_init_27, ini_Li_init_36, ini_De_init_35, ini_Li_init_44, ini_De_init_43, ini_Li_init_52]); (repeat (first | refine Zs.wR ?_ (by omega) | refine Zs.wI ?_ (by omega) | refine Zs.wL ?_ (by omega) | refine Zs.mn ?_ (by omega))); exact Zs.le hz (by omega))) (Or.inl ⟨rfl, rfl⟩) rfl ac_int rfl (by decide) d_De_init_26 (by omega) (by omega) ?_
  refine aw_putR fd_De_strangers lk_De_22 (by omega) rfl d_De_init_28 (Or.inr ⟨rfl, rfl, lp_De_22⟩) ?_
  refine aw_aload_n d_De_init_31 rfl rfl ?_
  refine aw_bipush (z := 6) d_De_init_32 (in_c rfl) rfl ?_
  refine aw_newa (atype := .long) rfl rfl (zs_here (by (try simp only [ini_In_init_1, ini_Co_init_4, ini_Li_init_9, ini_Tr_init_11, ini_Re_init_17, ini_Wa_init_18, ini_Li_init_28, ini_De_init_27, ini_Li_init_36, ini_De_init_35, ini_Li_init_44, ini_De_init_43, ini_Li_init_52]); (repeat (first | refine Zs.wR ?_ (by omega) | refine Zs.wI ?_ (by omega) | refine Zs.wL ?_ (by omega) | refine Zs.mn ?_ (by omega))); exact Zs.le hz (by omega))) (Or.inr (Or.inl ⟨rfl, rfl⟩)) rfl ac_long rfl (by decide) d_De_init_34 (by omega) (by omega) ?_
  refine aw_putR fd_De_evaluating lk_De_25 (by omega) rfl d_De_init_36 (Or.inr ⟨rfl, rfl, lp_De_25⟩) ?_
  refine aw_aload_n d_De_init_39 rfl rfl ?_
  refine aw_bipush (z := 6) d_De_init_40 (in_c rfl) rfl ?_
  refine aw_newa (atype := .long) rfl rfl (zs_here (by (try simp only [ini_In_init_1, ini_Co_init_4, ini_Li_init_9, ini_Tr_init_11, ini_Re_init_17, ini_Wa_init_18, ini_Li_init_28, ini_De_init_27, ini_Li_init_36, ini_De_init_35, ini_Li_init_44, ini_De_init_43, ini_Li_init_52]); (repeat (first | refine Zs.wR ?_ (by omega) | refine Zs.wI ?_ (by omega) | refine Zs.wL ?_ (by omega) | refine Zs.mn ?_ (by omega))); exact Zs.le hz (by omega))) (Or.inr (Or.inl ⟨rfl, rfl⟩)) rfl ac_long rfl (by decide) d_De_init_42 (by omega) (by omega) ?_
  refine aw_putR fd_De_decisive lk_De_29 (by omega) rfl d_De_init_44 (Or.inr ⟨rfl, rfl, lp_De_29⟩) ?_
  refine aw_pc (pc' := 47) rfl ?_
  refine aw_aload_n d_De_init_47 rfl rfl ?_
  refine aw_sipush (z := 192) d_De_init_48 (in_c rfl) rfl ?_
  refine aw_newa (atype := .int) rfl rfl (zs_here (by (try simp only [ini_In_init_1, ini_Co_init_4, ini_Li_init_9, ini_Tr_init_11, ini_Re_init_17, ini_Wa_init_18, ini_Li_init_28, ini_De_init_27, ini_Li_init_36, ini_De_init_35, ini_Li_init_44, ini_De_init_43, ini_Li_init_52]); (repeat (first | refine Zs.wR ?_ (by omega) | refine Zs.wI ?_ (by omega) | refine Zs.wL ?_ (by omega) | refine Zs.mn ?_ (by omega))); exact Zs.le hz (by omega))) (Or.inl ⟨rfl, rfl⟩) rfl ac_int rfl (by decide) d_De_init_51 (by omega) (by omega) ?_
  refine aw_putR fd_De_vectors lk_De_32 (by omega) rfl d_De_init_53 (Or.inr ⟨rfl, rfl, lp_De_32⟩) ?_
  refine aw_aload_n d_De_init_56 rfl rfl ?_
  refine aw_iconst d_De_init_57 (in_c rfl) ?_
  refine aw_putI fd_De_count lk_De_35 (by omega) rfl d_De_init_58 (Or.inl rfl) ?_
  refine aw_aload_n d_De_init_61 rfl rfl ?_
  refine aw_lconst (b := 0) d_De_init_62 rfl ?_
  refine aw_putL fd_De_trueWords lk_De_39 (by omega) rfl d_De_init_63 (Or.inl rfl) ?_
  refine aw_aload_n d_De_init_66 rfl rfl ?_
  refine aw_lconst (b := 0) d_De_init_67 rfl ?_
  refine aw_pc (pc' := 68) rfl ?_
  refine aw_putL fd_De_feasibleWords lk_De_43 (by omega) rfl d_De_init_68 (Or.inl rfl) ?_
  refine aw_aload_n d_De_init_71 rfl rfl ?_
  refine aw_aload_n d_De_init_72 rfl rfl ?_
  refine aw_putR fd_De_conditions lk_De_46 (by omega) rfl d_De_init_73 (Or.inr ⟨rfl, rfl, lp_De_46⟩) ?_
  exact aw_vret d_De_init_76 rfl ⟨rfl, rfl, rfl⟩
set_option maxRecDepth 100000 in
theorem am_Su_init_59 {d : Nat} (hd : 1 ≤ d) {μ : aM} (hz : Zs 60 μ) : AM G true d 1 12 y_Su_init [aP 59] 60 μ (Qe none 61 (ini_Su_init_59 μ)) := by
  refine am_of (n := 0) pf_Su_init (Nat.le_of_ble_eq_true rfl) (by intro v hv; simp at hv; rcases hv with rfl <;> trivial) rfl ?_
  refine aw_aload_n d_Su_init_0 rfl rfl ?_
  refine aw_oinit ol_Su_3 oi_in oi_cd d_Su_init_1 (by omega) (Nat.le_of_ble_eq_true rfl) ?_
  refine aw_aload_n d_Su_init_4 rfl rfl ?_
  refine aw_bipush (z := 12) d_Su_init_5 (in_c rfl) rfl ?_
  refine aw_newa (atype := .int) rfl rfl (zs_here (by (try simp only [ini_In_init_1, ini_Co_init_4, ini_Li_init_9, ini_Tr_init_11, ini_Re_init_17, ini_Wa_init_18, ini_Li_init_28, ini_De_init_27, ini_Li_init_36, ini_De_init_35, ini_Li_init_44, ini_De_init_43, ini_Li_init_52, ini_De_init_51]); (repeat (first | refine Zs.wR ?_ (by omega) | refine Zs.wI ?_ (by omega) | refine Zs.wL ?_ (by omega) | refine Zs.mn ?_ (by omega))); exact Zs.le hz (by omega))) (Or.inl ⟨rfl, rfl⟩) rfl ac_int rfl (by decide) d_Su_init_7 (by omega) (by omega) ?_
  refine aw_putR fd_Su_words lk_Su_9 (by omega) rfl d_Su_init_9 (Or.inr ⟨rfl, rfl, lp_Su_9⟩) ?_
  refine aw_aload_n d_Su_init_12 rfl rfl ?_
  refine aw_iconst d_Su_init_13 (in_c rfl) ?_
  refine aw_putI fd_Su_count lk_Su_15 (by omega) rfl d_Su_init_14 (Or.inl rfl) ?_
  refine aw_aload_n d_Su_init_17 rfl rfl ?_
  refine aw_lconst (b := 0) d_Su_init_18 rfl ?_
  refine aw_pc (pc' := 19) rfl ?_
  refine aw_putL fd_Su_set lk_Su_19 (by omega) rfl d_Su_init_19 (Or.inl rfl) ?_
  exact aw_vret d_Su_init_22 rfl ⟨rfl, rfl, rfl⟩
set_option maxRecDepth 100000 in
theorem am_Fe_init_61 {d : Nat} (hd : 1 ≤ d) {μ : aM} (hz : Zs 62 μ) : AM G true d 1 64 y_Fe_init [aP 61] 62 μ (Qe none 63 (ini_Fe_init_61 μ)) := by
  refine am_of (n := 0) pf_Fe_init (Nat.le_of_ble_eq_true rfl) (by intro v hv; simp at hv; rcases hv with rfl <;> trivial) rfl ?_
  refine aw_aload_n d_Fe_init_0 rfl rfl ?_
  refine aw_oinit ol_Fe_3 oi_in oi_cd d_Fe_init_1 (by omega) (Nat.le_of_ble_eq_true rfl) ?_
  refine aw_aload_n d_Fe_init_4 rfl rfl ?_
  refine aw_bipush (z := 64) d_Fe_init_5 (in_c rfl) rfl ?_
  refine aw_newa (atype := .long) rfl rfl (zs_here (by (try simp only [ini_In_init_1, ini_Co_init_4, ini_Li_init_9, ini_Tr_init_11, ini_Re_init_17, ini_Wa_init_18, ini_Li_init_28, ini_De_init_27, ini_Li_init_36, ini_De_init_35, ini_Li_init_44, ini_De_init_43, ini_Li_init_52, ini_De_init_51, ini_Su_init_59]); (repeat (first | refine Zs.wR ?_ (by omega) | refine Zs.wI ?_ (by omega) | refine Zs.wL ?_ (by omega) | refine Zs.mn ?_ (by omega))); exact Zs.le hz (by omega))) (Or.inr (Or.inl ⟨rfl, rfl⟩)) rfl ac_long rfl (by decide) d_Fe_init_7 (by omega) (by omega) ?_
  refine aw_putR fd_Fe_partners lk_Fe_9 (by omega) rfl d_Fe_init_9 (Or.inr ⟨rfl, rfl, lp_Fe_9⟩) ?_
  refine aw_aload_n d_Fe_init_12 rfl rfl ?_
  refine aw_iconst d_Fe_init_13 (in_c rfl) ?_
  refine aw_putI fd_Fe_conditionCount lk_Fe_15 (by omega) rfl d_Fe_init_14 (Or.inl rfl) ?_
  refine aw_aload_n d_Fe_init_17 rfl rfl ?_
  refine aw_iconst d_Fe_init_18 (in_c rfl) ?_
  refine aw_pc (pc' := 19) rfl ?_
  refine aw_putI fd_Fe_wordCount lk_Fe_19 (by omega) rfl d_Fe_init_19 (Or.inl rfl) ?_
  refine aw_aload_n d_Fe_init_22 rfl rfl ?_
  refine aw_lconst (b := 0) d_Fe_init_23 rfl ?_
  refine aw_putL fd_Fe_feasibleWords lk_Fe_22 (by omega) rfl d_Fe_init_24 (Or.inl rfl) ?_
  refine aw_aload_n d_Fe_init_27 rfl rfl ?_
  refine aw_iconst d_Fe_init_28 (in_c rfl) ?_
  refine aw_putI fd_Fe_solved lk_Fe_26 (by omega) rfl d_Fe_init_29 (Or.inl rfl) ?_
  exact aw_vret d_Fe_init_32 rfl ⟨rfl, rfl, rfl⟩
set_option maxRecDepth 100000 in
theorem am_Rc_init_63 {d : Nat} (hd : 1 ≤ d) {μ : aM} (hz : Zs 64 μ) : AM G true d 1 36 y_Rc_init [aP 63] 64 μ (Qe none 65 (ini_Rc_init_63 μ)) := by
  refine am_of (n := 0) pf_Rc_init (Nat.le_of_ble_eq_true rfl) (by intro v hv; simp at hv; rcases hv with rfl <;> trivial) rfl ?_
  refine aw_aload_n d_Rc_init_0 rfl rfl ?_
  refine aw_oinit ol_Rc_3 oi_in oi_cd d_Rc_init_1 (by omega) (Nat.le_of_ble_eq_true rfl) ?_
  refine aw_aload_n d_Rc_init_4 rfl rfl ?_
  refine aw_bipush (z := 36) d_Rc_init_5 (in_c rfl) rfl ?_
  refine aw_newa (atype := .int) rfl rfl (zs_here (by (try simp only [ini_In_init_1, ini_Co_init_4, ini_Li_init_9, ini_Tr_init_11, ini_Re_init_17, ini_Wa_init_18, ini_Li_init_28, ini_De_init_27, ini_Li_init_36, ini_De_init_35, ini_Li_init_44, ini_De_init_43, ini_Li_init_52, ini_De_init_51, ini_Su_init_59, ini_Fe_init_61]); (repeat (first | refine Zs.wR ?_ (by omega) | refine Zs.wI ?_ (by omega) | refine Zs.wL ?_ (by omega) | refine Zs.mn ?_ (by omega))); exact Zs.le hz (by omega))) (Or.inl ⟨rfl, rfl⟩) rfl ac_int rfl (by decide) d_Rc_init_7 (by omega) (by omega) ?_
  refine aw_putR fd_Rc_row lk_Rc_9 (by omega) rfl d_Rc_init_9 (Or.inr ⟨rfl, rfl, lp_Rc_9⟩) ?_
  refine aw_aload_n d_Rc_init_12 rfl rfl ?_
  refine aw_iconst d_Rc_init_13 (in_c rfl) ?_
  refine aw_putI fd_Rc_count lk_Rc_15 (by omega) rfl d_Rc_init_14 (Or.inl rfl) ?_
  exact aw_vret d_Rc_init_17 rfl ⟨rfl, rfl, rfl⟩
set_option maxRecDepth 100000 in
theorem am_Li_init_65 {d : Nat} (hd : 1 ≤ d) {μ : aM} (hz : Zs 66 μ) : AM G true d 1 40 y_Li_init [aP 65] 66 μ (Qe none 67 (ini_Li_init_65 μ)) := by
  refine am_of (n := 0) pf_Li_init (Nat.le_of_ble_eq_true rfl) (by intro v hv; simp at hv; rcases hv with rfl <;> trivial) rfl ?_
  refine aw_aload_n d_Li_init_0 rfl rfl ?_
  refine aw_oinit ol_Li_3 oi_in oi_cd d_Li_init_1 (by omega) (Nat.le_of_ble_eq_true rfl) ?_
  refine aw_aload_n d_Li_init_4 rfl rfl ?_
  refine aw_bipush (z := 40) d_Li_init_5 (in_c rfl) rfl ?_
  refine aw_newa (atype := .char) rfl rfl (zs_here (by (try simp only [ini_In_init_1, ini_Co_init_4, ini_Li_init_9, ini_Tr_init_11, ini_Re_init_17, ini_Wa_init_18, ini_Li_init_28, ini_De_init_27, ini_Li_init_36, ini_De_init_35, ini_Li_init_44, ini_De_init_43, ini_Li_init_52, ini_De_init_51, ini_Su_init_59, ini_Fe_init_61, ini_Rc_init_63]); (repeat (first | refine Zs.wR ?_ (by omega) | refine Zs.wI ?_ (by omega) | refine Zs.wL ?_ (by omega) | refine Zs.mn ?_ (by omega))); exact Zs.le hz (by omega))) (Or.inr (Or.inr (Or.inl ⟨rfl, rfl⟩))) rfl ac_char rfl (by decide) d_Li_init_7 (by omega) (by omega) ?_
  refine aw_putR fd_Li_characters lk_Li_9 (by omega) rfl d_Li_init_9 (Or.inr ⟨rfl, rfl, lp_Li_9⟩) ?_
  refine aw_aload_n d_Li_init_12 rfl rfl ?_
  refine aw_iconst d_Li_init_13 (in_c rfl) ?_
  refine aw_putI fd_Li_count lk_Li_15 (by omega) rfl d_Li_init_14 (Or.inl rfl) ?_
  exact aw_vret d_Li_init_17 rfl ⟨rfl, rfl, rfl⟩
set_option maxRecDepth 100000 in
theorem am_MC_init_0 {d : Nat} (hd : 3 ≤ d) {μ : aM} (hz : Zs 1 μ) : AM G true d 66 2035 y_MC_init [aP 0] 1 μ (Qe none 67 (ini_MC_init_0 μ)) := by
  refine am_of (n := 1) pf_MC_init (Nat.le_of_ble_eq_true rfl) (by intro v hv; simp at hv; rcases hv with rfl <;> trivial) rfl ?_
  refine aw_aload_n d_MC_init_0 rfl rfl ?_
  refine aw_oinit ol_MC_1 oi_in oi_cd d_MC_init_1 (by omega) (Nat.le_of_ble_eq_true rfl) ?_
  refine aw_aload_n d_MC_init_4 rfl rfl ?_
  refine aw_new (ci := 1) rfl rfl (zs_here (by (try simp only [ini_In_init_1, ini_Co_init_4, ini_Li_init_9, ini_Tr_init_11, ini_Re_init_17, ini_Wa_init_18, ini_Li_init_28, ini_De_init_27, ini_Li_init_36, ini_De_init_35, ini_Li_init_44, ini_De_init_43, ini_Li_init_52, ini_De_init_51, ini_Su_init_59, ini_Fe_init_61, ini_Rc_init_63, ini_Li_init_65]); (repeat (first | refine Zs.wR ?_ (by omega) | refine Zs.wI ?_ (by omega) | refine Zs.wL ?_ (by omega) | refine Zs.mn ?_ (by omega))); exact Zs.le hz (by omega))) rfl ino_In tyo_In fk_In cl_MC_7 it_In in_In d_MC_init_5 (by omega) (by omega) ?_
  refine aw_dup d_MC_init_8 rfl ?_
  refine aw_ie (as := []) (bc' := 2) (bs' := 6) rfl ci_MC_9 d_MC_init_9 (Nat.le_of_ble_eq_true rfl) (d' := d - 1) (by omega) (by omega) (by omega) rfl (am_In_init_1 (d := d - 1) (by omega) (by (try simp only [ini_In_init_1, ini_Co_init_4, ini_Li_init_9, ini_Tr_init_11, ini_Re_init_17, ini_Wa_init_18, ini_Li_init_28, ini_De_init_27, ini_Li_init_36, ini_De_init_35, ini_Li_init_44, ini_De_init_43, ini_Li_init_52, ini_De_init_51, ini_Su_init_59, ini_Fe_init_61, ini_Rc_init_63, ini_Li_init_65]); (repeat (first | refine Zs.wR ?_ (by omega) | refine Zs.wI ?_ (by omega) | refine Zs.wL ?_ (by omega) | refine Zs.mn ?_ (by omega))); exact Zs.le hz (by omega))) ?_
  refine aw_putR fd_MC_inputs lk_MC_10 (by omega) rfl d_MC_init_12 (Or.inr ⟨rfl, rfl, lp_MC_10⟩) ?_
  refine aw_aload_n d_MC_init_15 rfl rfl ?_
  refine aw_new (ci := 2) rfl rfl (zs_here (by (try simp only [ini_In_init_1, ini_Co_init_4, ini_Li_init_9, ini_Tr_init_11, ini_Re_init_17, ini_Wa_init_18, ini_Li_init_28, ini_De_init_27, ini_Li_init_36, ini_De_init_35, ini_Li_init_44, ini_De_init_43, ini_Li_init_52, ini_De_init_51, ini_Su_init_59, ini_Fe_init_61, ini_Rc_init_63, ini_Li_init_65]); (repeat (first | refine Zs.wR ?_ (by omega) | refine Zs.wI ?_ (by omega) | refine Zs.wL ?_ (by omega) | refine Zs.mn ?_ (by omega))); exact Zs.le hz (by omega))) rfl ino_Co tyo_Co fk_Co cl_MC_16 it_Co in_Co d_MC_init_16 (by omega) (by omega) ?_
  refine aw_dup d_MC_init_19 rfl ?_
  refine aw_ie (as := []) (bc' := 4) (bs' := 32) rfl ci_MC_18 d_MC_init_20 (Nat.le_of_ble_eq_true rfl) (d' := d - 1) (by omega) (by omega) (by omega) rfl (am_Co_init_4 (d := d - 1) (by omega) (by (try simp only [ini_In_init_1, ini_Co_init_4, ini_Li_init_9, ini_Tr_init_11, ini_Re_init_17, ini_Wa_init_18, ini_Li_init_28, ini_De_init_27, ini_Li_init_36, ini_De_init_35, ini_Li_init_44, ini_De_init_43, ini_Li_init_52, ini_De_init_51, ini_Su_init_59, ini_Fe_init_61, ini_Rc_init_63, ini_Li_init_65]); (repeat (first | refine Zs.wR ?_ (by omega) | refine Zs.wI ?_ (by omega) | refine Zs.wL ?_ (by omega) | refine Zs.mn ?_ (by omega))); exact Zs.le hz (by omega))) ?_
  refine aw_pc (pc' := 23) rfl ?_
  refine aw_putR fd_MC_conditions lk_MC_19 (by omega) rfl d_MC_init_23 (Or.inr ⟨rfl, rfl, lp_MC_19⟩) ?_
  refine aw_aload_n d_MC_init_26 rfl rfl ?_
  refine aw_new (ci := 3) rfl rfl (zs_here (by (try simp only [ini_In_init_1, ini_Co_init_4, ini_Li_init_9, ini_Tr_init_11, ini_Re_init_17, ini_Wa_init_18, ini_Li_init_28, ini_De_init_27, ini_Li_init_36, ini_De_init_35, ini_Li_init_44, ini_De_init_43, ini_Li_init_52, ini_De_init_51, ini_Su_init_59, ini_Fe_init_61, ini_Rc_init_63, ini_Li_init_65]); (repeat (first | refine Zs.wR ?_ (by omega) | refine Zs.wI ?_ (by omega) | refine Zs.wL ?_ (by omega) | refine Zs.mn ?_ (by omega))); exact Zs.le hz (by omega))) rfl ino_Li tyo_Li fk_Li cl_MC_23 it_Li in_Li d_MC_init_27 (by omega) (by omega) ?_
  refine aw_dup d_MC_init_30 rfl ?_
  refine aw_ie (as := []) (bc' := 1) (bs' := 40) rfl ci_MC_25 d_MC_init_31 (Nat.le_of_ble_eq_true rfl) (d' := d - 1) (by omega) (by omega) (by omega) rfl (am_Li_init_9 (d := d - 1) (by omega) (by (try simp only [ini_In_init_1, ini_Co_init_4, ini_Li_init_9, ini_Tr_init_11, ini_Re_init_17, ini_Wa_init_18, ini_Li_init_28, ini_De_init_27, ini_Li_init_36, ini_De_init_35, ini_Li_init_44, ini_De_init_43, ini_Li_init_52, ini_De_init_51, ini_Su_init_59, ini_Fe_init_61, ini_Rc_init_63, ini_Li_init_65]); (repeat (first | refine Zs.wR ?_ (by omega) | refine Zs.wI ?_ (by omega) | refine Zs.wL ?_ (by omega) | refine Zs.mn ?_ (by omega))); exact Zs.le hz (by omega))) ?_
  refine aw_putR fd_MC_text lk_MC_26 (by omega) rfl d_MC_init_34 (Or.inr ⟨rfl, rfl, lp_MC_26⟩) ?_
  refine aw_aload_n d_MC_init_37 rfl rfl ?_
  refine aw_new (ci := 4) rfl rfl (zs_here (by (try simp only [ini_In_init_1, ini_Co_init_4, ini_Li_init_9, ini_Tr_init_11, ini_Re_init_17, ini_Wa_init_18, ini_Li_init_28, ini_De_init_27, ini_Li_init_36, ini_De_init_35, ini_Li_init_44, ini_De_init_43, ini_Li_init_52, ini_De_init_51, ini_Su_init_59, ini_Fe_init_61, ini_Rc_init_63, ini_Li_init_65]); (repeat (first | refine Zs.wR ?_ (by omega) | refine Zs.wI ?_ (by omega) | refine Zs.wL ?_ (by omega) | refine Zs.mn ?_ (by omega))); exact Zs.le hz (by omega))) rfl ino_Tr tyo_Tr fk_Tr cl_MC_30 it_Tr in_Tr d_MC_init_38 (by omega) (by omega) ?_
  refine aw_dup d_MC_init_41 rfl ?_
  refine aw_ie (as := []) (bc' := 5) (bs' := 200) rfl ci_MC_32 d_MC_init_42 (Nat.le_of_ble_eq_true rfl) (d' := d - 1) (by omega) (by omega) (by omega) rfl (am_Tr_init_11 (d := d - 1) (by omega) (by (try simp only [ini_In_init_1, ini_Co_init_4, ini_Li_init_9, ini_Tr_init_11, ini_Re_init_17, ini_Wa_init_18, ini_Li_init_28, ini_De_init_27, ini_Li_init_36, ini_De_init_35, ini_Li_init_44, ini_De_init_43, ini_Li_init_52, ini_De_init_51, ini_Su_init_59, ini_Fe_init_61, ini_Rc_init_63, ini_Li_init_65]); (repeat (first | refine Zs.wR ?_ (by omega) | refine Zs.wI ?_ (by omega) | refine Zs.wL ?_ (by omega) | refine Zs.mn ?_ (by omega))); exact Zs.le hz (by omega))) ?_
  refine aw_putR fd_MC_tree lk_MC_33 (by omega) rfl d_MC_init_45 (Or.inr ⟨rfl, rfl, lp_MC_33⟩) ?_
  refine aw_aload_n d_MC_init_48 rfl rfl ?_
  refine aw_pc (pc' := 49) rfl ?_
  refine aw_new (ci := 5) rfl rfl (zs_here (by (try simp only [ini_In_init_1, ini_Co_init_4, ini_Li_init_9, ini_Tr_init_11, ini_Re_init_17, ini_Wa_init_18, ini_Li_init_28, ini_De_init_27, ini_Li_init_36, ini_De_init_35, ini_Li_init_44, ini_De_init_43, ini_Li_init_52, ini_De_init_51, ini_Su_init_59, ini_Fe_init_61, ini_Rc_init_63, ini_Li_init_65]); (repeat (first | refine Zs.wR ?_ (by omega) | refine Zs.wI ?_ (by omega) | refine Zs.wL ?_ (by omega) | refine Zs.mn ?_ (by omega))); exact Zs.le hz (by omega))) rfl ino_Re tyo_Re fk_Re cl_MC_37 it_Re in_Re d_MC_init_49 (by omega) (by omega) ?_
  refine aw_dup d_MC_init_52 rfl ?_
  refine aw_aload_n d_MC_init_53 rfl rfl ?_
  refine aw_getR fd_MC_text lk_MC_26 (by omega) rfl d_MC_init_54 rfl ?_
  refine aw_aload_n d_MC_init_57 rfl rfl ?_
  refine aw_getR fd_MC_tree lk_MC_33 (by omega) rfl d_MC_init_58 rfl ?_
  refine aw_ie (as := [_, _]) (bc' := 0) (bs' := 0) rfl ci_MC_39 d_MC_init_61 (Nat.le_of_ble_eq_true rfl) (d' := d - 1) (by omega) (by omega) (by omega) rfl (am_Re_init_17 (d := d - 1) (by omega) (by (try simp only [ini_In_init_1, ini_Co_init_4, ini_Li_init_9, ini_Tr_init_11, ini_Re_init_17, ini_Wa_init_18, ini_Li_init_28, ini_De_init_27, ini_Li_init_36, ini_De_init_35, ini_Li_init_44, ini_De_init_43, ini_Li_init_52, ini_De_init_51, ini_Su_init_59, ini_Fe_init_61, ini_Rc_init_63, ini_Li_init_65]); (repeat (first | refine Zs.wR ?_ (by omega) | refine Zs.wI ?_ (by omega) | refine Zs.wL ?_ (by omega) | refine Zs.mn ?_ (by omega))); exact Zs.le hz (by omega))) ?_
  refine aw_putR fd_MC_reader lk_MC_42 (by omega) rfl d_MC_init_64 (Or.inr ⟨rfl, rfl, lp_MC_42⟩) ?_
  refine aw_aload_n d_MC_init_67 rfl rfl ?_
  refine aw_new (ci := 7) rfl rfl (zs_here (by (try simp only [ini_In_init_1, ini_Co_init_4, ini_Li_init_9, ini_Tr_init_11, ini_Re_init_17, ini_Wa_init_18, ini_Li_init_28, ini_De_init_27, ini_Li_init_36, ini_De_init_35, ini_Li_init_44, ini_De_init_43, ini_Li_init_52, ini_De_init_51, ini_Su_init_59, ini_Fe_init_61, ini_Rc_init_63, ini_Li_init_65]); (repeat (first | refine Zs.wR ?_ (by omega) | refine Zs.wI ?_ (by omega) | refine Zs.wL ?_ (by omega) | refine Zs.mn ?_ (by omega))); exact Zs.le hz (by omega))) rfl ino_Wa tyo_Wa fk_Wa cl_MC_46 it_Wa in_Wa d_MC_init_68 (by omega) (by omega) ?_
  refine aw_dup d_MC_init_71 rfl ?_
  refine aw_aload_n d_MC_init_72 rfl rfl ?_
  refine aw_pc (pc' := 73) rfl ?_
  refine aw_getR fd_MC_inputs lk_MC_10 (by omega) rfl d_MC_init_73 rfl ?_
  refine aw_aload_n d_MC_init_76 rfl rfl ?_
  refine aw_getR fd_MC_conditions lk_MC_19 (by omega) rfl d_MC_init_77 rfl ?_
  refine aw_ie (as := [_, _]) (bc' := 7) (bs' := 492) rfl ci_MC_48 d_MC_init_80 (Nat.le_of_ble_eq_true rfl) (d' := d - 1) (by omega) (by omega) (by omega) rfl (am_Wa_init_18 (d := d - 1) (by omega) (by (try simp only [ini_In_init_1, ini_Co_init_4, ini_Li_init_9, ini_Tr_init_11, ini_Re_init_17, ini_Wa_init_18, ini_Li_init_28, ini_De_init_27, ini_Li_init_36, ini_De_init_35, ini_Li_init_44, ini_De_init_43, ini_Li_init_52, ini_De_init_51, ini_Su_init_59, ini_Fe_init_61, ini_Rc_init_63, ini_Li_init_65]); (repeat (first | refine Zs.wR ?_ (by omega) | refine Zs.wI ?_ (by omega) | refine Zs.wL ?_ (by omega) | refine Zs.mn ?_ (by omega))); exact Zs.le hz (by omega))) ?_
  refine aw_putR fd_MC_walk lk_MC_51 (by omega) rfl d_MC_init_83 (Or.inr ⟨rfl, rfl, lp_MC_51⟩) ?_
  refine aw_aload_n d_MC_init_86 rfl rfl ?_
  refine aw_iconst d_MC_init_87 (in_c rfl) ?_
  refine aw_anew rfl rfl (zs_here (by (try simp only [ini_In_init_1, ini_Co_init_4, ini_Li_init_9, ini_Tr_init_11, ini_Re_init_17, ini_Wa_init_18, ini_Li_init_28, ini_De_init_27, ini_Li_init_36, ini_De_init_35, ini_Li_init_44, ini_De_init_43, ini_Li_init_52, ini_De_init_51, ini_Su_init_59, ini_Fe_init_61, ini_Rc_init_63, ini_Li_init_65]); (repeat (first | refine Zs.wR ?_ (by omega) | refine Zs.wI ?_ (by omega) | refine Zs.wL ?_ (by omega) | refine Zs.mn ?_ (by omega))); exact Zs.le hz (by omega))) rfl (by decide) cl_MC_55 (fun s h => h.2.2.1.2.2.2.2.2.2.2.2.2.2.2.1) d_MC_init_88 (by omega) (by omega) ?_
  refine aw_putR fd_MC_decisions lk_MC_57 (by omega) rfl d_MC_init_91 (Or.inr ⟨rfl, rfl, lp_MC_57⟩) ?_
  refine aw_iconst d_MC_init_94 (in_c rfl) ?_
  refine aw_istore_n (lst' := [_, _]) d_MC_init_95 rfl (Nat.le_of_ble_eq_true rfl) rfl ?_
  refine aw_iload_n d_MC_init_96 rfl rfl ?_
  refine aw_pc (pc' := 97) rfl ?_
  refine aw_iconst d_MC_init_97 (in_c rfl) ?_
  refine aw_icmp_ge (tgt := 124) d_MC_init_98 rfl (fun h98 => absurd h98 (by decide)) (fun h98 => ?_)
  refine aw_aload_n d_MC_init_101 rfl rfl ?_
  refine aw_getR fd_MC_decisions lk_MC_57 (by omega) rfl d_MC_init_102 rfl ?_
  refine aw_iload_n d_MC_init_105 rfl rfl ?_
  refine aw_new (ci := 6) rfl rfl (zs_here (by (try simp only [ini_In_init_1, ini_Co_init_4, ini_Li_init_9, ini_Tr_init_11, ini_Re_init_17, ini_Wa_init_18, ini_Li_init_28, ini_De_init_27, ini_Li_init_36, ini_De_init_35, ini_Li_init_44, ini_De_init_43, ini_Li_init_52, ini_De_init_51, ini_Su_init_59, ini_Fe_init_61, ini_Rc_init_63, ini_Li_init_65]); (repeat (first | refine Zs.wR ?_ (by omega) | refine Zs.wI ?_ (by omega) | refine Zs.wL ?_ (by omega) | refine Zs.mn ?_ (by omega))); exact Zs.le hz (by omega))) rfl ino_De tyo_De fk_De cl_MC_55 it_De in_De d_MC_init_106 (by omega) (by omega) ?_
  refine aw_dup d_MC_init_109 rfl ?_
  refine aw_aload_n d_MC_init_110 rfl rfl ?_
  refine aw_getR fd_MC_conditions lk_MC_19 (by omega) rfl d_MC_init_111 rfl ?_
  refine aw_ie (as := [_]) (bc' := 7) (bs' := 258) rfl ci_MC_61 d_MC_init_114 (Nat.le_of_ble_eq_true rfl) (d' := d - 1) (by omega) (by omega) (by omega) rfl (am_De_init_27 (d := d - 1) (by omega) (by (try simp only [ini_In_init_1, ini_Co_init_4, ini_Li_init_9, ini_Tr_init_11, ini_Re_init_17, ini_Wa_init_18, ini_Li_init_28, ini_De_init_27, ini_Li_init_36, ini_De_init_35, ini_Li_init_44, ini_De_init_43, ini_Li_init_52, ini_De_init_51, ini_Su_init_59, ini_Fe_init_61, ini_Rc_init_63, ini_Li_init_65]); (repeat (first | refine Zs.wR ?_ (by omega) | refine Zs.wI ?_ (by omega) | refine Zs.wL ?_ (by omega) | refine Zs.mn ?_ (by omega))); exact Zs.le hz (by omega))) ?_
  refine aw_aast (n := 0) (by omega) rfl (by omega) rfl rfl rfl (by omega) d_MC_init_117 ?_
  refine aw_iinc (lst' := [_, _]) d_MC_init_118 (Nat.le_of_ble_eq_true rfl) rfl (by unfold inR; omega) rfl ?_
  refine aw_pc (pc' := 121) rfl ?_
  refine aw_goto (tgt := 96) d_MC_init_121 rfl ?_
  refine aw_iload_n d_MC_init_96 rfl rfl ?_
  refine aw_iconst d_MC_init_97 (in_c rfl) ?_
  refine aw_icmp_ge (tgt := 124) d_MC_init_98 rfl (fun h98 => absurd h98 (by decide)) (fun h98 => ?_)
  refine aw_aload_n d_MC_init_101 rfl rfl ?_
  refine aw_getR fd_MC_decisions lk_MC_57 (by omega) rfl d_MC_init_102 rfl ?_
  refine aw_iload_n d_MC_init_105 rfl rfl ?_
  refine aw_new (ci := 6) rfl rfl (zs_here (by (try simp only [ini_In_init_1, ini_Co_init_4, ini_Li_init_9, ini_Tr_init_11, ini_Re_init_17, ini_Wa_init_18, ini_Li_init_28, ini_De_init_27, ini_Li_init_36, ini_De_init_35, ini_Li_init_44, ini_De_init_43, ini_Li_init_52, ini_De_init_51, ini_Su_init_59, ini_Fe_init_61, ini_Rc_init_63, ini_Li_init_65]); (repeat (first | refine Zs.wR ?_ (by omega) | refine Zs.wI ?_ (by omega) | refine Zs.wL ?_ (by omega) | refine Zs.mn ?_ (by omega))); exact Zs.le hz (by omega))) rfl ino_De tyo_De fk_De cl_MC_55 it_De in_De d_MC_init_106 (by omega) (by omega) ?_
  refine aw_dup d_MC_init_109 rfl ?_
  refine aw_aload_n d_MC_init_110 rfl rfl ?_
  refine aw_getR fd_MC_conditions lk_MC_19 (by omega) rfl d_MC_init_111 rfl ?_
  refine aw_ie (as := [_]) (bc' := 7) (bs' := 258) rfl ci_MC_61 d_MC_init_114 (Nat.le_of_ble_eq_true rfl) (d' := d - 1) (by omega) (by omega) (by omega) rfl (am_De_init_35 (d := d - 1) (by omega) (by (try simp only [ini_In_init_1, ini_Co_init_4, ini_Li_init_9, ini_Tr_init_11, ini_Re_init_17, ini_Wa_init_18, ini_Li_init_28, ini_De_init_27, ini_Li_init_36, ini_De_init_35, ini_Li_init_44, ini_De_init_43, ini_Li_init_52, ini_De_init_51, ini_Su_init_59, ini_Fe_init_61, ini_Rc_init_63, ini_Li_init_65]); (repeat (first | refine Zs.wR ?_ (by omega) | refine Zs.wI ?_ (by omega) | refine Zs.wL ?_ (by omega) | refine Zs.mn ?_ (by omega))); exact Zs.le hz (by omega))) ?_
  refine aw_pc (pc' := 117) rfl ?_
  refine aw_aast (n := 1) (by omega) rfl (by omega) rfl rfl rfl (by omega) d_MC_init_117 ?_
  refine aw_iinc (lst' := [_, _]) d_MC_init_118 (Nat.le_of_ble_eq_true rfl) rfl (by unfold inR; omega) rfl ?_
  refine aw_goto (tgt := 96) d_MC_init_121 rfl ?_
  refine aw_iload_n d_MC_init_96 rfl rfl ?_
  refine aw_iconst d_MC_init_97 (in_c rfl) ?_
  refine aw_icmp_ge (tgt := 124) d_MC_init_98 rfl (fun h98 => absurd h98 (by decide)) (fun h98 => ?_)
  refine aw_aload_n d_MC_init_101 rfl rfl ?_
  refine aw_getR fd_MC_decisions lk_MC_57 (by omega) rfl d_MC_init_102 rfl ?_
  refine aw_iload_n d_MC_init_105 rfl rfl ?_
  refine aw_new (ci := 6) rfl rfl (zs_here (by (try simp only [ini_In_init_1, ini_Co_init_4, ini_Li_init_9, ini_Tr_init_11, ini_Re_init_17, ini_Wa_init_18, ini_Li_init_28, ini_De_init_27, ini_Li_init_36, ini_De_init_35, ini_Li_init_44, ini_De_init_43, ini_Li_init_52, ini_De_init_51, ini_Su_init_59, ini_Fe_init_61, ini_Rc_init_63, ini_Li_init_65]); (repeat (first | refine Zs.wR ?_ (by omega) | refine Zs.wI ?_ (by omega) | refine Zs.wL ?_ (by omega) | refine Zs.mn ?_ (by omega))); exact Zs.le hz (by omega))) rfl ino_De tyo_De fk_De cl_MC_55 it_De in_De d_MC_init_106 (by omega) (by omega) ?_
  refine aw_dup d_MC_init_109 rfl ?_
  refine aw_aload_n d_MC_init_110 rfl rfl ?_
  refine aw_pc (pc' := 111) rfl ?_
  refine aw_getR fd_MC_conditions lk_MC_19 (by omega) rfl d_MC_init_111 rfl ?_
  refine aw_ie (as := [_]) (bc' := 7) (bs' := 258) rfl ci_MC_61 d_MC_init_114 (Nat.le_of_ble_eq_true rfl) (d' := d - 1) (by omega) (by omega) (by omega) rfl (am_De_init_43 (d := d - 1) (by omega) (by (try simp only [ini_In_init_1, ini_Co_init_4, ini_Li_init_9, ini_Tr_init_11, ini_Re_init_17, ini_Wa_init_18, ini_Li_init_28, ini_De_init_27, ini_Li_init_36, ini_De_init_35, ini_Li_init_44, ini_De_init_43, ini_Li_init_52, ini_De_init_51, ini_Su_init_59, ini_Fe_init_61, ini_Rc_init_63, ini_Li_init_65]); (repeat (first | refine Zs.wR ?_ (by omega) | refine Zs.wI ?_ (by omega) | refine Zs.wL ?_ (by omega) | refine Zs.mn ?_ (by omega))); exact Zs.le hz (by omega))) ?_
  refine aw_aast (n := 2) (by omega) rfl (by omega) rfl rfl rfl (by omega) d_MC_init_117 ?_
  refine aw_iinc (lst' := [_, _]) d_MC_init_118 (Nat.le_of_ble_eq_true rfl) rfl (by unfold inR; omega) rfl ?_
  refine aw_goto (tgt := 96) d_MC_init_121 rfl ?_
  refine aw_iload_n d_MC_init_96 rfl rfl ?_
  refine aw_iconst d_MC_init_97 (in_c rfl) ?_
  refine aw_icmp_ge (tgt := 124) d_MC_init_98 rfl (fun h98 => absurd h98 (by decide)) (fun h98 => ?_)
  refine aw_aload_n d_MC_init_101 rfl rfl ?_
  refine aw_getR fd_MC_decisions lk_MC_57 (by omega) rfl d_MC_init_102 rfl ?_
  refine aw_iload_n d_MC_init_105 rfl rfl ?_
  refine aw_new (ci := 6) rfl rfl (zs_here (by (try simp only [ini_In_init_1, ini_Co_init_4, ini_Li_init_9, ini_Tr_init_11, ini_Re_init_17, ini_Wa_init_18, ini_Li_init_28, ini_De_init_27, ini_Li_init_36, ini_De_init_35, ini_Li_init_44, ini_De_init_43, ini_Li_init_52, ini_De_init_51, ini_Su_init_59, ini_Fe_init_61, ini_Rc_init_63, ini_Li_init_65]); (repeat (first | refine Zs.wR ?_ (by omega) | refine Zs.wI ?_ (by omega) | refine Zs.wL ?_ (by omega) | refine Zs.mn ?_ (by omega))); exact Zs.le hz (by omega))) rfl ino_De tyo_De fk_De cl_MC_55 it_De in_De d_MC_init_106 (by omega) (by omega) ?_
  refine aw_pc (pc' := 109) rfl ?_
  refine aw_dup d_MC_init_109 rfl ?_
  refine aw_aload_n d_MC_init_110 rfl rfl ?_
  refine aw_getR fd_MC_conditions lk_MC_19 (by omega) rfl d_MC_init_111 rfl ?_
  refine aw_ie (as := [_]) (bc' := 7) (bs' := 258) rfl ci_MC_61 d_MC_init_114 (Nat.le_of_ble_eq_true rfl) (d' := d - 1) (by omega) (by omega) (by omega) rfl (am_De_init_51 (d := d - 1) (by omega) (by (try simp only [ini_In_init_1, ini_Co_init_4, ini_Li_init_9, ini_Tr_init_11, ini_Re_init_17, ini_Wa_init_18, ini_Li_init_28, ini_De_init_27, ini_Li_init_36, ini_De_init_35, ini_Li_init_44, ini_De_init_43, ini_Li_init_52, ini_De_init_51, ini_Su_init_59, ini_Fe_init_61, ini_Rc_init_63, ini_Li_init_65]); (repeat (first | refine Zs.wR ?_ (by omega) | refine Zs.wI ?_ (by omega) | refine Zs.wL ?_ (by omega) | refine Zs.mn ?_ (by omega))); exact Zs.le hz (by omega))) ?_
  refine aw_aast (n := 3) (by omega) rfl (by omega) rfl rfl rfl (by omega) d_MC_init_117 ?_
  refine aw_iinc (lst' := [_, _]) d_MC_init_118 (Nat.le_of_ble_eq_true rfl) rfl (by unfold inR; omega) rfl ?_
  refine aw_goto (tgt := 96) d_MC_init_121 rfl ?_
  refine aw_iload_n d_MC_init_96 rfl rfl ?_
  refine aw_iconst d_MC_init_97 (in_c rfl) ?_
  refine aw_icmp_ge (tgt := 124) d_MC_init_98 rfl (fun h98 => ?_) (fun h98 => absurd (by decide) h98)
  refine aw_aload_n d_MC_init_124 rfl rfl ?_
  refine aw_new (ci := 8) rfl rfl (zs_here (by (try simp only [ini_In_init_1, ini_Co_init_4, ini_Li_init_9, ini_Tr_init_11, ini_Re_init_17, ini_Wa_init_18, ini_Li_init_28, ini_De_init_27, ini_Li_init_36, ini_De_init_35, ini_Li_init_44, ini_De_init_43, ini_Li_init_52, ini_De_init_51, ini_Su_init_59, ini_Fe_init_61, ini_Rc_init_63, ini_Li_init_65]); (repeat (first | refine Zs.wR ?_ (by omega) | refine Zs.wI ?_ (by omega) | refine Zs.wL ?_ (by omega) | refine Zs.mn ?_ (by omega))); exact Zs.le hz (by omega))) rfl ino_Su tyo_Su fk_Su cl_MC_64 it_Su in_Su d_MC_init_125 (by omega) (by omega) ?_
  refine aw_pc (pc' := 128) rfl ?_
  refine aw_dup d_MC_init_128 rfl ?_
  refine aw_ie (as := []) (bc' := 1) (bs' := 12) rfl ci_MC_66 d_MC_init_129 (Nat.le_of_ble_eq_true rfl) (d' := d - 1) (by omega) (by omega) (by omega) rfl (am_Su_init_59 (d := d - 1) (by omega) (by (try simp only [ini_In_init_1, ini_Co_init_4, ini_Li_init_9, ini_Tr_init_11, ini_Re_init_17, ini_Wa_init_18, ini_Li_init_28, ini_De_init_27, ini_Li_init_36, ini_De_init_35, ini_Li_init_44, ini_De_init_43, ini_Li_init_52, ini_De_init_51, ini_Su_init_59, ini_Fe_init_61, ini_Rc_init_63, ini_Li_init_65]); (repeat (first | refine Zs.wR ?_ (by omega) | refine Zs.wI ?_ (by omega) | refine Zs.wL ?_ (by omega) | refine Zs.mn ?_ (by omega))); exact Zs.le hz (by omega))) ?_
  refine aw_putR fd_MC_suite lk_MC_67 (by omega) rfl d_MC_init_132 (Or.inr ⟨rfl, rfl, lp_MC_67⟩) ?_
  refine aw_aload_n d_MC_init_135 rfl rfl ?_
  refine aw_new (ci := 9) rfl rfl (zs_here (by (try simp only [ini_In_init_1, ini_Co_init_4, ini_Li_init_9, ini_Tr_init_11, ini_Re_init_17, ini_Wa_init_18, ini_Li_init_28, ini_De_init_27, ini_Li_init_36, ini_De_init_35, ini_Li_init_44, ini_De_init_43, ini_Li_init_52, ini_De_init_51, ini_Su_init_59, ini_Fe_init_61, ini_Rc_init_63, ini_Li_init_65]); (repeat (first | refine Zs.wR ?_ (by omega) | refine Zs.wI ?_ (by omega) | refine Zs.wL ?_ (by omega) | refine Zs.mn ?_ (by omega))); exact Zs.le hz (by omega))) rfl ino_Fe tyo_Fe fk_Fe cl_MC_71 it_Fe in_Fe d_MC_init_136 (by omega) (by omega) ?_
  refine aw_dup d_MC_init_139 rfl ?_
  refine aw_ie (as := []) (bc' := 1) (bs' := 64) rfl ci_MC_73 d_MC_init_140 (Nat.le_of_ble_eq_true rfl) (d' := d - 1) (by omega) (by omega) (by omega) rfl (am_Fe_init_61 (d := d - 1) (by omega) (by (try simp only [ini_In_init_1, ini_Co_init_4, ini_Li_init_9, ini_Tr_init_11, ini_Re_init_17, ini_Wa_init_18, ini_Li_init_28, ini_De_init_27, ini_Li_init_36, ini_De_init_35, ini_Li_init_44, ini_De_init_43, ini_Li_init_52, ini_De_init_51, ini_Su_init_59, ini_Fe_init_61, ini_Rc_init_63, ini_Li_init_65]); (repeat (first | refine Zs.wR ?_ (by omega) | refine Zs.wI ?_ (by omega) | refine Zs.wL ?_ (by omega) | refine Zs.mn ?_ (by omega))); exact Zs.le hz (by omega))) ?_
  refine aw_putR fd_MC_fewest lk_MC_74 (by omega) rfl d_MC_init_143 (Or.inr ⟨rfl, rfl, lp_MC_74⟩) ?_
  refine aw_aload_n d_MC_init_146 rfl rfl ?_
  refine aw_new (ci := 10) rfl rfl (zs_here (by (try simp only [ini_In_init_1, ini_Co_init_4, ini_Li_init_9, ini_Tr_init_11, ini_Re_init_17, ini_Wa_init_18, ini_Li_init_28, ini_De_init_27, ini_Li_init_36, ini_De_init_35, ini_Li_init_44, ini_De_init_43, ini_Li_init_52, ini_De_init_51, ini_Su_init_59, ini_Fe_init_61, ini_Rc_init_63, ini_Li_init_65]); (repeat (first | refine Zs.wR ?_ (by omega) | refine Zs.wI ?_ (by omega) | refine Zs.wL ?_ (by omega) | refine Zs.mn ?_ (by omega))); exact Zs.le hz (by omega))) rfl ino_Rc tyo_Rc fk_Rc cl_MC_78 it_Rc in_Rc d_MC_init_147 (by omega) (by omega) ?_
  refine aw_dup d_MC_init_150 rfl ?_
  refine aw_ie (as := []) (bc' := 1) (bs' := 36) rfl ci_MC_80 d_MC_init_151 (Nat.le_of_ble_eq_true rfl) (d' := d - 1) (by omega) (by omega) (by omega) rfl (am_Rc_init_63 (d := d - 1) (by omega) (by (try simp only [ini_In_init_1, ini_Co_init_4, ini_Li_init_9, ini_Tr_init_11, ini_Re_init_17, ini_Wa_init_18, ini_Li_init_28, ini_De_init_27, ini_Li_init_36, ini_De_init_35, ini_Li_init_44, ini_De_init_43, ini_Li_init_52, ini_De_init_51, ini_Su_init_59, ini_Fe_init_61, ini_Rc_init_63, ini_Li_init_65]); (repeat (first | refine Zs.wR ?_ (by omega) | refine Zs.wI ?_ (by omega) | refine Zs.wL ?_ (by omega) | refine Zs.mn ?_ (by omega))); exact Zs.le hz (by omega))) ?_
  refine aw_pc (pc' := 154) rfl ?_
  refine aw_putR fd_MC_records lk_MC_81 (by omega) rfl d_MC_init_154 (Or.inr ⟨rfl, rfl, lp_MC_81⟩) ?_
  refine aw_aload_n d_MC_init_157 rfl rfl ?_
  refine aw_iconst d_MC_init_158 (in_c rfl) ?_
  refine aw_putI fd_MC_decisionCount lk_MC_85 (by omega) rfl d_MC_init_159 (Or.inl rfl) ?_
  refine aw_aload_n d_MC_init_162 rfl rfl ?_
  refine aw_new (ci := 3) rfl rfl (zs_here (by (try simp only [ini_In_init_1, ini_Co_init_4, ini_Li_init_9, ini_Tr_init_11, ini_Re_init_17, ini_Wa_init_18, ini_Li_init_28, ini_De_init_27, ini_Li_init_36, ini_De_init_35, ini_Li_init_44, ini_De_init_43, ini_Li_init_52, ini_De_init_51, ini_Su_init_59, ini_Fe_init_61, ini_Rc_init_63, ini_Li_init_65]); (repeat (first | refine Zs.wR ?_ (by omega) | refine Zs.wI ?_ (by omega) | refine Zs.wL ?_ (by omega) | refine Zs.mn ?_ (by omega))); exact Zs.le hz (by omega))) rfl ino_Li tyo_Li fk_Li cl_MC_23 it_Li in_Li d_MC_init_163 (by omega) (by omega) ?_
  refine aw_dup d_MC_init_166 rfl ?_
  refine aw_ie (as := []) (bc' := 1) (bs' := 40) rfl ci_MC_25 d_MC_init_167 (Nat.le_of_ble_eq_true rfl) (d' := d - 1) (by omega) (by omega) (by omega) rfl (am_Li_init_65 (d := d - 1) (by omega) (by (try simp only [ini_In_init_1, ini_Co_init_4, ini_Li_init_9, ini_Tr_init_11, ini_Re_init_17, ini_Wa_init_18, ini_Li_init_28, ini_De_init_27, ini_Li_init_36, ini_De_init_35, ini_Li_init_44, ini_De_init_43, ini_Li_init_52, ini_De_init_51, ini_Su_init_59, ini_Fe_init_61, ini_Rc_init_63, ini_Li_init_65]); (repeat (first | refine Zs.wR ?_ (by omega) | refine Zs.wI ?_ (by omega) | refine Zs.wL ?_ (by omega) | refine Zs.mn ?_ (by omega))); exact Zs.le hz (by omega))) ?_
  refine aw_putR fd_MC_page lk_MC_89 (by omega) rfl d_MC_init_170 (Or.inl rfl) ?_
  exact aw_vret d_MC_init_173 rfl ⟨rfl, rfl, rfl⟩
set_option maxRecDepth 100000 in
theorem am_Mo_init_67 {d : Nat} (hd : 1 ≤ d) {μ : aM} (hz : Zs 68 μ) : AM G true d 25 2002 y_Mo_init [aP 67] 68 μ (Qe none 93 (ini_Mo_init_67 μ)) := by
  refine am_of (n := 0) pf_Mo_init (Nat.le_of_ble_eq_true rfl) (by intro v hv; simp at hv; rcases hv with rfl <;> trivial) rfl ?_
  refine aw_aload_n d_Mo_init_0 rfl rfl ?_
  refine aw_oinit ol_Mo_1 oi_in oi_cd d_Mo_init_1 (by omega) (Nat.le_of_ble_eq_true rfl) ?_
  refine aw_aload_n d_Mo_init_4 rfl rfl ?_
  refine aw_iconst d_Mo_init_5 (in_c rfl) ?_
  refine aw_newa (atype := .int) rfl rfl (zs_here (by (try simp only [ini_In_init_1, ini_Co_init_4, ini_Li_init_9, ini_Tr_init_11, ini_Re_init_17, ini_Wa_init_18, ini_Li_init_28, ini_De_init_27, ini_Li_init_36, ini_De_init_35, ini_Li_init_44, ini_De_init_43, ini_Li_init_52, ini_De_init_51, ini_Su_init_59, ini_Fe_init_61, ini_Rc_init_63, ini_Li_init_65, ini_MC_init_0]); (repeat (first | refine Zs.wR ?_ (by omega) | refine Zs.wI ?_ (by omega) | refine Zs.wL ?_ (by omega) | refine Zs.mn ?_ (by omega))); exact Zs.le hz (by omega))) (Or.inl ⟨rfl, rfl⟩) rfl ac_int rfl (by decide) d_Mo_init_6 (by omega) (by omega) ?_
  refine aw_putR fd_Mo_low lk_Mo_7 (by omega) rfl d_Mo_init_8 (Or.inr ⟨rfl, rfl, lp_Mo_7⟩) ?_
  refine aw_aload_n d_Mo_init_11 rfl rfl ?_
  refine aw_iconst d_Mo_init_12 (in_c rfl) ?_
  refine aw_newa (atype := .int) rfl rfl (zs_here (by (try simp only [ini_In_init_1, ini_Co_init_4, ini_Li_init_9, ini_Tr_init_11, ini_Re_init_17, ini_Wa_init_18, ini_Li_init_28, ini_De_init_27, ini_Li_init_36, ini_De_init_35, ini_Li_init_44, ini_De_init_43, ini_Li_init_52, ini_De_init_51, ini_Su_init_59, ini_Fe_init_61, ini_Rc_init_63, ini_Li_init_65, ini_MC_init_0]); (repeat (first | refine Zs.wR ?_ (by omega) | refine Zs.wI ?_ (by omega) | refine Zs.wL ?_ (by omega) | refine Zs.mn ?_ (by omega))); exact Zs.le hz (by omega))) (Or.inl ⟨rfl, rfl⟩) rfl ac_int rfl (by decide) d_Mo_init_13 (by omega) (by omega) ?_
  refine aw_putR fd_Mo_high lk_Mo_13 (by omega) rfl d_Mo_init_15 (Or.inr ⟨rfl, rfl, lp_Mo_13⟩) ?_
  refine aw_aload_n d_Mo_init_18 rfl rfl ?_
  refine aw_pc (pc' := 19) rfl ?_
  refine aw_bipush (z := 8) d_Mo_init_19 (in_c rfl) rfl ?_
  refine aw_newa (atype := .int) rfl rfl (zs_here (by (try simp only [ini_In_init_1, ini_Co_init_4, ini_Li_init_9, ini_Tr_init_11, ini_Re_init_17, ini_Wa_init_18, ini_Li_init_28, ini_De_init_27, ini_Li_init_36, ini_De_init_35, ini_Li_init_44, ini_De_init_43, ini_Li_init_52, ini_De_init_51, ini_Su_init_59, ini_Fe_init_61, ini_Rc_init_63, ini_Li_init_65, ini_MC_init_0]); (repeat (first | refine Zs.wR ?_ (by omega) | refine Zs.wI ?_ (by omega) | refine Zs.wL ?_ (by omega) | refine Zs.mn ?_ (by omega))); exact Zs.le hz (by omega))) (Or.inl ⟨rfl, rfl⟩) rfl ac_int rfl (by decide) d_Mo_init_21 (by omega) (by omega) ?_
  refine aw_putR fd_Mo_kind lk_Mo_16 (by omega) rfl d_Mo_init_23 (Or.inr ⟨rfl, rfl, lp_Mo_16⟩) ?_
  refine aw_aload_n d_Mo_init_26 rfl rfl ?_
  refine aw_bipush (z := 8) d_Mo_init_27 (in_c rfl) rfl ?_
  refine aw_newa (atype := .int) rfl rfl (zs_here (by (try simp only [ini_In_init_1, ini_Co_init_4, ini_Li_init_9, ini_Tr_init_11, ini_Re_init_17, ini_Wa_init_18, ini_Li_init_28, ini_De_init_27, ini_Li_init_36, ini_De_init_35, ini_Li_init_44, ini_De_init_43, ini_Li_init_52, ini_De_init_51, ini_Su_init_59, ini_Fe_init_61, ini_Rc_init_63, ini_Li_init_65, ini_MC_init_0]); (repeat (first | refine Zs.wR ?_ (by omega) | refine Zs.wI ?_ (by omega) | refine Zs.wL ?_ (by omega) | refine Zs.mn ?_ (by omega))); exact Zs.le hz (by omega))) (Or.inl ⟨rfl, rfl⟩) rfl ac_int rfl (by decide) d_Mo_init_29 (by omega) (by omega) ?_
  refine aw_putR fd_Mo_one lk_Mo_19 (by omega) rfl d_Mo_init_31 (Or.inr ⟨rfl, rfl, lp_Mo_19⟩) ?_
  refine aw_aload_n d_Mo_init_34 rfl rfl ?_
  refine aw_bipush (z := 8) d_Mo_init_35 (in_c rfl) rfl ?_
  refine aw_newa (atype := .int) rfl rfl (zs_here (by (try simp only [ini_In_init_1, ini_Co_init_4, ini_Li_init_9, ini_Tr_init_11, ini_Re_init_17, ini_Wa_init_18, ini_Li_init_28, ini_De_init_27, ini_Li_init_36, ini_De_init_35, ini_Li_init_44, ini_De_init_43, ini_Li_init_52, ini_De_init_51, ini_Su_init_59, ini_Fe_init_61, ini_Rc_init_63, ini_Li_init_65, ini_MC_init_0]); (repeat (first | refine Zs.wR ?_ (by omega) | refine Zs.wI ?_ (by omega) | refine Zs.wL ?_ (by omega) | refine Zs.mn ?_ (by omega))); exact Zs.le hz (by omega))) (Or.inl ⟨rfl, rfl⟩) rfl ac_int rfl (by decide) d_Mo_init_37 (by omega) (by omega) ?_
  refine aw_putR fd_Mo_two lk_Mo_22 (by omega) rfl d_Mo_init_39 (Or.inr ⟨rfl, rfl, lp_Mo_22⟩) ?_
  refine aw_aload_n d_Mo_init_42 rfl rfl ?_
  refine aw_pc (pc' := 43) rfl ?_
  refine aw_bipush (z := 8) d_Mo_init_43 (in_c rfl) rfl ?_
  refine aw_newa (atype := .int) rfl rfl (zs_here (by (try simp only [ini_In_init_1, ini_Co_init_4, ini_Li_init_9, ini_Tr_init_11, ini_Re_init_17, ini_Wa_init_18, ini_Li_init_28, ini_De_init_27, ini_Li_init_36, ini_De_init_35, ini_Li_init_44, ini_De_init_43, ini_Li_init_52, ini_De_init_51, ini_Su_init_59, ini_Fe_init_61, ini_Rc_init_63, ini_Li_init_65, ini_MC_init_0]); (repeat (first | refine Zs.wR ?_ (by omega) | refine Zs.wI ?_ (by omega) | refine Zs.wL ?_ (by omega) | refine Zs.mn ?_ (by omega))); exact Zs.le hz (by omega))) (Or.inl ⟨rfl, rfl⟩) rfl ac_int rfl (by decide) d_Mo_init_45 (by omega) (by omega) ?_
  refine aw_putR fd_Mo_bound lk_Mo_25 (by omega) rfl d_Mo_init_47 (Or.inr ⟨rfl, rfl, lp_Mo_25⟩) ?_
  refine aw_aload_n d_Mo_init_50 rfl rfl ?_
  refine aw_bipush (z := 40) d_Mo_init_51 (in_c rfl) rfl ?_
  refine aw_newa (atype := .int) rfl rfl (zs_here (by (try simp only [ini_In_init_1, ini_Co_init_4, ini_Li_init_9, ini_Tr_init_11, ini_Re_init_17, ini_Wa_init_18, ini_Li_init_28, ini_De_init_27, ini_Li_init_36, ini_De_init_35, ini_Li_init_44, ini_De_init_43, ini_Li_init_52, ini_De_init_51, ini_Su_init_59, ini_Fe_init_61, ini_Rc_init_63, ini_Li_init_65, ini_MC_init_0]); (repeat (first | refine Zs.wR ?_ (by omega) | refine Zs.wI ?_ (by omega) | refine Zs.wL ?_ (by omega) | refine Zs.mn ?_ (by omega))); exact Zs.le hz (by omega))) (Or.inl ⟨rfl, rfl⟩) rfl ac_int rfl (by decide) d_Mo_init_53 (by omega) (by omega) ?_
  refine aw_putR fd_Mo_text lk_Mo_28 (by omega) rfl d_Mo_init_55 (Or.inr ⟨rfl, rfl, lp_Mo_28⟩) ?_
  refine aw_aload_n d_Mo_init_58 rfl rfl ?_
  refine aw_sipush (z := 160) d_Mo_init_59 (in_c rfl) rfl ?_
  refine aw_newa (atype := .int) rfl rfl (zs_here (by (try simp only [ini_In_init_1, ini_Co_init_4, ini_Li_init_9, ini_Tr_init_11, ini_Re_init_17, ini_Wa_init_18, ini_Li_init_28, ini_De_init_27, ini_Li_init_36, ini_De_init_35, ini_Li_init_44, ini_De_init_43, ini_Li_init_52, ini_De_init_51, ini_Su_init_59, ini_Fe_init_61, ini_Rc_init_63, ini_Li_init_65, ini_MC_init_0]); (repeat (first | refine Zs.wR ?_ (by omega) | refine Zs.wI ?_ (by omega) | refine Zs.wL ?_ (by omega) | refine Zs.mn ?_ (by omega))); exact Zs.le hz (by omega))) (Or.inl ⟨rfl, rfl⟩) rfl ac_int rfl (by decide) d_Mo_init_62 (by omega) (by omega) ?_
  refine aw_putR fd_Mo_signs lk_Mo_31 (by omega) rfl d_Mo_init_64 (Or.inr ⟨rfl, rfl, lp_Mo_31⟩) ?_
  refine aw_aload_n d_Mo_init_67 rfl rfl ?_
  refine aw_pc (pc' := 68) rfl ?_
  refine aw_iconst d_Mo_init_68 (in_c rfl) ?_
  refine aw_newa (atype := .int) rfl rfl (zs_here (by (try simp only [ini_In_init_1, ini_Co_init_4, ini_Li_init_9, ini_Tr_init_11, ini_Re_init_17, ini_Wa_init_18, ini_Li_init_28, ini_De_init_27, ini_Li_init_36, ini_De_init_35, ini_Li_init_44, ini_De_init_43, ini_Li_init_52, ini_De_init_51, ini_Su_init_59, ini_Fe_init_61, ini_Rc_init_63, ini_Li_init_65, ini_MC_init_0]); (repeat (first | refine Zs.wR ?_ (by omega) | refine Zs.wI ?_ (by omega) | refine Zs.wL ?_ (by omega) | refine Zs.mn ?_ (by omega))); exact Zs.le hz (by omega))) (Or.inl ⟨rfl, rfl⟩) rfl ac_int rfl (by decide) d_Mo_init_69 (by omega) (by omega) ?_
  refine aw_putR fd_Mo_length lk_Mo_34 (by omega) rfl d_Mo_init_71 (Or.inr ⟨rfl, rfl, lp_Mo_34⟩) ?_
  refine aw_aload_n d_Mo_init_74 rfl rfl ?_
  refine aw_iconst d_Mo_init_75 (in_c rfl) ?_
  refine aw_newa (atype := .boolean) rfl rfl (zs_here (by (try simp only [ini_In_init_1, ini_Co_init_4, ini_Li_init_9, ini_Tr_init_11, ini_Re_init_17, ini_Wa_init_18, ini_Li_init_28, ini_De_init_27, ini_Li_init_36, ini_De_init_35, ini_Li_init_44, ini_De_init_43, ini_Li_init_52, ini_De_init_51, ini_Su_init_59, ini_Fe_init_61, ini_Rc_init_63, ini_Li_init_65, ini_MC_init_0]); (repeat (first | refine Zs.wR ?_ (by omega) | refine Zs.wI ?_ (by omega) | refine Zs.wL ?_ (by omega) | refine Zs.mn ?_ (by omega))); exact Zs.le hz (by omega))) (Or.inr (Or.inr (Or.inr ⟨rfl, rfl⟩))) rfl ac_boolean rfl (by decide) d_Mo_init_76 (by omega) (by omega) ?_
  refine aw_putR fd_Mo_isShort lk_Mo_37 (by omega) rfl d_Mo_init_78 (Or.inr ⟨rfl, rfl, lp_Mo_37⟩) ?_
  refine aw_aload_n d_Mo_init_81 rfl rfl ?_
  refine aw_iconst d_Mo_init_82 (in_c rfl) ?_
  refine aw_newa (atype := .int) rfl rfl (zs_here (by (try simp only [ini_In_init_1, ini_Co_init_4, ini_Li_init_9, ini_Tr_init_11, ini_Re_init_17, ini_Wa_init_18, ini_Li_init_28, ini_De_init_27, ini_Li_init_36, ini_De_init_35, ini_Li_init_44, ini_De_init_43, ini_Li_init_52, ini_De_init_51, ini_Su_init_59, ini_Fe_init_61, ini_Rc_init_63, ini_Li_init_65, ini_MC_init_0]); (repeat (first | refine Zs.wR ?_ (by omega) | refine Zs.wI ?_ (by omega) | refine Zs.wL ?_ (by omega) | refine Zs.mn ?_ (by omega))); exact Zs.le hz (by omega))) (Or.inl ⟨rfl, rfl⟩) rfl ac_int rfl (by decide) d_Mo_init_83 (by omega) (by omega) ?_
  refine aw_putR fd_Mo_many lk_Mo_41 (by omega) rfl d_Mo_init_85 (Or.inr ⟨rfl, rfl, lp_Mo_41⟩) ?_
  refine aw_aload_n d_Mo_init_88 rfl rfl ?_
  refine aw_pc (pc' := 89) rfl ?_
  refine aw_bipush (z := 24) d_Mo_init_89 (in_c rfl) rfl ?_
  refine aw_newa (atype := .int) rfl rfl (zs_here (by (try simp only [ini_In_init_1, ini_Co_init_4, ini_Li_init_9, ini_Tr_init_11, ini_Re_init_17, ini_Wa_init_18, ini_Li_init_28, ini_De_init_27, ini_Li_init_36, ini_De_init_35, ini_Li_init_44, ini_De_init_43, ini_Li_init_52, ini_De_init_51, ini_Su_init_59, ini_Fe_init_61, ini_Rc_init_63, ini_Li_init_65, ini_MC_init_0]); (repeat (first | refine Zs.wR ?_ (by omega) | refine Zs.wI ?_ (by omega) | refine Zs.wL ?_ (by omega) | refine Zs.mn ?_ (by omega))); exact Zs.le hz (by omega))) (Or.inl ⟨rfl, rfl⟩) rfl ac_int rfl (by decide) d_Mo_init_91 (by omega) (by omega) ?_
  refine aw_putR fd_Mo_uses lk_Mo_44 (by omega) rfl d_Mo_init_93 (Or.inr ⟨rfl, rfl, lp_Mo_44⟩) ?_
  refine aw_aload_n d_Mo_init_96 rfl rfl ?_
  refine aw_sipush (z := 256) d_Mo_init_97 (in_c rfl) rfl ?_
  refine aw_newa (atype := .boolean) rfl rfl (zs_here (by (try simp only [ini_In_init_1, ini_Co_init_4, ini_Li_init_9, ini_Tr_init_11, ini_Re_init_17, ini_Wa_init_18, ini_Li_init_28, ini_De_init_27, ini_Li_init_36, ini_De_init_35, ini_Li_init_44, ini_De_init_43, ini_Li_init_52, ini_De_init_51, ini_Su_init_59, ini_Fe_init_61, ini_Rc_init_63, ini_Li_init_65, ini_MC_init_0]); (repeat (first | refine Zs.wR ?_ (by omega) | refine Zs.wI ?_ (by omega) | refine Zs.wL ?_ (by omega) | refine Zs.mn ?_ (by omega))); exact Zs.le hz (by omega))) (Or.inr (Or.inr (Or.inr ⟨rfl, rfl⟩))) rfl ac_boolean rfl (by decide) d_Mo_init_100 (by omega) (by omega) ?_
  refine aw_putR fd_Mo_can lk_Mo_47 (by omega) rfl d_Mo_init_102 (Or.inr ⟨rfl, rfl, lp_Mo_47⟩) ?_
  refine aw_aload_n d_Mo_init_105 rfl rfl ?_
  refine aw_sipush (z := 768) d_Mo_init_106 (in_c rfl) rfl ?_
  refine aw_newa (atype := .int) rfl rfl (zs_here (by (try simp only [ini_In_init_1, ini_Co_init_4, ini_Li_init_9, ini_Tr_init_11, ini_Re_init_17, ini_Wa_init_18, ini_Li_init_28, ini_De_init_27, ini_Li_init_36, ini_De_init_35, ini_Li_init_44, ini_De_init_43, ini_Li_init_52, ini_De_init_51, ini_Su_init_59, ini_Fe_init_61, ini_Rc_init_63, ini_Li_init_65, ini_MC_init_0]); (repeat (first | refine Zs.wR ?_ (by omega) | refine Zs.wI ?_ (by omega) | refine Zs.wL ?_ (by omega) | refine Zs.mn ?_ (by omega))); exact Zs.le hz (by omega))) (Or.inl ⟨rfl, rfl⟩) rfl ac_int rfl (by decide) d_Mo_init_109 (by omega) (by omega) ?_
  refine aw_putR fd_Mo_vectors lk_Mo_50 (by omega) rfl d_Mo_init_111 (Or.inr ⟨rfl, rfl, lp_Mo_50⟩) ?_
  refine aw_aload_n d_Mo_init_114 rfl rfl ?_
  refine aw_pc (pc' := 115) rfl ?_
  refine aw_sipush (z := 256) d_Mo_init_115 (in_c rfl) rfl ?_
  refine aw_newa (atype := .boolean) rfl rfl (zs_here (by (try simp only [ini_In_init_1, ini_Co_init_4, ini_Li_init_9, ini_Tr_init_11, ini_Re_init_17, ini_Wa_init_18, ini_Li_init_28, ini_De_init_27, ini_Li_init_36, ini_De_init_35, ini_Li_init_44, ini_De_init_43, ini_Li_init_52, ini_De_init_51, ini_Su_init_59, ini_Fe_init_61, ini_Rc_init_63, ini_Li_init_65, ini_MC_init_0]); (repeat (first | refine Zs.wR ?_ (by omega) | refine Zs.wI ?_ (by omega) | refine Zs.wL ?_ (by omega) | refine Zs.mn ?_ (by omega))); exact Zs.le hz (by omega))) (Or.inr (Or.inr (Or.inr ⟨rfl, rfl⟩))) rfl ac_boolean rfl (by decide) d_Mo_init_118 (by omega) (by omega) ?_
  refine aw_putR fd_Mo_comes lk_Mo_53 (by omega) rfl d_Mo_init_120 (Or.inr ⟨rfl, rfl, lp_Mo_53⟩) ?_
  refine aw_aload_n d_Mo_init_123 rfl rfl ?_
  refine aw_sipush (z := 256) d_Mo_init_124 (in_c rfl) rfl ?_
  refine aw_newa (atype := .int) rfl rfl (zs_here (by (try simp only [ini_In_init_1, ini_Co_init_4, ini_Li_init_9, ini_Tr_init_11, ini_Re_init_17, ini_Wa_init_18, ini_Li_init_28, ini_De_init_27, ini_Li_init_36, ini_De_init_35, ini_Li_init_44, ini_De_init_43, ini_Li_init_52, ini_De_init_51, ini_Su_init_59, ini_Fe_init_61, ini_Rc_init_63, ini_Li_init_65, ini_MC_init_0]); (repeat (first | refine Zs.wR ?_ (by omega) | refine Zs.wI ?_ (by omega) | refine Zs.wL ?_ (by omega) | refine Zs.mn ?_ (by omega))); exact Zs.le hz (by omega))) (Or.inl ⟨rfl, rfl⟩) rfl ac_int rfl (by decide) d_Mo_init_127 (by omega) (by omega) ?_
  refine aw_putR fd_Mo_sees lk_Mo_56 (by omega) rfl d_Mo_init_129 (Or.inr ⟨rfl, rfl, lp_Mo_56⟩) ?_
  refine aw_aload_n d_Mo_init_132 rfl rfl ?_
  refine aw_bipush (z := 8) d_Mo_init_133 (in_c rfl) rfl ?_
  refine aw_newa (atype := .boolean) rfl rfl (zs_here (by (try simp only [ini_In_init_1, ini_Co_init_4, ini_Li_init_9, ini_Tr_init_11, ini_Re_init_17, ini_Wa_init_18, ini_Li_init_28, ini_De_init_27, ini_Li_init_36, ini_De_init_35, ini_Li_init_44, ini_De_init_43, ini_Li_init_52, ini_De_init_51, ini_Su_init_59, ini_Fe_init_61, ini_Rc_init_63, ini_Li_init_65, ini_MC_init_0]); (repeat (first | refine Zs.wR ?_ (by omega) | refine Zs.wI ?_ (by omega) | refine Zs.wL ?_ (by omega) | refine Zs.mn ?_ (by omega))); exact Zs.le hz (by omega))) (Or.inr (Or.inr (Or.inr ⟨rfl, rfl⟩))) rfl ac_boolean rfl (by decide) d_Mo_init_135 (by omega) (by omega) ?_
  refine aw_putR fd_Mo_or lk_Mo_59 (by omega) rfl d_Mo_init_137 (Or.inr ⟨rfl, rfl, lp_Mo_59⟩) ?_
  refine aw_aload_n d_Mo_init_140 rfl rfl ?_
  refine aw_pc (pc' := 141) rfl ?_
  refine aw_bipush (z := 8) d_Mo_init_141 (in_c rfl) rfl ?_
  refine aw_newa (atype := .boolean) rfl rfl (zs_here (by (try simp only [ini_In_init_1, ini_Co_init_4, ini_Li_init_9, ini_Tr_init_11, ini_Re_init_17, ini_Wa_init_18, ini_Li_init_28, ini_De_init_27, ini_Li_init_36, ini_De_init_35, ini_Li_init_44, ini_De_init_43, ini_Li_init_52, ini_De_init_51, ini_Su_init_59, ini_Fe_init_61, ini_Rc_init_63, ini_Li_init_65, ini_MC_init_0]); (repeat (first | refine Zs.wR ?_ (by omega) | refine Zs.wI ?_ (by omega) | refine Zs.wL ?_ (by omega) | refine Zs.mn ?_ (by omega))); exact Zs.le hz (by omega))) (Or.inr (Or.inr (Or.inr ⟨rfl, rfl⟩))) rfl ac_boolean rfl (by decide) d_Mo_init_143 (by omega) (by omega) ?_
  refine aw_putR fd_Mo_xor lk_Mo_62 (by omega) rfl d_Mo_init_145 (Or.inr ⟨rfl, rfl, lp_Mo_62⟩) ?_
  refine aw_aload_n d_Mo_init_148 rfl rfl ?_
  refine aw_bipush (z := 8) d_Mo_init_149 (in_c rfl) rfl ?_
  refine aw_newa (atype := .boolean) rfl rfl (zs_here (by (try simp only [ini_In_init_1, ini_Co_init_4, ini_Li_init_9, ini_Tr_init_11, ini_Re_init_17, ini_Wa_init_18, ini_Li_init_28, ini_De_init_27, ini_Li_init_36, ini_De_init_35, ini_Li_init_44, ini_De_init_43, ini_Li_init_52, ini_De_init_51, ini_Su_init_59, ini_Fe_init_61, ini_Rc_init_63, ini_Li_init_65, ini_MC_init_0]); (repeat (first | refine Zs.wR ?_ (by omega) | refine Zs.wI ?_ (by omega) | refine Zs.wL ?_ (by omega) | refine Zs.mn ?_ (by omega))); exact Zs.le hz (by omega))) (Or.inr (Or.inr (Or.inr ⟨rfl, rfl⟩))) rfl ac_boolean rfl (by decide) d_Mo_init_151 (by omega) (by omega) ?_
  refine aw_putR fd_Mo_and lk_Mo_65 (by omega) rfl d_Mo_init_153 (Or.inr ⟨rfl, rfl, lp_Mo_65⟩) ?_
  refine aw_aload_n d_Mo_init_156 rfl rfl ?_
  refine aw_bipush (z := 8) d_Mo_init_157 (in_c rfl) rfl ?_
  refine aw_newa (atype := .boolean) rfl rfl (zs_here (by (try simp only [ini_In_init_1, ini_Co_init_4, ini_Li_init_9, ini_Tr_init_11, ini_Re_init_17, ini_Wa_init_18, ini_Li_init_28, ini_De_init_27, ini_Li_init_36, ini_De_init_35, ini_Li_init_44, ini_De_init_43, ini_Li_init_52, ini_De_init_51, ini_Su_init_59, ini_Fe_init_61, ini_Rc_init_63, ini_Li_init_65, ini_MC_init_0]); (repeat (first | refine Zs.wR ?_ (by omega) | refine Zs.wI ?_ (by omega) | refine Zs.wL ?_ (by omega) | refine Zs.mn ?_ (by omega))); exact Zs.le hz (by omega))) (Or.inr (Or.inr (Or.inr ⟨rfl, rfl⟩))) rfl ac_boolean rfl (by decide) d_Mo_init_159 (by omega) (by omega) ?_
  refine aw_putR fd_Mo_not lk_Mo_68 (by omega) rfl d_Mo_init_161 (Or.inr ⟨rfl, rfl, lp_Mo_68⟩) ?_
  refine aw_aload_n d_Mo_init_164 rfl rfl ?_
  refine aw_pc (pc' := 165) rfl ?_
  refine aw_bipush (z := 8) d_Mo_init_165 (in_c rfl) rfl ?_
  refine aw_newa (atype := .boolean) rfl rfl (zs_here (by (try simp only [ini_In_init_1, ini_Co_init_4, ini_Li_init_9, ini_Tr_init_11, ini_Re_init_17, ini_Wa_init_18, ini_Li_init_28, ini_De_init_27, ini_Li_init_36, ini_De_init_35, ini_Li_init_44, ini_De_init_43, ini_Li_init_52, ini_De_init_51, ini_Su_init_59, ini_Fe_init_61, ini_Rc_init_63, ini_Li_init_65, ini_MC_init_0]); (repeat (first | refine Zs.wR ?_ (by omega) | refine Zs.wI ?_ (by omega) | refine Zs.wL ?_ (by omega) | refine Zs.mn ?_ (by omega))); exact Zs.le hz (by omega))) (Or.inr (Or.inr (Or.inr ⟨rfl, rfl⟩))) rfl ac_boolean rfl (by decide) d_Mo_init_167 (by omega) (by omega) ?_
  refine aw_putR fd_Mo_live lk_Mo_71 (by omega) rfl d_Mo_init_169 (Or.inr ⟨rfl, rfl, lp_Mo_71⟩) ?_
  refine aw_aload_n d_Mo_init_172 rfl rfl ?_
  refine aw_bipush (z := 12) d_Mo_init_173 (in_c rfl) rfl ?_
  refine aw_newa (atype := .int) rfl rfl (zs_here (by (try simp only [ini_In_init_1, ini_Co_init_4, ini_Li_init_9, ini_Tr_init_11, ini_Re_init_17, ini_Wa_init_18, ini_Li_init_28, ini_De_init_27, ini_Li_init_36, ini_De_init_35, ini_Li_init_44, ini_De_init_43, ini_Li_init_52, ini_De_init_51, ini_Su_init_59, ini_Fe_init_61, ini_Rc_init_63, ini_Li_init_65, ini_MC_init_0]); (repeat (first | refine Zs.wR ?_ (by omega) | refine Zs.wI ?_ (by omega) | refine Zs.wL ?_ (by omega) | refine Zs.mn ?_ (by omega))); exact Zs.le hz (by omega))) (Or.inl ⟨rfl, rfl⟩) rfl ac_int rfl (by decide) d_Mo_init_175 (by omega) (by omega) ?_
  refine aw_putR fd_Mo_suite lk_Mo_74 (by omega) rfl d_Mo_init_177 (Or.inr ⟨rfl, rfl, lp_Mo_74⟩) ?_
  refine aw_aload_n d_Mo_init_180 rfl rfl ?_
  refine aw_bipush (z := 64) d_Mo_init_181 (in_c rfl) rfl ?_
  refine aw_newa (atype := .int) rfl rfl (zs_here (by (try simp only [ini_In_init_1, ini_Co_init_4, ini_Li_init_9, ini_Tr_init_11, ini_Re_init_17, ini_Wa_init_18, ini_Li_init_28, ini_De_init_27, ini_Li_init_36, ini_De_init_35, ini_Li_init_44, ini_De_init_43, ini_Li_init_52, ini_De_init_51, ini_Su_init_59, ini_Fe_init_61, ini_Rc_init_63, ini_Li_init_65, ini_MC_init_0]); (repeat (first | refine Zs.wR ?_ (by omega) | refine Zs.wI ?_ (by omega) | refine Zs.wL ?_ (by omega) | refine Zs.mn ?_ (by omega))); exact Zs.le hz (by omega))) (Or.inl ⟨rfl, rfl⟩) rfl ac_int rfl (by decide) d_Mo_init_183 (by omega) (by omega) ?_
  refine aw_putR fd_Mo_partners lk_Mo_77 (by omega) rfl d_Mo_init_185 (Or.inr ⟨rfl, rfl, lp_Mo_77⟩) ?_
  refine aw_aload_n d_Mo_init_188 rfl rfl ?_
  refine aw_pc (pc' := 189) rfl ?_
  refine aw_bipush (z := 36) d_Mo_init_189 (in_c rfl) rfl ?_
  refine aw_newa (atype := .int) rfl rfl (zs_here (by (try simp only [ini_In_init_1, ini_Co_init_4, ini_Li_init_9, ini_Tr_init_11, ini_Re_init_17, ini_Wa_init_18, ini_Li_init_28, ini_De_init_27, ini_Li_init_36, ini_De_init_35, ini_Li_init_44, ini_De_init_43, ini_Li_init_52, ini_De_init_51, ini_Su_init_59, ini_Fe_init_61, ini_Rc_init_63, ini_Li_init_65, ini_MC_init_0]); (repeat (first | refine Zs.wR ?_ (by omega) | refine Zs.wI ?_ (by omega) | refine Zs.wL ?_ (by omega) | refine Zs.mn ?_ (by omega))); exact Zs.le hz (by omega))) (Or.inl ⟨rfl, rfl⟩) rfl ac_int rfl (by decide) d_Mo_init_191 (by omega) (by omega) ?_
  refine aw_putR fd_Mo_records lk_Mo_80 (by omega) rfl d_Mo_init_193 (Or.inr ⟨rfl, rfl, lp_Mo_80⟩) ?_
  refine aw_aload_n d_Mo_init_196 rfl rfl ?_
  refine aw_bipush (z := 40) d_Mo_init_197 (in_c rfl) rfl ?_
  refine aw_newa (atype := .int) rfl rfl (zs_here (by (try simp only [ini_In_init_1, ini_Co_init_4, ini_Li_init_9, ini_Tr_init_11, ini_Re_init_17, ini_Wa_init_18, ini_Li_init_28, ini_De_init_27, ini_Li_init_36, ini_De_init_35, ini_Li_init_44, ini_De_init_43, ini_Li_init_52, ini_De_init_51, ini_Su_init_59, ini_Fe_init_61, ini_Rc_init_63, ini_Li_init_65, ini_MC_init_0]); (repeat (first | refine Zs.wR ?_ (by omega) | refine Zs.wI ?_ (by omega) | refine Zs.wL ?_ (by omega) | refine Zs.mn ?_ (by omega))); exact Zs.le hz (by omega))) (Or.inl ⟨rfl, rfl⟩) rfl ac_int rfl (by decide) d_Mo_init_199 (by omega) (by omega) ?_
  refine aw_putR fd_Mo_page lk_Mo_83 (by omega) rfl d_Mo_init_201 (Or.inr ⟨rfl, rfl, lp_Mo_83⟩) ?_
  exact aw_vret d_Mo_init_204 rfl ⟨rfl, rfl, rfl⟩
def rfL : List (List (Option Nat)) := [[some 1, some 4, some 9, some 11, some 17, some 18, some 26, some 59, some 61, some 63, none, some 65], [some 2, some 3], [], [], [some 5, some 6, some 7, some 8], [], [], [], [], [some 10], [], [some 12, some 13, some 14, some 15, some 16], [], [], [], [], [], [some 9, some 11], [some 1, some 4, some 19], [some 20, some 21, some 22, some 23, some 24, some 25], [], [], [], [], [], [], [some 27, some 35, some 43, some 51], [some 4, some 28, some 30, some 31, some 32, some 33, some 34], [some 29], [], [], [], [], [], [], [some 4, some 36, some 38, some 39, some 40, some 41, some 42], [some 37], [], [], [], [], [], [], [some 4, some 44, some 46, some 47, some 48, some 49, some 50], [some 45], [], [], [], [], [], [], [some 4, some 52, some 54, some 55, some 56, some 57, some 58], [some 53], [], [], [], [], [], [], [some 60], [], [some 62], [], [some 64], [], [some 66], [], [none, none, some 68, some 69, none, some 70, some 71, some 72, some 73, none, some 74, none, some 75, some 76, some 77, some 78, some 79, some 80, some 81, some 82, some 83, some 84, some 85, some 86, some 87, some 88, none, none, none, some 89, some 90, none, some 91, none, some 92], [], [], [], [], [], [], [], [], [], [], [], [], [], [], [], [], [], [], [], [], [], [], [], [], [], []]
def R0 (pg k j : Nat) : Option Nat := if k = 0 ∧ j = 11 then some pg else (rfL.getD k []).getD j none
end
