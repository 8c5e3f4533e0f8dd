/-! a new decision: the reference -/
section
def FrVi (i : Nat) (μ m : aM) : Prop := FrV μ m ∧ (∀ b, (b < 64 * i ∨ 64 * i + 64 ≤ b) → mI m 80 b = mI μ 80 b) ∧ (∀ b, (b < 192 * i ∨ 192 * i + 192 ≤ b) → mI m 81 b = mI μ 81 b)
theorem FrVi.refl (i : Nat) (μ : aM) : FrVi i μ μ := ⟨FrV.refl μ, fun _ _ => rfl, fun _ _ => rfl⟩
theorem FrVi.trans {i : Nat} {μ m l : aM} (h : FrVi i μ m) (g : FrVi i m l) : FrVi i μ l := ⟨h.1.trans g.1, fun b z => (g.2.1 b z).trans (h.2.1 b z), fun b z => (g.2.2 b z).trans (h.2.2 b z)⟩
theorem FrVi_fv {i w : Nat} (hw : w < 64) (x y z : Int) (m : aM) : FrVi i m (fvS (64 * i + w) x y z m) := by
  refine ⟨FrV_fv _ _ _ _ _, fun b hb => ?_, fun b hb => ?_⟩
  · unfold fvS; split
    · rfl
    · rw [mI_wI, if_neg (by omega), mI_wI, if_neg (by omega), mI_wI, if_neg (by omega), mI_wI, if_neg (by omega)]
  · unfold fvS; split
    · rfl
    · rw [mI_wI, if_neg (by omega), mI_wI, if_neg (by omega), mI_wI, if_neg (by omega), mI_wI, if_neg (by omega)]
theorem FrVi_it {i : Nat} {μ m : aM} {f : Int → aM → aM} {lo : Int} (hm : FrVi i μ m) (hf : ∀ v m, FrVi i m (f v m)) (n : Nat) : FrVi i μ (itr f lo n m) := itr_inv (P := FrVi i μ) hm n (fun v m _ _ hp => hp.trans (hf v m))
theorem fvX_fr {wd : Int → Int → Int → Nat} {i : Nat} (hwd : ∀ x y z, wd x y z < 64) (lx : Int) (nx : Nat) (ly : Int) (ny : Nat) (lz : Int) (nz : Nat) (m : aM) : FrVi i m (fvX wd i lx nx ly ny lz nz m) :=
  FrVi_it (FrVi.refl i m) (fun x m => FrVi_it (FrVi.refl i m) (fun y m => FrVi_it (FrVi.refl i m) (fun z m => FrVi_fv (hwd x y z) x y z m) nz) ny) nx
def n7M (m : aM) (i n s : Nat) (sh : Bool) : aM := ukM i s (wI (cpM (wI (wI (wI (wI (wI (wI m 67 0 0) 67 9 0) 67 27 (s : Int)) 67 11 ((i : Int) + 1)) 76 i (n : Int)) 77 i (bI sh)) i n) 78 i 0) 8
theorem n7_at (m : aM) (i n s : Nat) (sh : Bool) (hn : n ≤ 40) (h6 : cn s.testBit 8 ≤ 6) :
    (∀ a b, a ≠ 75 → ¬ ((a = 76 ∨ a = 77 ∨ a = 78) ∧ b = i) → a ≠ 79 → ¬ (a = 67 ∧ (b = 0 ∨ b = 9 ∨ b = 11 ∨ b = 27)) → mI (n7M m i n s sh) a b = mI m a b) ∧ mI (n7M m i n s sh) 67 0 = 0 ∧ mI (n7M m i n s sh) 67 9 = 0 ∧ mI (n7M m i n s sh) 67 11 = (i : Int) + 1 ∧ mI (n7M m i n s sh) 76 i = (n : Int) ∧ mI (n7M m i n s sh) 78 i = ((cn s.testBit 8 : Nat) : Int) ∧ (∀ u, u < n → mI (n7M m i n s sh) 75 (40 * i + u) = mI m 74 u) ∧ (∀ b, (b < 40 * i ∨ 40 * i + 40 ≤ b) → mI (n7M m i n s sh) 75 b = mI m 75 b) ∧ (∀ l, l < 8 → s.testBit l = true → mI (n7M m i n s sh) 79 (6 * i + cn s.testBit l) = (l : Int)) ∧ (∀ b, (b < 6 * i ∨ 6 * i + cn s.testBit 8 ≤ b) → mI (n7M m i n s sh) 79 b = mI m 79 b) ∧ (∀ a b, mL (n7M m i n s sh) a b = mL m a b) ∧ (∀ a b, mR (n7M m i n s sh) a b = mR m a b) := by
  unfold n7M
  obtain ⟨u1, u2, u3⟩ := ukM_fr i s (wI (cpM (wI (wI (wI (wI (wI (wI m 67 0 0) 67 9 0) 67 27 (s : Int)) 67 11 ((i : Int) + 1)) 76 i (n : Int)) 77 i (bI sh)) i n) 78 i 0) 8
  obtain ⟨w1, w2⟩ := ukM_at (i := i) (s := s) (m := wI (cpM (wI (wI (wI (wI (wI (wI m 67 0 0) 67 9 0) 67 27 (s : Int)) 67 11 ((i : Int) + 1)) 76 i (n : Int)) 77 i (bI sh)) i n) 78 i 0) 8
  obtain ⟨c1, c2, c3⟩ := cpM_fr (wI (wI (wI (wI (wI (wI m 67 0 0) 67 9 0) 67 27 (s : Int)) 67 11 ((i : Int) + 1)) 76 i (n : Int)) 77 i (bI sh)) i n
  obtain ⟨p1, p2⟩ := cpM_at (wI (wI (wI (wI (wI (wI m 67 0 0) 67 9 0) 67 27 (s : Int)) 67 11 ((i : Int) + 1)) 76 i (n : Int)) 77 i (bI sh)) i n
  have up : ∀ a b, a ≠ 79 → ¬ (a = 78 ∧ b = i) → a ≠ 75 → mI (ukM i s (wI (cpM (wI (wI (wI (wI (wI (wI m 67 0 0) 67 9 0) 67 27 (s : Int)) 67 11 ((i : Int) + 1)) 76 i (n : Int)) 77 i (bI sh)) i n) 78 i 0) 8) a b = mI (wI (wI (wI (wI (wI (wI m 67 0 0) 67 9 0) 67 27 (s : Int)) 67 11 ((i : Int) + 1)) 76 i (n : Int)) 77 i (bI sh)) a b := fun a b h1 h2 h3 => by
    rw [u1 a b h1 h2, mI_wI, if_neg h2, c1 a b h3]
  refine ⟨fun a b h1 h2 h3 h4 => ?_, ?_, ?_, ?_, ?_, ?_, fun u hu => ?_, fun b hb => ?_, w1, fun b hb => ?_, fun a b => ?_, fun a b => ?_⟩
  · rw [up a b h3 (by omega) h1]
    simp only [mI_wI]
    rw [if_neg (by omega), if_neg (by omega), if_neg (by omega), if_neg (by omega), if_neg (by omega), if_neg (by omega)]
  · rw [up _ _ (by omega) (by omega) (by omega)]; simp [mI_wI]
  · rw [up _ _ (by omega) (by omega) (by omega)]; simp [mI_wI]
  · rw [up _ _ (by omega) (by omega) (by omega)]; simp [mI_wI]
  · rw [up _ _ (by omega) (by omega) (by omega)]; simp [mI_wI]
  · exact ukM_c (by rw [mI_wI, if_pos ⟨rfl, rfl⟩]) 8
  · rw [u1 _ _ (by omega) (by omega), mI_wI, if_neg (by omega), p1 u hu]; simp [mI_wI]
  · rw [u1 _ _ (by omega) (by omega), mI_wI, if_neg (by omega), p2 b (by omega)]; simp [mI_wI]
  · rw [w2 b hb, mI_wI, if_neg (by omega), c1 _ _ (by omega)]; simp [mI_wI]
  · rw [u2]; exact c2 a b
  · rw [u3]; exact c3 a b
theorem re_new {m M μ2 : aM} {i n s : Nat} {sh : Bool} {gv gs : Nat → Int} {lx ly lz : Int} {nx ny nz : Nat} (hi4 : i < 4) (hn : n ≤ 40) (h6 : cn s.testBit 8 ≤ 6) (hG : GK (n7M m i n s sh) μ2 i (2 ^ (cn s.testBit 8)) gv gs) (hM : M = fvX (oWd μ2 i (cn s.testBit 8)) i lx nx ly ny lz nz μ2) :
    (∀ a b, (a < 75 ∨ 88 < a) → ¬ (a = 67 ∧ (b = 0 ∨ b = 9 ∨ b = 11 ∨ b = 26 ∨ b = 27)) → mI M a b = mI m a b) ∧ mI M 67 0 = 0 ∧ mI M 67 9 = 0 ∧ mI M 67 11 = (i : Int) + 1 ∧ mI M 76 i = (n : Int) ∧ mI M 78 i = ((cn s.testBit 8 : Nat) : Int) ∧ (∀ u, u < n → mI M 75 (40 * i + u) = mI m 74 u) ∧ (∀ l, l < 8 → s.testBit l = true → mI M 79 (6 * i + cn s.testBit l) = (l : Int)) ∧ (∀ u, u < 2 ^ (cn s.testBit 8) → mI M 82 (64 * i + u) = gv u ∧ mI M 83 (64 * i + u) = gs u) ∧
    (∀ a b, ((a = 75 ∧ (b < 40 * i ∨ 40 * i + 40 ≤ b)) ∨ ((a = 76 ∨ a = 78) ∧ b ≠ i) ∨ (a = 79 ∧ (b < 6 * i ∨ 6 * i + cn s.testBit 8 ≤ b)) ∨ ((a = 80 ∨ a = 82 ∨ a = 83) ∧ (b < 64 * i ∨ 64 * i + 64 ≤ b)) ∨ (a = 81 ∧ (b < 192 * i ∨ 192 * i + 192 ≤ b)) ∨ ((a = 82 ∨ a = 83) ∧ 64 * i + 2 ^ (cn s.testBit 8) ≤ b)) → mI M a b = mI m a b) ∧ (∀ a b, mL M a b = mL m a b) ∧ (∀ a b, mR M a b = mR m a b) ∧
    (∀ j, oU μ2 i j = oU M i j) ∧ (∀ a b, (70 ≤ a ∧ a ≤ 73) → mI μ2 a b = mI m a b) ∧ (∀ b, mI μ2 80 b = mI m 80 b) := by
  have h64 : 2 ^ (cn s.testBit 8) ≤ 64 := Nat.pow_le_pow_right (n := 2) (by omega) h6
  obtain ⟨a1, a2, a3, a4, a5, a6, a7, a8, a9, a10, a11, a12⟩ := n7_at m i n s sh hn h6
  obtain ⟨g1, g2, g3, g4, g5, g6⟩ := hG
  obtain ⟨⟨v1, v2, v3⟩, v4, v5⟩ := fvX_fr (wd := oWd μ2 i (cn s.testBit 8)) (i := i) (fun x y z => Nat.lt_of_lt_of_le (wb_lt _ _) h64) lx nx ly ny lz nz μ2
  rw [← hM] at v1 v2 v3 v4 v5
  have e : ∀ a b, (a < 80 ∨ 88 < a) → ¬ (a = 67 ∧ (b = 26 ∨ b = 27)) → mI M a b = mI (n7M m i n s sh) a b := fun a b h1 h2 => by
    rw [v1 a b (by omega) (by omega), g1 a b (by omega) h2]
  refine ⟨fun a b h1 h2 => ?_, ?_, ?_, ?_, ?_, ?_, fun u hu => ?_, fun l h1 h2 => ?_, fun u hu => ?_, fun a b h => ?_, fun a b => ?_, fun a b => ?_, fun j => ?_, fun a b h => ?_, fun b => ?_⟩
  · rw [e a b (by omega) (by omega), a1 a b (by omega) (by omega) (by omega) (by omega)]
  · rw [e _ _ (by omega) (by omega), a2]
  · rw [e _ _ (by omega) (by omega), a3]
  · rw [e _ _ (by omega) (by omega), a4]
  · rw [e _ _ (by omega) (by omega), a5]
  · rw [e _ _ (by omega) (by omega), a6]
  · rw [e _ _ (by omega) (by omega), a7 u hu]
  · rw [e _ _ (by omega) (by omega), a9 l h1 h2]
  · rw [v1 _ _ (by omega) (by omega), v1 _ _ (by omega) (by omega)]; exact g3 u hu
  · rcases h with ⟨rfl, h⟩ | ⟨h, h'⟩ | ⟨rfl, h⟩ | ⟨h, h'⟩ | ⟨rfl, h⟩ | ⟨h, h'⟩
    · rw [e _ _ (by omega) (by omega)]; exact a8 b h
    · rw [e _ _ (by omega) (by omega)]; exact a1 _ _ (by omega) (by omega) (by omega) (by omega)
    · rw [e _ _ (by omega) (by omega)]; exact a10 b h
    · rcases h with rfl | rfl | rfl
      · rw [v4 b h', g1 _ _ (by omega) (by omega)]; exact a1 _ _ (by omega) (by omega) (by omega) (by omega)
      · rw [v1 _ _ (by omega) (by omega), (g2 b h').1]; exact a1 _ _ (by omega) (by omega) (by omega) (by omega)
      · rw [v1 _ _ (by omega) (by omega), (g2 b h').2]; exact a1 _ _ (by omega) (by omega) (by omega) (by omega)
    · rw [v5 b h, g1 _ _ (by omega) (by omega)]; exact a1 _ _ (by omega) (by omega) (by omega) (by omega)
    · by_cases hb : b < 64 * i + 64
      · obtain ⟨c, rfl⟩ : ∃ c, b = 64 * i + c := ⟨b - 64 * i, by have := Nat.two_pow_pos (cn s.testBit 8); omega⟩
        have g := g6 c (by omega) (by omega)
        rcases h with rfl | rfl
        · rw [v1 _ _ (by omega) (by omega), g.1]; exact a1 _ _ (by omega) (by omega) (by omega) (by omega)
        · rw [v1 _ _ (by omega) (by omega), g.2]; exact a1 _ _ (by omega) (by omega) (by omega) (by omega)
      · have g := g2 b (by omega)
        rcases h with rfl | rfl
        · rw [v1 _ _ (by omega) (by omega), g.1]; exact a1 _ _ (by omega) (by omega) (by omega) (by omega)
        · rw [v1 _ _ (by omega) (by omega), g.2]; exact a1 _ _ (by omega) (by omega) (by omega) (by omega)
  · rw [v2, g4, a11]
  · rw [v3, g5, a12]
  · unfold oU; rw [v1 _ _ (by omega) (by omega)]
  · rw [g1 a b (by omega) (by omega)]; exact a1 _ _ (by omega) (by omega) (by omega) (by omega)
  · rw [g1 _ _ (by omega) (by omega)]; exact a1 _ _ (by omega) (by omega) (by omega) (by omega)
end
