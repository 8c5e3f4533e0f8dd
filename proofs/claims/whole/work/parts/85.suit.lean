/-! pure lemmas: suite -/
section
theorem mL_wL (μ : aM) (k i : Nat) (z : BitVec 64) (a j : Nat) : mL (wL μ k i z) a j = if a = k ∧ j = i then z else mL μ a j := rfl
theorem mI_wL (μ : aM) (k i : Nat) (z : BitVec 64) (a j : Nat) : mI (wL μ k i z) a j = mI μ a j := rfl
theorem mL_wI (μ : aM) (k i : Nat) (z : Int) (a j : Nat) : mL (wI μ k i z) a j = mL μ a j := rfl
/-- the class's memory, where at most the suite is another -/
def FrS (μ m : aM) : Prop := (∀ a b, a ≠ 60 → ¬ (a = 59 ∧ b = 1) → mI m a b = mI μ a b) ∧ (∀ a b, ¬ (a = 59 ∧ b = 2) → mL m a b = mL μ a b) ∧ (∀ a b, mR m a b = mR μ a b)
theorem FrS.refl (μ : aM) : FrS μ μ := ⟨fun _ _ _ _ => rfl, fun _ _ _ => rfl, fun _ _ => rfl⟩
theorem FrS.trans {μ m l : aM} (h : FrS μ m) (g : FrS m l) : FrS μ l := ⟨fun a b h1 h2 => (g.1 a b h1 h2).trans (h.1 a b h1 h2), fun a b h1 => (g.2.1 a b h1).trans (h.2.1 a b h1), fun a b => (g.2.2 a b).trans (h.2.2 a b)⟩
theorem FrS_A (m : aM) (c w : Nat) : FrS m (suA m c w) := by
  unfold suA
  split
  · exact FrS.refl m
  · refine ⟨fun a b h1 h2 => ?_, fun a b h1 => ?_, fun a b => rfl⟩
    · rw [mI_wL, mI_wI, if_neg h2, mI_wI, if_neg (fun z => h1 z.1)]
    · rw [mL_wL, if_neg h1]; rfl
/-- the reference's memory, where at most the suite is another -/
def FrM (μ m : aM) : Prop := (∀ a b, a ≠ 89 → ¬ (a = 67 ∧ b = 28) → mI m a b = mI μ a b) ∧ (∀ a b, mL m a b = mL μ a b) ∧ (∀ a b, mR m a b = mR μ a b)
theorem FrM.refl (μ : aM) : FrM μ μ := ⟨fun _ _ _ _ => rfl, fun _ _ => rfl, fun _ _ => rfl⟩
theorem FrM.trans {μ m l : aM} (h : FrM μ m) (g : FrM m l) : FrM μ l := ⟨fun a b h1 h2 => (g.1 a b h1 h2).trans (h.1 a b h1 h2), fun a b => (g.2.1 a b).trans (h.2.1 a b), fun a b => (g.2.2 a b).trans (h.2.2 a b)⟩
theorem FrM_A (m : aM) (c w : Nat) : FrM m (moA m c w) := by
  unfold moA
  split
  · exact FrM.refl m
  · refine ⟨fun a b h1 h2 => ?_, fun a b => rfl, fun a b => rfl⟩
    rw [mI_wI, if_neg h2, mI_wI, if_neg (fun z => h1 z.1)]
def cS (m : aM) : Nat := (mI m 59 1).toNat
def cM (m : aM) : Nat := (mI m 67 28).toNat
def su2 (m : aM) (p : Nat) : aM := suA (suA m (cS m) (p / 100)) (cS (suA m (cS m) (p / 100))) (p % 100)
def mo2 (m : aM) (p : Nat) : aM := moA (moA m (cM m) (p / 100)) (cM (moA m (cM m) (p / 100))) (p % 100)
/-- what pairFor answers -/
def suP (μ : aM) (i k c : Nat) (q : Int) : Int := pairS (fun v w => (mL μ (27 + 8 * i) 9).getLsbD v && ((mL μ (27 + 8 * i) 9) &&& ptF μ (27 + 8 * i) k c q v).getLsbD w) (2 ^ k)
/-- the class's memory after j conditions of fill -/
def suM (μ : aM) (i k : Nat) (q : Int) : Nat → aM
  | 0 => wL (wI μ 59 1 0) 59 2 0
  | j + 1 => if suP μ i k j q = -1 ∨ shW μ (27 + 8 * i) k j q (mL (suM μ i k q j) 59 2) = true then suM μ i k q j else su2 (suM μ i k q j) (suP μ i k j q).toNat
/-- the reference's memory after j conditions of suite -/
def moM (μ : aM) (i k : Nat) (q : Int) : Nat → aM
  | 0 => wI (wI μ 67 0 0) 67 28 0
  | j + 1 => if ¬ 0 ≤ pairS (oW μ i k j q) (2 ^ k) ∨ oSh (moM μ i k q j) i k j q (cM (moM μ i k q j)) = true then moM μ i k q j else mo2 (moM μ i k q j) (pairS (oW μ i k j q) (2 ^ k)).toNat
theorem suM_fr (μ : aM) (i k : Nat) (q : Int) : ∀ j, FrS μ (suM μ i k q j)
  | 0 => ⟨fun a b h1 h2 => by show mI (wI μ 59 1 0) a b = _; rw [mI_wI, if_neg h2], fun a b h1 => by show mL (wL (wI μ 59 1 0) 59 2 0) a b = _; rw [mL_wL, if_neg h1]; rfl, fun _ _ => rfl⟩
  | j + 1 => by
    rw [suM]
    split
    · exact suM_fr μ i k q j
    · exact ((suM_fr μ i k q j).trans (FrS_A _ _ _)).trans (FrS_A _ _ _)
theorem moM_fr (μ : aM) (i k : Nat) (q : Int) : ∀ j, FrM (wI μ 67 0 0) (moM μ i k q j)
  | 0 => ⟨fun a b h1 h2 => by show mI (wI (wI μ 67 0 0) 67 28 0) a b = _; rw [mI_wI, if_neg h2], fun a b => rfl, fun _ _ => rfl⟩
  | j + 1 => by
    rw [moM]
    split
    · exact moM_fr μ i k q j
    · exact ((moM_fr μ i k q j).trans (FrM_A _ _ _)).trans (FrM_A _ _ _)
/-- the two suites are alike, n words -/
def SuR (m1 m2 : aM) (k n : Nat) : Prop := mI m1 59 1 = (n : Int) ∧ mI m2 67 28 = (n : Int) ∧ (∀ p, p < n → mI m1 60 p = mI m2 89 p ∧ 0 ≤ mI m2 89 p ∧ mI m2 89 p < 2 ^ k) ∧ (∀ w, w < 64 → ((mL m1 59 2).getLsbD w = true ↔ ∃ p, p < n ∧ mI m2 89 p = (w : Int)))
theorem SuR_A {m1 m2 : aM} {k n w : Nat} (h : SuR m1 m2 k n) (h12 : n < 12) (hw : w < 2 ^ k) (h6 : k ≤ 6) : ∃ n', n' ≤ n + 1 ∧ SuR (suA m1 n w) (moA m2 n w) k n' := by
  have hp : 2 ^ k ≤ 64 := Nat.pow_le_pow_right (n := 2) (by omega) h6
  obtain ⟨h1, h2, h3, h4⟩ := h
  have hw64 : w < 64 := by omega
  have hb := h4 w hw64
  by_cases g : ∃ p, p < n ∧ mI m2 89 p = (w : Int)
  · have e1 : suA m1 n w = m1 := by unfold suA; rw [if_pos (Or.inl (hb.mpr g))]
    have e2 : moA m2 n w = m2 := by
      unfold moA
      rw [if_pos ((anyB_iff _).mpr (by obtain ⟨p, a, b⟩ := g; exact ⟨p, a, decide_eq_true b⟩))]
    rw [e1, e2]
    exact ⟨n, by omega, h1, h2, h3, h4⟩
  · have e1 : suA m1 n w = wL (wI (wI m1 60 n (w : Int)) 59 1 ((n : Int) + 1)) 59 2 (mL m1 59 2 ||| ((1 : BitVec 64) <<< w)) := by
      unfold suA
      rw [if_neg (by rintro (z | z); exact g (hb.mp z); omega)]
    have e2 : moA m2 n w = wI (wI m2 89 n (w : Int)) 67 28 ((n : Int) + 1) := by
      unfold moA
      rw [if_neg (fun z => by
        obtain ⟨p, a, b⟩ := (anyB_iff _).mp z
        exact g ⟨p, a, of_decide_eq_true b⟩)]
    have hwk : (w : Int) < 2 ^ k := by exact_mod_cast hw
    have qA : ∀ p, mI (wL (wI (wI m1 60 n (w : Int)) 59 1 ((n : Int) + 1)) 59 2 (mL m1 59 2 ||| ((1 : BitVec 64) <<< w))) 60 p = if p = n then (w : Int) else mI m1 60 p := fun p => by simp [mI_wL, mI_wI]
    have qB : ∀ p, mI (wI (wI m2 89 n (w : Int)) 67 28 ((n : Int) + 1)) 89 p = if p = n then (w : Int) else mI m2 89 p := fun p => by simp [mI_wI]
    rw [e1, e2]
    refine ⟨n + 1, Nat.le_refl _, ?_, ?_, ?_, ?_⟩
    · rw [mI_wL, mI_wI, if_pos ⟨rfl, rfl⟩]; omega
    · rw [mI_wI, if_pos ⟨rfl, rfl⟩]; omega
    · intro p hp'
      rw [qA, qB]
      by_cases e : p = n
      · rw [if_pos e, if_pos e]; exact ⟨rfl, by omega, hwk⟩
      · rw [if_neg e, if_neg e]; exact h3 p (by omega)
    · intro u hu
      rw [mL_wL, if_pos ⟨rfl, rfl⟩, BitVec.getLsbD_or, one_bit hu hw64, Bool.or_eq_true, decide_eq_true_iff, h4 u hu]
      constructor
      · rintro (⟨p, a, b⟩ | z)
        · refine ⟨p, by omega, ?_⟩
          rw [qB, if_neg (by omega)]; exact b
        · refine ⟨n, by omega, ?_⟩
          rw [qB, if_pos rfl, z]
      · rintro ⟨p, a, b⟩
        rw [qB] at b
        by_cases e : p = n
        · rw [if_pos e] at b; right; exact_mod_cast b
        · rw [if_neg e] at b; exact Or.inl ⟨p, by omega, b⟩
theorem oW_fr {μ m : aM} {i k c : Nat} {q : Int} (h : FrM (wI μ 67 0 0) m) : oW m i k c q = oW μ i k c q := by
  have e : ∀ a b, a ≠ 89 → a ≠ 67 → mI m a b = mI μ a b := fun a b h1 h2 => by
    rw [h.1 a b h1 (fun z => h2 z.1), mI_wI, if_neg (fun z => h2 z.1)]
  have eC : ∀ w, oC m i w = oC μ i w := fun w => e _ _ (by omega) (by omega)
  have eK : ∀ w, oK m i w = oK μ i w := fun w => by unfold oK; rw [e _ _ (by omega) (by omega)]
  have eS : ∀ w, oS m i w = oS μ i w := fun w => by unfold oS; rw [e _ _ (by omega) (by omega)]
  have eU : ∀ w, oU m i w = oU μ i w := fun w => by unfold oU; rw [e _ _ (by omega) (by omega)]
  have eT : ∀ w c, oT m i w c = oT μ i w c := fun w c => by unfold oT; rw [eC, eC]
  have eH : ∀ a b, oH m i a b = oH μ i a b := fun a b => by unfold oH; rw [eU, eU, e 71 _ (by omega) (by omega), e 71 _ (by omega) (by omega), e 72 _ (by omega) (by omega), e 72 _ (by omega) (by omega)]
  have eB : ∀ v w, oB m i v w = oB μ i v w := fun v w => by unfold oB; rw [eS, eS]
  funext v w
  have eJ : oJ m i c q v w = oJ μ i c q v w := funext fun j => by unfold oJ; rw [eB, eH]
  unfold oW
  rw [eJ]
  unfold oQ oG
  rw [eK, eK, eB, eC, eC, eT, eT]
/-- suite: class and reference go alike, μ' being the memory after the class's call -/
theorem suite_eq {μ μ' : aM} {i k : Nat} {q : Int} (h : DW μ i k) (h6 : k ≤ 6) (hq0 : 0 ≤ q) (hq2 : q ≤ 2) (hW : ∀ c, oW μ' i k c q = oW μ i k c q) : ∀ j, j ≤ k → ∃ n, n ≤ 2 * j ∧ SuR (suM μ i k q j) (moM μ' i k q j) k n
  | 0, _ => ⟨0, by omega, by show mI (wI μ 59 1 0) 59 1 = _; rw [mI_wI]; rfl, by show mI (wI (wI μ' 67 0 0) 67 28 0) 67 28 = _; rw [mI_wI]; rfl, fun p hp => absurd hp (by omega), fun w hw => by
      show (mL (wL (wI μ 59 1 0) 59 2 0) 59 2).getLsbD w = true ↔ _
      rw [mL_wL, if_pos ⟨rfl, rfl⟩, show (0 : BitVec 64).getLsbD w = false from BitVec.getLsbD_zero]
      exact ⟨fun z => absurd z (by decide), fun ⟨p, a, _⟩ => absurd a (by omega)⟩⟩
  | j + 1, hj => by
    have hp : 2 ^ k ≤ 64 := Nat.pow_le_pow_right (n := 2) (by omega) h6
    obtain ⟨n, hn, hS⟩ := suite_eq h h6 hq0 hq2 hW j (by omega)
    have hjk : j < k := by omega
    obtain ⟨s1, s2, s3, s4⟩ := hS
    have eP : suP μ i k j q = pairS (oW μ' i k j q) (2 ^ k) := by rw [hW]; exact solve_eq h h6 hjk hq0 hq2
    have c1 : cS (suM μ i k q j) = n := by unfold cS; rw [s1]; rfl
    have c2 : cM (moM μ' i k q j) = n := by unfold cM; rw [s2]; rfl
    have eX : ∀ p, p < n → oX (moM μ' i k q j) p < 2 ^ k := fun p hpn => by
      have := (s3 p hpn).2
      have e3 : ((2 ^ k : Nat) : Int) = (2 : Int) ^ k := by norm_cast
      unfold oX; omega
    have eSh : shW μ (27 + 8 * i) k j q (mL (suM μ i k q j) 59 2) = oSh (moM μ' i k q j) i k j q n := by
      unfold oSh
      rw [oW_fr (moM_fr μ' i k q j), hW]
      refine shW_any h h6 hjk hq0 hq2 eX (fun w hw => ?_)
      rw [s4 w (by omega)]
      constructor
      · rintro ⟨p, a, b⟩; exact ⟨p, a, by unfold oX; omega⟩
      · rintro ⟨p, a, b⟩; exact ⟨p, a, by unfold oX at b; have := (s3 p a).2.1; omega⟩
    rw [suM, moM, eP, eSh, c2]
    rcases pairS_ge (f := oW μ' i k j q) (N := 2 ^ k) with e | ⟨v, w, hvw, hw, -, e⟩
    · rw [if_pos (Or.inl e), if_pos (Or.inl (by omega))]
      exact ⟨n, by omega, s1, s2, s3, s4⟩
    · by_cases g : oSh (moM μ' i k q j) i k j q n = true
      · rw [if_pos (Or.inr g), if_pos (Or.inr g)]
        exact ⟨n, by omega, s1, s2, s3, s4⟩
      · rw [if_neg (by rintro (z | z); omega; exact g z), if_neg (by rintro (z | z); omega; exact g z), e]
        have d1 : ((100 * v + w : Nat) : Int).toNat / 100 = v := by omega
        have d2 : ((100 * v + w : Nat) : Int).toNat % 100 = w := by omega
        unfold su2 mo2
        rw [d1, d2, c1, c2]
        obtain ⟨n1, g1, g2⟩ := SuR_A (w := v) ⟨s1, s2, s3, s4⟩ (by omega) (by omega) h6
        have c3 : cS (suA (suM μ i k q j) n v) = n1 := by unfold cS; rw [g2.1]; rfl
        have c4 : cM (moA (moM μ' i k q j) n v) = n1 := by unfold cM; rw [g2.2.1]; rfl
        rw [c3, c4]
        obtain ⟨n2, g3, g4⟩ := SuR_A (w := w) g2 (by omega) hw h6
        exact ⟨n2, by omega, g4⟩
end
