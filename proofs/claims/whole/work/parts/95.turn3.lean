/-! turns of suite and least -/
section
variable {G : aG} {pg : Nat} {μ : aM}
theorem s_La_12 {d bc bs : Nat} (hd : 60 ≤ d) {iN : Nat} (hi : iN + 5 ≤ gn G) (h2 : gn G ≤ 2560) (hx : ∀ j, inR (gx G j)) {o5 o6 : Option aV} {Q : aQ → Nat → aM → Prop} (hbc : 3 ≤ bc) (hbs : 18 ≤ bs) (hR : ∀ k j, mR μ k j = R0 pg k j) {i : Nat} (hg : gx G (iN + 1) = (i : Int)) (hi9 : (i : Int) < mI μ 0 10) (h49 : mI μ 0 10 ≤ 4) (hDD : mI μ 0 10 = mI μ 67 11) {k : Nat} (hk : mI μ (27 + 8 * i) 7 = (k : Int)) (hk' : mI μ 78 i = (k : Int)) (h6 : k ≤ 6) (hW : DW μ i k) (hse : ∀ j, j < 256 → 0 ≤ mI μ 83 j ∧ mI μ 83 j < 64) (hu : ∀ j, j < 6 → 0 ≤ mI μ 79 (6 * i + j) ∧ mI μ 79 (6 * i + j) < 8) (hst : ∀ c, inR (mI μ (27 + 8 * i + 4) c)) (kk : ∀ o5 o6 m', ((∃ z, m' = wI μ 67 0 z) ∨ ((0 ≤ (gx G (iN + 2)) ∧ (gx G (iN + 2)) ≤ 2) ∧ ∃ b n, m' = moM (wL (suM μ i k (gx G (iN + 2)) k) 93 0 b) i k (gx G (iN + 2)) k ∧ n ≤ 12 ∧ SuR (suM μ i k (gx G (iN + 2)) k) m' k n)) → AW G false y_La_law d (bc - 3) (bs - 18) Q 1345 [some (aP 1000), some (aP 0), some (aP 67), some (aP 93), some (aI (iN : Int)), o5, o6] [] 94 m') : AW G false y_La_law d bc bs Q 898 [some (aP 1000), some (aP 0), some (aP 67), some (aP 93), some (aI (iN : Int)), o5, o6] [] 94 μ := by
  have hMC := m_MC_suite (G := G) (pg := pg) (μ := μ) (d := d - 1 - 1) (i := i) (k := k) (by omega) hi9 h49 hk h6 hR (hx (iN + 2)) hst
  rw [← hg] at hMC
  refine k_La_12 (by omega) hi h2 hbc hbs (h_La_suite (by omega) (hx _) (hx _) hMC ?_) ?_ kk
  · intro r n1 m h
    obtain ⟨rfl, ⟨-, rfl, -⟩ | ⟨-, rfl, -⟩⟩ := h
    · exact ⟨rfl, Or.inr (Or.inr rfl)⟩
    · exact ⟨rfl, Or.inl ⟨_, rfl⟩⟩
  · intro r n1 m h
    obtain ⟨rfl, ⟨z, μ1, ⟨-, ⟨-, h, -⟩ | ⟨a1, h, hm⟩⟩, rfl, rfl⟩ | ⟨E, ⟨-, ⟨a1, h, hm⟩ | ⟨-, h, -⟩⟩, rfl⟩⟩ := h
    · cases h
    · cases h
      rw [hm]
      have hFr := suM_fr μ i k (gx G (iN + 2)) k
      have hne : ∀ a b, (a ≠ 60 ∧ a ≠ 59) → mI (suM μ i k (gx G (iN + 2)) k) a b = mI μ a b := fun a b z => by first | exact hFr.1 a b (by omega) | exact hFr.1 a b (by omega) (by omega)
      have hWn : ∀ c, oW (wL (suM μ i k (gx G (iN + 2)) k) 93 0 (BitVec.ofInt 64 (mI (suM μ i k (gx G (iN + 2)) k) 59 1))) i k c (gx G (iN + 2)) = oW μ i k c (gx G (iN + 2)) := fun c => (oW_l _ _ _ _ _ _).trans (oW_cg (fun a b z => hne a b (by omega)))
      have hMo := g_Mo_suite (G := G) (pg := pg) (μ := (wL (suM μ i k (gx G (iN + 2)) k) 93 0 (BitVec.ofInt 64 (mI (suM μ i k (gx G (iN + 2)) k) 59 1)))) (d := d - 1) (i := i) (k := k) (q := (gx G (iN + 2))) (by omega) (show (i : Int) < mI (wL (suM μ i k (gx G (iN + 2)) k) 93 0 (BitVec.ofInt 64 (mI (suM μ i k (gx G (iN + 2)) k) 59 1))) 67 11 from lt_of_e hi9 (hDD.trans (hne _ _ (by omega)).symm)) (show mI (wL (suM μ i k (gx G (iN + 2)) k) 93 0 (BitVec.ofInt 64 (mI (suM μ i k (gx G (iN + 2)) k) 59 1))) 67 11 ≤ 4 from le_of_e h49 (hDD.trans (hne _ _ (by omega)).symm)) (show mI (wL (suM μ i k (gx G (iN + 2)) k) 93 0 (BitVec.ofInt 64 (mI (suM μ i k (gx G (iN + 2)) k) 59 1))) 78 i = (k : Int) from (hne _ _ (by omega)).trans hk') h6 (show ∀ j, j < 256 → 0 ≤ mI (wL (suM μ i k (gx G (iN + 2)) k) 93 0 (BitVec.ofInt 64 (mI (suM μ i k (gx G (iN + 2)) k) 59 1))) 83 j ∧ mI (wL (suM μ i k (gx G (iN + 2)) k) 93 0 (BitVec.ofInt 64 (mI (suM μ i k (gx G (iN + 2)) k) 59 1))) 83 j < 64 from fun j z => by show 0 ≤ mI (suM μ i k (gx G (iN + 2)) k) 83 j ∧ mI (suM μ i k (gx G (iN + 2)) k) 83 j < 64; rw [hne _ _ (by omega)]; exact hse j z) (show ∀ j, j < 6 → 0 ≤ mI (wL (suM μ i k (gx G (iN + 2)) k) 93 0 (BitVec.ofInt 64 (mI (suM μ i k (gx G (iN + 2)) k) 59 1))) 79 (6 * i + j) ∧ mI (wL (suM μ i k (gx G (iN + 2)) k) 93 0 (BitVec.ofInt 64 (mI (suM μ i k (gx G (iN + 2)) k) 59 1))) 79 (6 * i + j) < 8 from fun j z => by show 0 ≤ mI (suM μ i k (gx G (iN + 2)) k) 79 (6 * i + j) ∧ mI (suM μ i k (gx G (iN + 2)) k) 79 (6 * i + j) < 8; rw [hne _ _ (by omega)]; exact hu j z) (show ∀ a b, mR (wL (suM μ i k (gx G (iN + 2)) k) 93 0 (BitVec.ofInt 64 (mI (suM μ i k (gx G (iN + 2)) k) 59 1))) a b = R0 pg a b from fun a b => (hFr.2.2 a b).trans (hR a b)) (hx _)
      rw [← hg] at hMo
      refine ⟨rfl, _, rfl, _, hMo, ?_⟩
      intro r' n' m' h'
      obtain ⟨rfl, ⟨b1, -⟩ | ⟨-, rfl, rfl⟩⟩ := h'
      · exact absurd a1 b1
      · obtain ⟨n, hn, hS⟩ := suite_eq (μ' := (wL (suM μ i k (gx G (iN + 2)) k) 93 0 (BitVec.ofInt 64 (mI (suM μ i k (gx G (iN + 2)) k) 59 1)))) hW h6 a1.1 a1.2 hWn k (Nat.le_refl _)
        have e0 : mI (moM (wL (suM μ i k (gx G (iN + 2)) k) 93 0 (BitVec.ofInt 64 (mI (suM μ i k (gx G (iN + 2)) k) 59 1))) i k (gx G (iN + 2)) k) 67 0 = 0 := ((moM_fr (wL (suM μ i k (gx G (iN + 2)) k) 93 0 (BitVec.ofInt 64 (mI (suM μ i k (gx G (iN + 2)) k) 59 1))) i k (gx G (iN + 2)) k).1 67 0 (by omega) (by omega)).trans rfl
        have e9 : mL (moM (wL (suM μ i k (gx G (iN + 2)) k) 93 0 (BitVec.ofInt 64 (mI (suM μ i k (gx G (iN + 2)) k) 59 1))) i k (gx G (iN + 2)) k) 93 0 = BitVec.ofInt 64 (mI (suM μ i k (gx G (iN + 2)) k) 59 1) := ((moM_fr (wL (suM μ i k (gx G (iN + 2)) k) 93 0 (BitVec.ofInt 64 (mI (suM μ i k (gx G (iN + 2)) k) 59 1))) i k (gx G (iN + 2)) k).2.1 93 0).trans rfl
        exact ⟨rfl, _, rfl, e0, fun _ => e9.trans (congrArg (BitVec.ofInt 64) (hS.1.trans hS.2.1.symm)), Or.inr ⟨a1, _, n, rfl, by omega, hS⟩⟩
    · cases h
      rw [hm]
      have hMo := g_Mo_suite (G := G) (pg := pg) (μ := μ) (d := d - 1) (i := i) (k := k) (q := (gx G (iN + 2))) (by omega) (lt_of_e hi9 hDD) (le_of_e h49 hDD) hk' h6 hse hu hR (hx _)
      rw [← hg] at hMo
      refine ⟨rfl, _, rfl, _, hMo, ?_⟩
      intro r' n' m' h'
      obtain ⟨rfl, ⟨b1, rfl, rfl⟩ | ⟨b1, -⟩⟩ := h'
      · exact ⟨rfl, _, rfl, rfl, fun q => absurd q (by decide), Or.inl ⟨_, rfl⟩⟩
      · exact absurd b1 a1
    · cases h
theorem s_La_14 {d bc bs : Nat} (hd : 60 ≤ d) {iN : Nat} (hi : iN + 5 ≤ gn G) (h2 : gn G ≤ 2560) (hx : ∀ j, inR (gx G j)) {o5 o6 : Option aV} {Q : aQ → Nat → aM → Prop} (hbc : 3 ≤ bc) (hbs : 18 ≤ bs) (hR : ∀ k j, mR μ k j = R0 pg k j) {i : Nat} (hg : gx G (iN + 1) = (i : Int)) (hi9 : (i : Int) < mI μ 0 10) (h49 : mI μ 0 10 ≤ 4) (hDD : mI μ 0 10 = mI μ 67 11) {k : Nat} (hk : mI μ (27 + 8 * i) 7 = (k : Int)) (hk' : mI μ 78 i = (k : Int)) (h6 : k ≤ 6) (hW : DW μ i k) (hse : ∀ j, j < 256 → 0 ≤ mI μ 83 j ∧ mI μ 83 j < 64) (hu : ∀ j, j < 6 → 0 ≤ mI μ 79 (6 * i + j) ∧ mI μ 79 (6 * i + j) < 8) (hst : ∀ c, inR (mI μ (27 + 8 * i + 4) c)) (hoP : okP μ) (kk : ∀ o5 o6 m', ((∃ z, m' = wI μ 67 0 z) ∨ (∃ b, m' = wI (wL μ 93 0 b) 67 0 0) ∨ (k ≤ 4 ∧ ∃ b, m' = leM (wL (feM μ (27 + 8 * i) k (gx G (iN + 2)) k) 93 0 b) i k (gx G (iN + 2)) k)) → AW G false y_La_law d (bc - 3) (bs - 18) Q 1345 [some (aP 1000), some (aP 0), some (aP 67), some (aP 93), some (aI (iN : Int)), o5, o6] [] 94 m') : AW G false y_La_law d bc bs Q 991 [some (aP 1000), some (aP 0), some (aP 67), some (aP 93), some (aI (iN : Int)), o5, o6] [] 94 μ := by
  have hMC := m_MC_least (G := G) (pg := pg) (μ := μ) (d := d - 1 - 1) (i := i) (k := k) (by omega) hi9 h49 hk h6 hR (hx (iN + 2)) hst
  rw [← hg] at hMC
  refine k_La_14 (by omega) hi h2 hbc hbs (h_La_least (by omega) (hx _) (hx _) hMC ?_) ?_ kk
  · intro r n1 m h
    obtain ⟨rfl, ⟨-, rfl, -⟩ | ⟨-, -, rfl, -⟩ | ⟨-, -, rfl, -⟩⟩ := h
    · exact ⟨rfl, Or.inr (Or.inr rfl)⟩
    · exact ⟨rfl, Or.inl ⟨_, rfl⟩⟩
    · exact ⟨rfl, Or.inl ⟨_, rfl⟩⟩
  · intro r n1 m h
    obtain ⟨rfl, ⟨z, μ1, ⟨-, ⟨-, h, -⟩ | ⟨a1, a2, h, hm⟩ | ⟨a1, a2, h, hm⟩⟩, rfl, rfl⟩ | ⟨E, ⟨-, ⟨a1, h, hm⟩ | ⟨-, -, h, -⟩ | ⟨-, -, h, -⟩⟩, rfl⟩⟩ := h
    · cases h
    · cases h
      rw [hm]
      have hMo := g_Mo_least (G := G) (pg := pg) (μ := (wL μ 93 0 (BitVec.ofInt 64 (-1)))) (d := d - 1) (i := i) (k := k) (q := (gx G (iN + 2))) (by omega) (show (i : Int) < mI (wL μ 93 0 (BitVec.ofInt 64 (-1))) 67 11 from lt_of_e hi9 hDD) (show mI (wL μ 93 0 (BitVec.ofInt 64 (-1))) 67 11 ≤ 4 from le_of_e h49 hDD) (show mI (wL μ 93 0 (BitVec.ofInt 64 (-1))) 78 i = (k : Int) from hk') h6 (show ∀ j, j < 256 → 0 ≤ mI (wL μ 93 0 (BitVec.ofInt 64 (-1))) 83 j ∧ mI (wL μ 93 0 (BitVec.ofInt 64 (-1))) 83 j < 64 from hse) (show ∀ j, j < 6 → 0 ≤ mI (wL μ 93 0 (BitVec.ofInt 64 (-1))) 79 (6 * i + j) ∧ mI (wL μ 93 0 (BitVec.ofInt 64 (-1))) 79 (6 * i + j) < 8 from hu) (show ∀ a b, mR (wL μ 93 0 (BitVec.ofInt 64 (-1))) a b = R0 pg a b from hR) (hx _) (show okP (wL μ 93 0 (BitVec.ofInt 64 (-1))) from hoP)
      rw [← hg] at hMo
      refine ⟨rfl, _, rfl, _, hMo, ?_⟩
      intro r' n' m' h'
      obtain ⟨rfl, ⟨b1, -⟩ | ⟨-, b2, rfl, rfl⟩ | ⟨-, b2, -⟩⟩ := h'
      · exact absurd a1 b1
      · exact ⟨rfl, _, rfl, rfl, fun _ => rfl, Or.inr (Or.inl ⟨_, rfl⟩)⟩
      · exact absurd b2 a2
    · cases h
      rw [hm]
      have hFr := feM_fr μ (27 + 8 * i) k (gx G (iN + 2)) k
      have hne : ∀ a b, (a ≠ 61) → mI (feM μ (27 + 8 * i) k (gx G (iN + 2)) k) a b = mI μ a b := fun a b z => by first | exact hFr.1 a b (by omega) | exact hFr.1 a b (by omega) (by omega)
      have hWn : ∀ c, oW (wL (feM μ (27 + 8 * i) k (gx G (iN + 2)) k) 93 0 (BitVec.ofInt 64 ((fw (mL μ (27 + 8 * i) 9) (2 ^ k) (shA (feM μ (27 + 8 * i) k (gx G (iN + 2)) k) k (2 ^ k)) : Nat) : Int))) i k c (gx G (iN + 2)) = oW μ i k c (gx G (iN + 2)) := fun c => (oW_l _ _ _ _ _ _).trans (oW_cg (fun a b z => hne a b (by omega)))
      have hoP' : okP (wL (feM μ (27 + 8 * i) k (gx G (iN + 2)) k) 93 0 (BitVec.ofInt 64 ((fw (mL μ (27 + 8 * i) 9) (2 ^ k) (shA (feM μ (27 + 8 * i) k (gx G (iN + 2)) k) k (2 ^ k)) : Nat) : Int))) := fun j hj => by show 0 ≤ mI (feM μ (27 + 8 * i) k (gx G (iN + 2)) k) 90 j ∧ mI (feM μ (27 + 8 * i) k (gx G (iN + 2)) k) 90 j < 65536; rw [hne _ _ (by omega)]; exact hoP j hj
      have hMo := g_Mo_least (G := G) (pg := pg) (μ := (wL (feM μ (27 + 8 * i) k (gx G (iN + 2)) k) 93 0 (BitVec.ofInt 64 ((fw (mL μ (27 + 8 * i) 9) (2 ^ k) (shA (feM μ (27 + 8 * i) k (gx G (iN + 2)) k) k (2 ^ k)) : Nat) : Int)))) (d := d - 1) (i := i) (k := k) (q := (gx G (iN + 2))) (by omega) (show (i : Int) < mI (wL (feM μ (27 + 8 * i) k (gx G (iN + 2)) k) 93 0 (BitVec.ofInt 64 ((fw (mL μ (27 + 8 * i) 9) (2 ^ k) (shA (feM μ (27 + 8 * i) k (gx G (iN + 2)) k) k (2 ^ k)) : Nat) : Int))) 67 11 from lt_of_e hi9 (hDD.trans (hne _ _ (by omega)).symm)) (show mI (wL (feM μ (27 + 8 * i) k (gx G (iN + 2)) k) 93 0 (BitVec.ofInt 64 ((fw (mL μ (27 + 8 * i) 9) (2 ^ k) (shA (feM μ (27 + 8 * i) k (gx G (iN + 2)) k) k (2 ^ k)) : Nat) : Int))) 67 11 ≤ 4 from le_of_e h49 (hDD.trans (hne _ _ (by omega)).symm)) (show mI (wL (feM μ (27 + 8 * i) k (gx G (iN + 2)) k) 93 0 (BitVec.ofInt 64 ((fw (mL μ (27 + 8 * i) 9) (2 ^ k) (shA (feM μ (27 + 8 * i) k (gx G (iN + 2)) k) k (2 ^ k)) : Nat) : Int))) 78 i = (k : Int) from (hne _ _ (by omega)).trans hk') h6 (show ∀ j, j < 256 → 0 ≤ mI (wL (feM μ (27 + 8 * i) k (gx G (iN + 2)) k) 93 0 (BitVec.ofInt 64 ((fw (mL μ (27 + 8 * i) 9) (2 ^ k) (shA (feM μ (27 + 8 * i) k (gx G (iN + 2)) k) k (2 ^ k)) : Nat) : Int))) 83 j ∧ mI (wL (feM μ (27 + 8 * i) k (gx G (iN + 2)) k) 93 0 (BitVec.ofInt 64 ((fw (mL μ (27 + 8 * i) 9) (2 ^ k) (shA (feM μ (27 + 8 * i) k (gx G (iN + 2)) k) k (2 ^ k)) : Nat) : Int))) 83 j < 64 from fun j z => by show 0 ≤ mI (feM μ (27 + 8 * i) k (gx G (iN + 2)) k) 83 j ∧ mI (feM μ (27 + 8 * i) k (gx G (iN + 2)) k) 83 j < 64; rw [hne _ _ (by omega)]; exact hse j z) (show ∀ j, j < 6 → 0 ≤ mI (wL (feM μ (27 + 8 * i) k (gx G (iN + 2)) k) 93 0 (BitVec.ofInt 64 ((fw (mL μ (27 + 8 * i) 9) (2 ^ k) (shA (feM μ (27 + 8 * i) k (gx G (iN + 2)) k) k (2 ^ k)) : Nat) : Int))) 79 (6 * i + j) ∧ mI (wL (feM μ (27 + 8 * i) k (gx G (iN + 2)) k) 93 0 (BitVec.ofInt 64 ((fw (mL μ (27 + 8 * i) 9) (2 ^ k) (shA (feM μ (27 + 8 * i) k (gx G (iN + 2)) k) k (2 ^ k)) : Nat) : Int))) 79 (6 * i + j) < 8 from fun j z => by show 0 ≤ mI (feM μ (27 + 8 * i) k (gx G (iN + 2)) k) 79 (6 * i + j) ∧ mI (feM μ (27 + 8 * i) k (gx G (iN + 2)) k) 79 (6 * i + j) < 8; rw [hne _ _ (by omega)]; exact hu j z) (show ∀ a b, mR (wL (feM μ (27 + 8 * i) k (gx G (iN + 2)) k) 93 0 (BitVec.ofInt 64 ((fw (mL μ (27 + 8 * i) 9) (2 ^ k) (shA (feM μ (27 + 8 * i) k (gx G (iN + 2)) k) k (2 ^ k)) : Nat) : Int))) a b = R0 pg a b from fun a b => (hFr.2.2 a b).trans (hR a b)) (hx _) hoP'
      rw [← hg] at hMo
      refine ⟨rfl, _, rfl, _, hMo, ?_⟩
      intro r' n' m' h'
      obtain ⟨rfl, ⟨b1, -⟩ | ⟨-, b2, -⟩ | ⟨-, -, rfl, rfl⟩⟩ := h'
      · exact absurd a1 b1
      · exact absurd a2 b2
      · have e := least_eq (μ' := (wL (feM μ (27 + 8 * i) k (gx G (iN + 2)) k) 93 0 (BitVec.ofInt 64 ((fw (mL μ (27 + 8 * i) 9) (2 ^ k) (shA (feM μ (27 + 8 * i) k (gx G (iN + 2)) k) k (2 ^ k)) : Nat) : Int)))) hW (show i < 4 by omega) a2 a1.1 a1.2 hWn
        have e0 : mI (leM (wL (feM μ (27 + 8 * i) k (gx G (iN + 2)) k) 93 0 (BitVec.ofInt 64 ((fw (mL μ (27 + 8 * i) 9) (2 ^ k) (shA (feM μ (27 + 8 * i) k (gx G (iN + 2)) k) k (2 ^ k)) : Nat) : Int))) i k (gx G (iN + 2)) k) 67 0 = 0 := ((leM_fr (wL (feM μ (27 + 8 * i) k (gx G (iN + 2)) k) 93 0 (BitVec.ofInt 64 ((fw (mL μ (27 + 8 * i) 9) (2 ^ k) (shA (feM μ (27 + 8 * i) k (gx G (iN + 2)) k) k (2 ^ k)) : Nat) : Int))) i k (gx G (iN + 2)) k).1 67 0 (by omega)).trans rfl
        have e9 : mL (leM (wL (feM μ (27 + 8 * i) k (gx G (iN + 2)) k) 93 0 (BitVec.ofInt 64 ((fw (mL μ (27 + 8 * i) 9) (2 ^ k) (shA (feM μ (27 + 8 * i) k (gx G (iN + 2)) k) k (2 ^ k)) : Nat) : Int))) i k (gx G (iN + 2)) k) 93 0 = BitVec.ofInt 64 ((fw (mL μ (27 + 8 * i) 9) (2 ^ k) (shA (feM μ (27 + 8 * i) k (gx G (iN + 2)) k) k (2 ^ k)) : Nat) : Int) := ((leM_fr (wL (feM μ (27 + 8 * i) k (gx G (iN + 2)) k) 93 0 (BitVec.ofInt 64 ((fw (mL μ (27 + 8 * i) 9) (2 ^ k) (shA (feM μ (27 + 8 * i) k (gx G (iN + 2)) k) k (2 ^ k)) : Nat) : Int))) i k (gx G (iN + 2)) k).2.1 93 0).trans rfl
        exact ⟨rfl, _, rfl, e0, fun _ => by rw [e9, e], Or.inr (Or.inr ⟨a2, _, rfl⟩)⟩
    · cases h
      rw [hm]
      have hMo := g_Mo_least (G := G) (pg := pg) (μ := μ) (d := d - 1) (i := i) (k := k) (q := (gx G (iN + 2))) (by omega) (lt_of_e hi9 hDD) (le_of_e h49 hDD) hk' h6 hse hu hR (hx _) hoP
      rw [← hg] at hMo
      refine ⟨rfl, _, rfl, _, hMo, ?_⟩
      intro r' n' m' h'
      obtain ⟨rfl, ⟨b1, rfl, rfl⟩ | ⟨b1, -⟩ | ⟨b1, -⟩⟩ := h'
      · exact ⟨rfl, _, rfl, rfl, fun q => absurd q (by decide), Or.inl ⟨_, rfl⟩⟩
      · exact absurd b1 a1
      · exact absurd b1 a1
    · cases h
    · cases h
end
