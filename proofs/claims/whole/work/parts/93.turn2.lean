/-! turns on a decision that there is -/
section
theorem lt_of_e {a b c : Int} (h : a < b) (e : b = c) : a < c := e ▸ h
theorem le_of_e {b c d : Int} (h : b ≤ d) (e : b = c) : c ≤ d := e ▸ h
theorem oW_l (μ : aM) (z : BitVec 64) (i k c : Nat) (q : Int) : oW (wL μ 93 0 z) i k c q = oW μ i k c q := rfl
theorem oCv_l (μ : aM) (z : BitVec 64) (i k c : Nat) (q : Int) (n : Nat) : oCv (wL μ 93 0 z) i k c q n = oCv μ i k c q n := rfl
theorem if_bI (b : Bool) : (if b = true then (1 : Int) else 0) = bI b := by cases b <;> rfl
theorem if_01 (c : Prop) [Decidable c] : (if c then (1 : Int) else 0) = 0 ∨ (if c then (1 : Int) else 0) = 1 := by split <;> simp
theorem if_10 (c : Prop) [Decidable c] : (if c then (0 : Int) else 1) = 0 ∨ (if c then (0 : Int) else 1) = 1 := by split <;> simp
theorem out_eq {μ : aM} {i k : Nat} (h : DW μ i k) (h6 : k ≤ 6) {w : Int} (hw : 0 ≤ w ∧ w < ((2 ^ k : Nat) : Int)) : (if (mL μ (27 + 8 * i) 8).getLsbD w.toNat = true then (1 : Int) else 0) = (if mI μ 82 (64 * i + w.toNat) = 0 then 0 else 1) := by
  have hp : 2 ^ k ≤ 64 := Nat.pow_le_pow_right (n := 2) (by omega) h6
  have hw' : w.toNat < 2 ^ k := by omega
  rw [h.2.1 _ hw']
  rcases h.1 w.toNat (by omega) with e | e <;> rw [e] <;> unfold oC at e <;> rw [e] <;> rfl
theorem eva_eq {μ : aM} {i k : Nat} (h : DW μ i k) (h6 : k ≤ 6) {w c : Int} (hw : (0 ≤ w ∧ w < ((2 ^ k : Nat) : Int)) ∧ (0 ≤ c ∧ c < (k : Int))) : (if (mL μ (27 + 8 * i + 5) c.toNat).getLsbD w.toNat = true then (1 : Int) else 0) = (if (mI μ 83 (64 * i + w.toNat)).toNat.testBit c.toNat = true then 1 else 0) := by
  rw [h.2.2.2.1 c.toNat (by omega) w.toNat (by omega)]
  rfl
theorem DW_9 {μ : aM} {i k : Nat} (h : DW μ i k) (h6 : k ≤ 6) {w : Nat} (hw : w < 2 ^ k) : (mL μ (27 + 8 * i) 9).getLsbD w = oK μ i w := by
  have hp : 2 ^ k ≤ 64 := Nat.pow_le_pow_right (n := 2) (by omega) h6
  rw [h.2.2.1 w (by omega), decide_eq_true hw, Bool.true_and]
variable {G : aG} {pg : Nat} {μ : aM}
theorem s_La_5 {d bc bs : Nat} (hd : 60 ≤ d) {iN : Nat} (hi : iN + 5 ≤ gn G) (h2 : gn G ≤ 2560) (hx : ∀ j, inR (gx G j)) {o5 o6 : Option aV} {Q : aQ → Nat → aM → Prop} (hbc : 3 ≤ bc) (hbs : 18 ≤ bs) (hR : ∀ k j, mR μ k j = R0 pg k j) {i : Nat} (hg : gx G (iN + 1) = (i : Int)) (hi9 : (i : Int) < mI μ 0 10) (h49 : mI μ 0 10 ≤ 4) (hDD : mI μ 0 10 = mI μ 67 11) {k : Nat} (hk : mI μ (27 + 8 * i) 7 = (k : Int)) (hk' : mI μ 78 i = (k : Int)) (h6 : k ≤ 6) (kk : ∀ o5 o6 m', ((∃ b, m' = wI (wL μ 93 0 b) 67 0 0) ∨ (∃ z, m' = wI μ 67 0 z)) → AW G false y_La_law d (bc - 3) (bs - 18) Q 1345 [some (aP 1000), some (aP 0), some (aP 67), some (aP 93), some (aI (iN : Int)), o5, o6] [] 94 m') : AW G false y_La_law d bc bs Q 408 [some (aP 1000), some (aP 0), some (aP 67), some (aP 93), some (aI (iN : Int)), o5, o6] [] 94 μ := by
  have hMC := m_MC_conditions (G := G) (pg := pg) (μ := μ) (d := d - 1 - 1) (by omega) hi9 h49 hR
  rw [← hg] at hMC
  refine k_La_5 (by omega) hi h2 hbc hbs (h_La_conditions (by omega) (hx _) hMC ?_) ?_ kk
  · intro r n m h
    obtain ⟨rfl, rfl, -⟩ := h
    exact ⟨rfl, Or.inl ⟨_, rfl⟩⟩
  · intro r n m h
    obtain ⟨rfl, ⟨z, μ1, ⟨h, -, hm⟩, rfl, rfl⟩ | ⟨E, ⟨h, -⟩, -⟩⟩ := h
    · cases h
      rw [hm]
      have hMo := g_Mo_conditions (G := G) (pg := pg) (μ := (wL μ 93 0 (BitVec.ofInt 64 (mI μ (27 + 8 * i) 7)))) (d := d - 1) (by omega) (show (i : Int) < mI (wL μ 93 0 (BitVec.ofInt 64 (mI μ (27 + 8 * i) 7))) 67 11 from lt_of_e hi9 hDD) (show mI (wL μ 93 0 (BitVec.ofInt 64 (mI μ (27 + 8 * i) 7))) 67 11 ≤ 4 from le_of_e h49 hDD) (show ∀ a b, mR (wL μ 93 0 (BitVec.ofInt 64 (mI μ (27 + 8 * i) 7))) a b = R0 pg a b from hR)
      rw [← hg] at hMo
      refine ⟨rfl, _, rfl, _, hMo, ?_⟩
      intro r' n' m' h'
      obtain ⟨rfl, rfl, rfl⟩ := h'
      exact ⟨rfl, _, rfl, rfl, fun _ => congrArg (BitVec.ofInt 64) (hk.trans hk'.symm), Or.inl ⟨_, rfl⟩⟩
    · cases h
theorem s_La_7 {d bc bs : Nat} (hd : 60 ≤ d) {iN : Nat} (hi : iN + 5 ≤ gn G) (h2 : gn G ≤ 2560) (hx : ∀ j, inR (gx G j)) {o5 o6 : Option aV} {Q : aQ → Nat → aM → Prop} (hbc : 3 ≤ bc) (hbs : 18 ≤ bs) (hR : ∀ k j, mR μ k j = R0 pg k j) {i : Nat} (hg : gx G (iN + 1) = (i : Int)) (hi9 : (i : Int) < mI μ 0 10) (h49 : mI μ 0 10 ≤ 4) (hDD : mI μ 0 10 = mI μ 67 11) {k : Nat} (hk : mI μ (27 + 8 * i) 7 = (k : Int)) (hk' : mI μ 78 i = (k : Int)) (h6 : k ≤ 6) (hW : DW μ i k) (kk : ∀ o5 o6 m', ((∃ b, m' = wI (wL μ 93 0 b) 67 0 0) ∨ (∃ z, m' = wI μ 67 0 z)) → AW G false y_La_law d (bc - 3) (bs - 18) Q 1345 [some (aP 1000), some (aP 0), some (aP 67), some (aP 93), some (aI (iN : Int)), o5, o6] [] 94 m') : AW G false y_La_law d bc bs Q 520 [some (aP 1000), some (aP 0), some (aP 67), some (aP 93), some (aI (iN : Int)), o5, o6] [] 94 μ := by
  have hMC := m_MC_feasible (G := G) (pg := pg) (μ := μ) (d := d - 1 - 1) (by omega) hi9 h49 hR
  rw [← hg] at hMC
  refine k_La_7 (by omega) hi h2 hbc hbs (h_La_feasible (by omega) (hx _) hMC ?_) ?_ kk
  · intro r n m h
    obtain ⟨rfl, rfl, -⟩ := h
    exact ⟨rfl, Or.inl ⟨_, rfl⟩⟩
  · intro r n m h
    obtain ⟨rfl, ⟨z, μ1, ⟨h, -, hm⟩, rfl, rfl⟩ | ⟨E, ⟨h, -⟩, -⟩⟩ := h
    · cases h
      rw [hm]
      have hMo := g_Mo_feasible (G := G) (pg := pg) (μ := (wL μ 93 0 (BitVec.ofInt 64 (((cnt 64 (mL μ (27 + 8 * i) 9).toNat : Nat) : Int))))) (d := d - 1) (by omega) (show (i : Int) < mI (wL μ 93 0 (BitVec.ofInt 64 (((cnt 64 (mL μ (27 + 8 * i) 9).toNat : Nat) : Int)))) 67 11 from lt_of_e hi9 hDD) (show mI (wL μ 93 0 (BitVec.ofInt 64 (((cnt 64 (mL μ (27 + 8 * i) 9).toNat : Nat) : Int)))) 67 11 ≤ 4 from le_of_e h49 hDD) (show mI (wL μ 93 0 (BitVec.ofInt 64 (((cnt 64 (mL μ (27 + 8 * i) 9).toNat : Nat) : Int)))) 78 i = (k : Int) from hk') h6 (show ∀ a b, mR (wL μ 93 0 (BitVec.ofInt 64 (((cnt 64 (mL μ (27 + 8 * i) 9).toNat : Nat) : Int)))) a b = R0 pg a b from hR)
      rw [← hg] at hMo
      refine ⟨rfl, _, rfl, _, hMo, ?_⟩
      intro r' n' m' h'
      obtain ⟨rfl, rfl, rfl⟩ := h'
      exact ⟨rfl, _, rfl, rfl, fun _ => congrArg (BitVec.ofInt 64) (congrArg (fun z : Nat => (z : Int)) (feas_eq hW h6)), Or.inl ⟨_, rfl⟩⟩
    · cases h
theorem s_La_11 {d bc bs : Nat} (hd : 60 ≤ d) {iN : Nat} (hi : iN + 5 ≤ gn G) (h2 : gn G ≤ 2560) (hx : ∀ j, inR (gx G j)) {o5 o6 : Option aV} {Q : aQ → Nat → aM → Prop} (hbc : 3 ≤ bc) (hbs : 18 ≤ bs) (hR : ∀ k j, mR μ k j = R0 pg k j) {i : Nat} (hg : gx G (iN + 1) = (i : Int)) (hi9 : (i : Int) < mI μ 0 10) (h49 : mI μ 0 10 ≤ 4) (hDD : mI μ 0 10 = mI μ 67 11) {k : Nat} (hk : mI μ (27 + 8 * i) 7 = (k : Int)) (hk' : mI μ 78 i = (k : Int)) (h6 : k ≤ 6) (hW : DW μ i k) (hse : ∀ j, j < 256 → 0 ≤ mI μ 83 j ∧ mI μ 83 j < 64) (hu : ∀ j, j < 6 → 0 ≤ mI μ 79 (6 * i + j) ∧ mI μ 79 (6 * i + j) < 8) (hst : ∀ c, inR (mI μ (27 + 8 * i + 4) c)) (kk : ∀ o5 o6 m', ((∃ b, m' = wI (wL μ 93 0 b) 67 0 0) ∨ (∃ z, m' = wI μ 67 0 z)) → AW G false y_La_law d (bc - 3) (bs - 18) Q 1345 [some (aP 1000), some (aP 0), some (aP 67), some (aP 93), some (aI (iN : Int)), o5, o6] [] 94 m') : AW G false y_La_law d bc bs Q 818 [some (aP 1000), some (aP 0), some (aP 67), some (aP 93), some (aI (iN : Int)), o5, o6] [] 94 μ := by

  have hMC := m_MC_solve (G := G) (pg := pg) (μ := μ) (d := d - 1 - 1) (i := i) (k := k) (by omega) hi9 h49 hk h6 hR (hx (iN + 2)) (hx (iN + 3)) hst
  rw [← hg] at hMC
  refine k_La_11 (by omega) hi h2 hbc hbs (h_La_solve (by omega) (hx _) (hx _) (hx _) hMC ?_) ?_ kk
  · intro r n1 m h
    obtain ⟨rfl, h⟩ := h
    obtain ⟨-, rfl, -⟩ | ⟨-, -, rfl, -⟩ | ⟨-, -, rfl, -⟩ := h
    · exact ⟨rfl, Or.inr (Or.inl rfl)⟩
    · exact ⟨rfl, Or.inr (Or.inr rfl)⟩
    · exact ⟨rfl, Or.inl ⟨_, rfl⟩⟩
  · intro r n1 m h
    obtain ⟨rfl, ⟨z, μ1, ⟨-, hQ⟩, rfl, rfl⟩ | ⟨E, ⟨-, hQ⟩, rfl⟩⟩ := h
    · obtain ⟨a1, hr, hm⟩ | ⟨a1, a2, hr, hm⟩ | ⟨a1, a2, hr, hm⟩ := hQ
      · cases hr
      · cases hr
      · cases hr
        rw [hm]
        have hMo := g_Mo_solve (G := G) (pg := pg) (μ := (wL μ 93 0 (BitVec.ofInt 64 (pairS (fun v u => (mL μ (27 + 8 * i) 9).getLsbD v && ((mL μ (27 + 8 * i) 9) &&& ptF μ (27 + 8 * i) k (gx G (iN + 2)).toNat (gx G (iN + 3)) v).getLsbD u) (2 ^ k))))) (d := d - 1) (i := i) (k := k) (w := (gx G (iN + 2))) (q := (gx G (iN + 3))) (by omega) (show (i : Int) < mI (wL μ 93 0 (BitVec.ofInt 64 (pairS (fun v u => (mL μ (27 + 8 * i) 9).getLsbD v && ((mL μ (27 + 8 * i) 9) &&& ptF μ (27 + 8 * i) k (gx G (iN + 2)).toNat (gx G (iN + 3)) v).getLsbD u) (2 ^ k)))) 67 11 from lt_of_e hi9 hDD) (show mI (wL μ 93 0 (BitVec.ofInt 64 (pairS (fun v u => (mL μ (27 + 8 * i) 9).getLsbD v && ((mL μ (27 + 8 * i) 9) &&& ptF μ (27 + 8 * i) k (gx G (iN + 2)).toNat (gx G (iN + 3)) v).getLsbD u) (2 ^ k)))) 67 11 ≤ 4 from le_of_e h49 hDD) (show mI (wL μ 93 0 (BitVec.ofInt 64 (pairS (fun v u => (mL μ (27 + 8 * i) 9).getLsbD v && ((mL μ (27 + 8 * i) 9) &&& ptF μ (27 + 8 * i) k (gx G (iN + 2)).toNat (gx G (iN + 3)) v).getLsbD u) (2 ^ k)))) 78 i = (k : Int) from hk') h6 (show ∀ j, j < 256 → 0 ≤ mI (wL μ 93 0 (BitVec.ofInt 64 (pairS (fun v u => (mL μ (27 + 8 * i) 9).getLsbD v && ((mL μ (27 + 8 * i) 9) &&& ptF μ (27 + 8 * i) k (gx G (iN + 2)).toNat (gx G (iN + 3)) v).getLsbD u) (2 ^ k)))) 83 j ∧ mI (wL μ 93 0 (BitVec.ofInt 64 (pairS (fun v u => (mL μ (27 + 8 * i) 9).getLsbD v && ((mL μ (27 + 8 * i) 9) &&& ptF μ (27 + 8 * i) k (gx G (iN + 2)).toNat (gx G (iN + 3)) v).getLsbD u) (2 ^ k)))) 83 j < 64 from hse) (show ∀ j, j < 6 → 0 ≤ mI (wL μ 93 0 (BitVec.ofInt 64 (pairS (fun v u => (mL μ (27 + 8 * i) 9).getLsbD v && ((mL μ (27 + 8 * i) 9) &&& ptF μ (27 + 8 * i) k (gx G (iN + 2)).toNat (gx G (iN + 3)) v).getLsbD u) (2 ^ k)))) 79 (6 * i + j) ∧ mI (wL μ 93 0 (BitVec.ofInt 64 (pairS (fun v u => (mL μ (27 + 8 * i) 9).getLsbD v && ((mL μ (27 + 8 * i) 9) &&& ptF μ (27 + 8 * i) k (gx G (iN + 2)).toNat (gx G (iN + 3)) v).getLsbD u) (2 ^ k)))) 79 (6 * i + j) < 8 from hu) (show ∀ a b, mR (wL μ 93 0 (BitVec.ofInt 64 (pairS (fun v u => (mL μ (27 + 8 * i) 9).getLsbD v && ((mL μ (27 + 8 * i) 9) &&& ptF μ (27 + 8 * i) k (gx G (iN + 2)).toNat (gx G (iN + 3)) v).getLsbD u) (2 ^ k)))) a b = R0 pg a b from hR) (hx _) (hx _)
        rw [← hg] at hMo
        refine ⟨rfl, _, rfl, _, hMo, ?_⟩
        intro r' n' m' h'
        obtain ⟨rfl, h'⟩ := h'
        obtain ⟨b1, rfl, rfl⟩ | ⟨b1, b2, rfl, rfl⟩ | ⟨b1, b2, rfl, rfl⟩ := h'
        · exfalso; first | exact absurd b1 a1 | exact absurd b1 a2 | exact absurd a1 b1 | exact absurd a2 b1 | omega | (exact absurd (conv.mp b1) a1) | (exact absurd (conv.mp b1) a2) | (exact absurd (conv.mpr a1) b1) | (exact absurd (conv.mpr a2) b1)
        · exfalso; first | exact absurd b1 a1 | exact absurd b2 a1 | exact absurd b1 a2 | exact absurd b2 a2 | exact absurd a1 b1 | exact absurd a1 b2 | exact absurd a2 b1 | exact absurd a2 b2 | omega | (exact absurd (conv.mp b1) a1) | (exact absurd (conv.mp b2) a1) | (exact absurd (conv.mp b1) a2) | (exact absurd (conv.mp b2) a2) | (exact absurd (conv.mpr a1) b1) | (exact absurd (conv.mpr a1) b2) | (exact absurd (conv.mpr a2) b1) | (exact absurd (conv.mpr a2) b2)
        · exact ⟨rfl, _, rfl, rfl, fun _ => congrArg (BitVec.ofInt 64) (by rw [oW_l]; exact solve_eq hW h6 (by omega) a2.1 a2.2), Or.inl ⟨_, rfl⟩⟩
    · obtain ⟨a1, hr, hm⟩ | ⟨a1, a2, hr, hm⟩ | ⟨a1, a2, hr, hm⟩ := hQ
      · cases hr
        rw [hm]
        have hMo := g_Mo_solve (G := G) (pg := pg) (μ := μ) (d := d - 1) (i := i) (k := k) (w := (gx G (iN + 2))) (q := (gx G (iN + 3))) (by omega) (show (i : Int) < mI μ 67 11 from lt_of_e hi9 hDD) (show mI μ 67 11 ≤ 4 from le_of_e h49 hDD) (show mI μ 78 i = (k : Int) from hk') h6 (show ∀ j, j < 256 → 0 ≤ mI μ 83 j ∧ mI μ 83 j < 64 from hse) (show ∀ j, j < 6 → 0 ≤ mI μ 79 (6 * i + j) ∧ mI μ 79 (6 * i + j) < 8 from hu) (show ∀ a b, mR μ a b = R0 pg a b from hR) (hx _) (hx _)
        rw [← hg] at hMo
        refine ⟨rfl, _, rfl, _, hMo, ?_⟩
        intro r' n' m' h'
        obtain ⟨rfl, h'⟩ := h'
        obtain ⟨b1, rfl, rfl⟩ | ⟨b1, b2, rfl, rfl⟩ | ⟨b1, b2, rfl, rfl⟩ := h'
        · exact ⟨rfl, _, rfl, rfl, fun q => absurd q (by decide), Or.inr ⟨_, rfl⟩⟩
        · exfalso; first | exact absurd b1 a1 | exact absurd b2 a1 | exact absurd a1 b1 | exact absurd a1 b2 | omega | (exact absurd (conv.mp b1) a1) | (exact absurd (conv.mp b2) a1) | (exact absurd (conv.mpr a1) b1) | (exact absurd (conv.mpr a1) b2)
        · exfalso; first | exact absurd b1 a1 | exact absurd b2 a1 | exact absurd a1 b1 | exact absurd a1 b2 | omega | (exact absurd (conv.mp b1) a1) | (exact absurd (conv.mp b2) a1) | (exact absurd (conv.mpr a1) b1) | (exact absurd (conv.mpr a1) b2)
      · cases hr
        rw [hm]
        have hMo := g_Mo_solve (G := G) (pg := pg) (μ := μ) (d := d - 1) (i := i) (k := k) (w := (gx G (iN + 2))) (q := (gx G (iN + 3))) (by omega) (show (i : Int) < mI μ 67 11 from lt_of_e hi9 hDD) (show mI μ 67 11 ≤ 4 from le_of_e h49 hDD) (show mI μ 78 i = (k : Int) from hk') h6 (show ∀ j, j < 256 → 0 ≤ mI μ 83 j ∧ mI μ 83 j < 64 from hse) (show ∀ j, j < 6 → 0 ≤ mI μ 79 (6 * i + j) ∧ mI μ 79 (6 * i + j) < 8 from hu) (show ∀ a b, mR μ a b = R0 pg a b from hR) (hx _) (hx _)
        rw [← hg] at hMo
        refine ⟨rfl, _, rfl, _, hMo, ?_⟩
        intro r' n' m' h'
        obtain ⟨rfl, h'⟩ := h'
        obtain ⟨b1, rfl, rfl⟩ | ⟨b1, b2, rfl, rfl⟩ | ⟨b1, b2, rfl, rfl⟩ := h'
        · exfalso; first | exact absurd b1 a1 | exact absurd b1 a2 | exact absurd a1 b1 | exact absurd a2 b1 | omega | (exact absurd (conv.mp b1) a1) | (exact absurd (conv.mp b1) a2) | (exact absurd (conv.mpr a1) b1) | (exact absurd (conv.mpr a2) b1)
        · exact ⟨rfl, _, rfl, rfl, fun q => absurd q (by decide), Or.inr ⟨_, rfl⟩⟩
        · exfalso; first | exact absurd b1 a1 | exact absurd b2 a1 | exact absurd b1 a2 | exact absurd b2 a2 | exact absurd a1 b1 | exact absurd a1 b2 | exact absurd a2 b1 | exact absurd a2 b2 | omega | (exact absurd (conv.mp b1) a1) | (exact absurd (conv.mp b2) a1) | (exact absurd (conv.mp b1) a2) | (exact absurd (conv.mp b2) a2) | (exact absurd (conv.mpr a1) b1) | (exact absurd (conv.mpr a1) b2) | (exact absurd (conv.mpr a2) b1) | (exact absurd (conv.mpr a2) b2)
      · cases hr
theorem s_La_17 {d bc bs : Nat} (hd : 60 ≤ d) {iN : Nat} (hi : iN + 5 ≤ gn G) (h2 : gn G ≤ 2560) (hx : ∀ j, inR (gx G j)) {o5 o6 : Option aV} {Q : aQ → Nat → aM → Prop} (hbc : 3 ≤ bc) (hbs : 18 ≤ bs) (hR : ∀ k j, mR μ k j = R0 pg k j) {i : Nat} (hg : gx G (iN + 1) = (i : Int)) (hi9 : (i : Int) < mI μ 0 10) (h49 : mI μ 0 10 ≤ 4) (hDD : mI μ 0 10 = mI μ 67 11) {k : Nat} (hk : mI μ (27 + 8 * i) 7 = (k : Int)) (hk' : mI μ 78 i = (k : Int)) (h6 : k ≤ 6) (hW : DW μ i k) (hse : ∀ j, j < 256 → 0 ≤ mI μ 83 j ∧ mI μ 83 j < 64) (hu : ∀ j, j < 6 → 0 ≤ mI μ 79 (6 * i + j) ∧ mI μ 79 (6 * i + j) < 8) (hst : ∀ c, inR (mI μ (27 + 8 * i + 4) c)) {n : Nat} (hn : mI μ 63 1 = (n : Int)) (hn' : mI μ 67 31 = (n : Int)) (hn12 : n ≤ 12) (hrec : ∀ j, inR (mI μ 91 j)) (hRW : RW μ i k n) (hlC : ∀ r, r < n → ∀ j, j < k → 0 ≤ mI μ (27 + 8 * i + 3) j ∧ okL μ (3 * r) (mI μ (27 + 8 * i + 3) j).toNat) (hlM : ∀ r, r < n → ∀ j, j < k → okM μ (oU μ i j) (mI μ 91 (3 * r)) (mI μ 91 (3 * r + 1)) (mI μ 91 (3 * r + 2))) (kk : ∀ o5 o6 m', ((∃ b, m' = wI (wL μ 93 0 b) 67 0 0) ∨ (∃ z, m' = wI μ 67 0 z)) → AW G false y_La_law d (bc - 3) (bs - 18) Q 1345 [some (aP 1000), some (aP 0), some (aP 67), some (aP 93), some (aI (iN : Int)), o5, o6] [] 94 m') : AW G false y_La_law d bc bs Q 1152 [some (aP 1000), some (aP 0), some (aP 67), some (aP 93), some (aI (iN : Int)), o5, o6] [] 94 μ := by

  have hMC := m_MC_covered (G := G) (pg := pg) (μ := μ) (d := d - 1 - 1) (i := i) (k := k) (c := n) (by omega) hi9 h49 hk h6 hR (hx (iN + 2)) (hx (iN + 3)) hst hn hn12 hlC
  rw [← hg] at hMC
  refine k_La_17 (by omega) hi h2 hbc hbs (h_La_covered (by omega) (hx _) (hx _) (hx _) hMC ?_) ?_ kk
  · intro r n1 m h
    obtain ⟨rfl, h⟩ := h
    obtain ⟨-, rfl, -⟩ | ⟨-, -, rfl, -⟩ | ⟨-, -, rfl, -⟩ := h
    · exact ⟨rfl, Or.inr (Or.inl rfl)⟩
    · exact ⟨rfl, Or.inr (Or.inr rfl)⟩
    · exact ⟨rfl, Or.inl ⟨_, rfl, bI_01 _⟩⟩
  · intro r n1 m h
    obtain ⟨rfl, ⟨z, μ1, ⟨-, hQ⟩, rfl, rfl⟩ | ⟨E, ⟨-, hQ⟩, rfl⟩⟩ := h
    · obtain ⟨a1, hr, hm⟩ | ⟨a1, a2, hr, hm⟩ | ⟨a1, a2, hr, hm⟩ := hQ
      · cases hr
      · cases hr
      · cases hr
        rw [hm]
        have hMo := g_Mo_covered (G := G) (pg := pg) (μ := (wL μ 93 0 (BitVec.ofInt 64 (bI (shW μ (27 + 8 * i) k (gx G (iN + 2)).toNat (gx G (iN + 3)) (rcW μ (27 + 8 * i) k n)))))) (d := d - 1) (i := i) (k := k) (n := n) (w := (gx G (iN + 2))) (q := (gx G (iN + 3))) (by omega) (show (i : Int) < mI (wL μ 93 0 (BitVec.ofInt 64 (bI (shW μ (27 + 8 * i) k (gx G (iN + 2)).toNat (gx G (iN + 3)) (rcW μ (27 + 8 * i) k n))))) 67 11 from lt_of_e hi9 hDD) (show mI (wL μ 93 0 (BitVec.ofInt 64 (bI (shW μ (27 + 8 * i) k (gx G (iN + 2)).toNat (gx G (iN + 3)) (rcW μ (27 + 8 * i) k n))))) 67 11 ≤ 4 from le_of_e h49 hDD) (show mI (wL μ 93 0 (BitVec.ofInt 64 (bI (shW μ (27 + 8 * i) k (gx G (iN + 2)).toNat (gx G (iN + 3)) (rcW μ (27 + 8 * i) k n))))) 78 i = (k : Int) from hk') h6 (show ∀ j, j < 256 → 0 ≤ mI (wL μ 93 0 (BitVec.ofInt 64 (bI (shW μ (27 + 8 * i) k (gx G (iN + 2)).toNat (gx G (iN + 3)) (rcW μ (27 + 8 * i) k n))))) 83 j ∧ mI (wL μ 93 0 (BitVec.ofInt 64 (bI (shW μ (27 + 8 * i) k (gx G (iN + 2)).toNat (gx G (iN + 3)) (rcW μ (27 + 8 * i) k n))))) 83 j < 64 from hse) (show ∀ j, j < 6 → 0 ≤ mI (wL μ 93 0 (BitVec.ofInt 64 (bI (shW μ (27 + 8 * i) k (gx G (iN + 2)).toNat (gx G (iN + 3)) (rcW μ (27 + 8 * i) k n))))) 79 (6 * i + j) ∧ mI (wL μ 93 0 (BitVec.ofInt 64 (bI (shW μ (27 + 8 * i) k (gx G (iN + 2)).toNat (gx G (iN + 3)) (rcW μ (27 + 8 * i) k n))))) 79 (6 * i + j) < 8 from hu) (show mI (wL μ 93 0 (BitVec.ofInt 64 (bI (shW μ (27 + 8 * i) k (gx G (iN + 2)).toNat (gx G (iN + 3)) (rcW μ (27 + 8 * i) k n))))) 67 31 = (n : Int) from hn') hn12 (show ∀ j, inR (mI (wL μ 93 0 (BitVec.ofInt 64 (bI (shW μ (27 + 8 * i) k (gx G (iN + 2)).toNat (gx G (iN + 3)) (rcW μ (27 + 8 * i) k n))))) 91 j) from hrec) (show ∀ r, r < n → ∀ j, j < k → okM (wL μ 93 0 (BitVec.ofInt 64 (bI (shW μ (27 + 8 * i) k (gx G (iN + 2)).toNat (gx G (iN + 3)) (rcW μ (27 + 8 * i) k n))))) (oU (wL μ 93 0 (BitVec.ofInt 64 (bI (shW μ (27 + 8 * i) k (gx G (iN + 2)).toNat (gx G (iN + 3)) (rcW μ (27 + 8 * i) k n))))) i j) (mI (wL μ 93 0 (BitVec.ofInt 64 (bI (shW μ (27 + 8 * i) k (gx G (iN + 2)).toNat (gx G (iN + 3)) (rcW μ (27 + 8 * i) k n))))) 91 (3 * r)) (mI (wL μ 93 0 (BitVec.ofInt 64 (bI (shW μ (27 + 8 * i) k (gx G (iN + 2)).toNat (gx G (iN + 3)) (rcW μ (27 + 8 * i) k n))))) 91 (3 * r + 1)) (mI (wL μ 93 0 (BitVec.ofInt 64 (bI (shW μ (27 + 8 * i) k (gx G (iN + 2)).toNat (gx G (iN + 3)) (rcW μ (27 + 8 * i) k n))))) 91 (3 * r + 2)) from hlM) (show ∀ a b, mR (wL μ 93 0 (BitVec.ofInt 64 (bI (shW μ (27 + 8 * i) k (gx G (iN + 2)).toNat (gx G (iN + 3)) (rcW μ (27 + 8 * i) k n))))) a b = R0 pg a b from hR) (hx _) (hx _)
        rw [← hg] at hMo
        refine ⟨rfl, _, rfl, _, hMo, ?_⟩
        intro r' n' m' h'
        obtain ⟨rfl, h'⟩ := h'
        obtain ⟨b1, rfl, rfl⟩ | ⟨b1, b2, rfl, rfl⟩ | ⟨b1, b2, rfl, rfl⟩ := h'
        · exfalso; first | exact absurd b1 a1 | exact absurd b1 a2 | exact absurd a1 b1 | exact absurd a2 b1 | omega | (exact absurd (conv.mp b1) a1) | (exact absurd (conv.mp b1) a2) | (exact absurd (conv.mpr a1) b1) | (exact absurd (conv.mpr a2) b1)
        · exfalso; first | exact absurd b1 a1 | exact absurd b2 a1 | exact absurd b1 a2 | exact absurd b2 a2 | exact absurd a1 b1 | exact absurd a1 b2 | exact absurd a2 b1 | exact absurd a2 b2 | omega | (exact absurd (conv.mp b1) a1) | (exact absurd (conv.mp b2) a1) | (exact absurd (conv.mp b1) a2) | (exact absurd (conv.mp b2) a2) | (exact absurd (conv.mpr a1) b1) | (exact absurd (conv.mpr a1) b2) | (exact absurd (conv.mpr a2) b1) | (exact absurd (conv.mpr a2) b2)
        · exact ⟨rfl, _, rfl, rfl, fun _ => congrArg (BitVec.ofInt 64) (congrArg bI (by rw [oCv_l]; exact cov_eq hW hRW h6 (by omega) a2.1 a2.2)), Or.inl ⟨_, rfl⟩, bI_01 _⟩
    · obtain ⟨a1, hr, hm⟩ | ⟨a1, a2, hr, hm⟩ | ⟨a1, a2, hr, hm⟩ := hQ
      · cases hr
        rw [hm]
        have hMo := g_Mo_covered (G := G) (pg := pg) (μ := μ) (d := d - 1) (i := i) (k := k) (n := n) (w := (gx G (iN + 2))) (q := (gx G (iN + 3))) (by omega) (show (i : Int) < mI μ 67 11 from lt_of_e hi9 hDD) (show mI μ 67 11 ≤ 4 from le_of_e h49 hDD) (show mI μ 78 i = (k : Int) from hk') h6 (show ∀ j, j < 256 → 0 ≤ mI μ 83 j ∧ mI μ 83 j < 64 from hse) (show ∀ j, j < 6 → 0 ≤ mI μ 79 (6 * i + j) ∧ mI μ 79 (6 * i + j) < 8 from hu) (show mI μ 67 31 = (n : Int) from hn') hn12 (show ∀ j, inR (mI μ 91 j) from hrec) (show ∀ r, r < n → ∀ j, j < k → okM μ (oU μ i j) (mI μ 91 (3 * r)) (mI μ 91 (3 * r + 1)) (mI μ 91 (3 * r + 2)) from hlM) (show ∀ a b, mR μ a b = R0 pg a b from hR) (hx _) (hx _)
        rw [← hg] at hMo
        refine ⟨rfl, _, rfl, _, hMo, ?_⟩
        intro r' n' m' h'
        obtain ⟨rfl, h'⟩ := h'
        obtain ⟨b1, rfl, rfl⟩ | ⟨b1, b2, rfl, rfl⟩ | ⟨b1, b2, rfl, rfl⟩ := h'
        · exact ⟨rfl, _, rfl, rfl, fun q => absurd q (by decide), Or.inr ⟨_, rfl⟩, Or.inl rfl⟩
        · exfalso; first | exact absurd b1 a1 | exact absurd b2 a1 | exact absurd a1 b1 | exact absurd a1 b2 | omega | (exact absurd (conv.mp b1) a1) | (exact absurd (conv.mp b2) a1) | (exact absurd (conv.mpr a1) b1) | (exact absurd (conv.mpr a1) b2)
        · exfalso; first | exact absurd b1 a1 | exact absurd b2 a1 | exact absurd a1 b1 | exact absurd a1 b2 | omega | (exact absurd (conv.mp b1) a1) | (exact absurd (conv.mp b2) a1) | (exact absurd (conv.mpr a1) b1) | (exact absurd (conv.mpr a1) b2)
      · cases hr
        rw [hm]
        have hMo := g_Mo_covered (G := G) (pg := pg) (μ := μ) (d := d - 1) (i := i) (k := k) (n := n) (w := (gx G (iN + 2))) (q := (gx G (iN + 3))) (by omega) (show (i : Int) < mI μ 67 11 from lt_of_e hi9 hDD) (show mI μ 67 11 ≤ 4 from le_of_e h49 hDD) (show mI μ 78 i = (k : Int) from hk') h6 (show ∀ j, j < 256 → 0 ≤ mI μ 83 j ∧ mI μ 83 j < 64 from hse) (show ∀ j, j < 6 → 0 ≤ mI μ 79 (6 * i + j) ∧ mI μ 79 (6 * i + j) < 8 from hu) (show mI μ 67 31 = (n : Int) from hn') hn12 (show ∀ j, inR (mI μ 91 j) from hrec) (show ∀ r, r < n → ∀ j, j < k → okM μ (oU μ i j) (mI μ 91 (3 * r)) (mI μ 91 (3 * r + 1)) (mI μ 91 (3 * r + 2)) from hlM) (show ∀ a b, mR μ a b = R0 pg a b from hR) (hx _) (hx _)
        rw [← hg] at hMo
        refine ⟨rfl, _, rfl, _, hMo, ?_⟩
        intro r' n' m' h'
        obtain ⟨rfl, h'⟩ := h'
        obtain ⟨b1, rfl, rfl⟩ | ⟨b1, b2, rfl, rfl⟩ | ⟨b1, b2, rfl, rfl⟩ := h'
        · exfalso; first | exact absurd b1 a1 | exact absurd b1 a2 | exact absurd a1 b1 | exact absurd a2 b1 | omega | (exact absurd (conv.mp b1) a1) | (exact absurd (conv.mp b1) a2) | (exact absurd (conv.mpr a1) b1) | (exact absurd (conv.mpr a2) b1)
        · exact ⟨rfl, _, rfl, rfl, fun q => absurd q (by decide), Or.inr ⟨_, rfl⟩, Or.inl rfl⟩
        · exfalso; first | exact absurd b1 a1 | exact absurd b2 a1 | exact absurd b1 a2 | exact absurd b2 a2 | exact absurd a1 b1 | exact absurd a1 b2 | exact absurd a2 b1 | exact absurd a2 b2 | omega | (exact absurd (conv.mp b1) a1) | (exact absurd (conv.mp b2) a1) | (exact absurd (conv.mp b1) a2) | (exact absurd (conv.mp b2) a2) | (exact absurd (conv.mpr a1) b1) | (exact absurd (conv.mpr a1) b2) | (exact absurd (conv.mpr a2) b1) | (exact absurd (conv.mpr a2) b2)
      · cases hr
theorem s_La_18 {d bc bs : Nat} (hd : 60 ≤ d) {iN : Nat} (hi : iN + 5 ≤ gn G) (h2 : gn G ≤ 2560) (hx : ∀ j, inR (gx G j)) {o5 o6 : Option aV} {Q : aQ → Nat → aM → Prop} (hbc : 3 ≤ bc) (hbs : 18 ≤ bs) (hR : ∀ k j, mR μ k j = R0 pg k j) {i : Nat} (hg : gx G (iN + 1) = (i : Int)) (hi9 : (i : Int) < mI μ 0 10) (h49 : mI μ 0 10 ≤ 4) (hDD : mI μ 0 10 = mI μ 67 11) {k : Nat} (hk : mI μ (27 + 8 * i) 7 = (k : Int)) (hk' : mI μ 78 i = (k : Int)) (h6 : k ≤ 6) (hW : DW μ i k) (hse : ∀ j, j < 256 → 0 ≤ mI μ 83 j ∧ mI μ 83 j < 64) (hu : ∀ j, j < 6 → 0 ≤ mI μ 79 (6 * i + j) ∧ mI μ 79 (6 * i + j) < 8) (hst : ∀ c, inR (mI μ (27 + 8 * i + 4) c)) {n : Nat} (hn : mI μ 63 1 = (n : Int)) (hn' : mI μ 67 31 = (n : Int)) (hn12 : n ≤ 12) (hrec : ∀ j, inR (mI μ 91 j)) (hRW : RW μ i k n) (hlC : ∀ r, r < n → ∀ j, j < k → 0 ≤ mI μ (27 + 8 * i + 3) j ∧ okL μ (3 * r) (mI μ (27 + 8 * i + 3) j).toNat) (hlM : ∀ r, r < n → ∀ j, j < k → okM μ (oU μ i j) (mI μ 91 (3 * r)) (mI μ 91 (3 * r + 1)) (mI μ 91 (3 * r + 2))) (kk : ∀ o5 o6 m', ((∃ b, m' = wI (wL μ 93 0 b) 67 0 0) ∨ (∃ z, m' = wI μ 67 0 z)) → AW G false y_La_law d (bc - 3) (bs - 18) Q 1345 [some (aP 1000), some (aP 0), some (aP 67), some (aP 93), some (aI (iN : Int)), o5, o6] [] 94 m') : AW G false y_La_law d bc bs Q 1239 [some (aP 1000), some (aP 0), some (aP 67), some (aP 93), some (aI (iN : Int)), o5, o6] [] 94 μ := by

  have hMC := m_MC_missing (G := G) (pg := pg) (μ := μ) (d := d - 1 - 1) (i := i) (k := k) (c := n) (by omega) hi9 h49 hk h6 hR (hx (iN + 2)) hst hn hn12 hlC
  rw [← hg] at hMC
  refine k_La_18 (by omega) hi h2 hbc hbs (h_La_missing (by omega) (hx _) (hx _) hMC ?_) ?_ kk
  · intro r n1 m h
    obtain ⟨rfl, h⟩ := h
    obtain ⟨-, rfl, -⟩ | ⟨-, rfl, -⟩ := h
    · exact ⟨rfl, Or.inr (Or.inr rfl)⟩
    · exact ⟨rfl, Or.inl ⟨_, rfl⟩⟩
  · intro r n1 m h
    obtain ⟨rfl, ⟨z, μ1, ⟨-, hQ⟩, rfl, rfl⟩ | ⟨E, ⟨-, hQ⟩, rfl⟩⟩ := h
    · obtain ⟨a1, hr, hm⟩ | ⟨a1, hr, hm⟩ := hQ
      · cases hr
      · cases hr
        rw [hm]
        have hMo := g_Mo_missing (G := G) (pg := pg) (μ := (wL μ 93 0 (BitVec.ofInt 64 (lsO (sF (fun j => shW μ (27 + 8 * i) k j (gx G (iN + 2)) (mL μ (27 + 8 * i) 9) && !shW μ (27 + 8 * i) k j (gx G (iN + 2)) (rcW μ (27 + 8 * i) k n)) (k - 0) 0))))) (d := d - 1) (i := i) (k := k) (n := n) (q := (gx G (iN + 2))) (by omega) (show (i : Int) < mI (wL μ 93 0 (BitVec.ofInt 64 (lsO (sF (fun j => shW μ (27 + 8 * i) k j (gx G (iN + 2)) (mL μ (27 + 8 * i) 9) && !shW μ (27 + 8 * i) k j (gx G (iN + 2)) (rcW μ (27 + 8 * i) k n)) (k - 0) 0)))) 67 11 from lt_of_e hi9 hDD) (show mI (wL μ 93 0 (BitVec.ofInt 64 (lsO (sF (fun j => shW μ (27 + 8 * i) k j (gx G (iN + 2)) (mL μ (27 + 8 * i) 9) && !shW μ (27 + 8 * i) k j (gx G (iN + 2)) (rcW μ (27 + 8 * i) k n)) (k - 0) 0)))) 67 11 ≤ 4 from le_of_e h49 hDD) (show mI (wL μ 93 0 (BitVec.ofInt 64 (lsO (sF (fun j => shW μ (27 + 8 * i) k j (gx G (iN + 2)) (mL μ (27 + 8 * i) 9) && !shW μ (27 + 8 * i) k j (gx G (iN + 2)) (rcW μ (27 + 8 * i) k n)) (k - 0) 0)))) 78 i = (k : Int) from hk') h6 (show ∀ j, j < 256 → 0 ≤ mI (wL μ 93 0 (BitVec.ofInt 64 (lsO (sF (fun j => shW μ (27 + 8 * i) k j (gx G (iN + 2)) (mL μ (27 + 8 * i) 9) && !shW μ (27 + 8 * i) k j (gx G (iN + 2)) (rcW μ (27 + 8 * i) k n)) (k - 0) 0)))) 83 j ∧ mI (wL μ 93 0 (BitVec.ofInt 64 (lsO (sF (fun j => shW μ (27 + 8 * i) k j (gx G (iN + 2)) (mL μ (27 + 8 * i) 9) && !shW μ (27 + 8 * i) k j (gx G (iN + 2)) (rcW μ (27 + 8 * i) k n)) (k - 0) 0)))) 83 j < 64 from hse) (show ∀ j, j < 6 → 0 ≤ mI (wL μ 93 0 (BitVec.ofInt 64 (lsO (sF (fun j => shW μ (27 + 8 * i) k j (gx G (iN + 2)) (mL μ (27 + 8 * i) 9) && !shW μ (27 + 8 * i) k j (gx G (iN + 2)) (rcW μ (27 + 8 * i) k n)) (k - 0) 0)))) 79 (6 * i + j) ∧ mI (wL μ 93 0 (BitVec.ofInt 64 (lsO (sF (fun j => shW μ (27 + 8 * i) k j (gx G (iN + 2)) (mL μ (27 + 8 * i) 9) && !shW μ (27 + 8 * i) k j (gx G (iN + 2)) (rcW μ (27 + 8 * i) k n)) (k - 0) 0)))) 79 (6 * i + j) < 8 from hu) (show mI (wL μ 93 0 (BitVec.ofInt 64 (lsO (sF (fun j => shW μ (27 + 8 * i) k j (gx G (iN + 2)) (mL μ (27 + 8 * i) 9) && !shW μ (27 + 8 * i) k j (gx G (iN + 2)) (rcW μ (27 + 8 * i) k n)) (k - 0) 0)))) 67 31 = (n : Int) from hn') hn12 (show ∀ j, inR (mI (wL μ 93 0 (BitVec.ofInt 64 (lsO (sF (fun j => shW μ (27 + 8 * i) k j (gx G (iN + 2)) (mL μ (27 + 8 * i) 9) && !shW μ (27 + 8 * i) k j (gx G (iN + 2)) (rcW μ (27 + 8 * i) k n)) (k - 0) 0)))) 91 j) from hrec) (show ∀ r, r < n → ∀ j, j < k → okM (wL μ 93 0 (BitVec.ofInt 64 (lsO (sF (fun j => shW μ (27 + 8 * i) k j (gx G (iN + 2)) (mL μ (27 + 8 * i) 9) && !shW μ (27 + 8 * i) k j (gx G (iN + 2)) (rcW μ (27 + 8 * i) k n)) (k - 0) 0)))) (oU (wL μ 93 0 (BitVec.ofInt 64 (lsO (sF (fun j => shW μ (27 + 8 * i) k j (gx G (iN + 2)) (mL μ (27 + 8 * i) 9) && !shW μ (27 + 8 * i) k j (gx G (iN + 2)) (rcW μ (27 + 8 * i) k n)) (k - 0) 0)))) i j) (mI (wL μ 93 0 (BitVec.ofInt 64 (lsO (sF (fun j => shW μ (27 + 8 * i) k j (gx G (iN + 2)) (mL μ (27 + 8 * i) 9) && !shW μ (27 + 8 * i) k j (gx G (iN + 2)) (rcW μ (27 + 8 * i) k n)) (k - 0) 0)))) 91 (3 * r)) (mI (wL μ 93 0 (BitVec.ofInt 64 (lsO (sF (fun j => shW μ (27 + 8 * i) k j (gx G (iN + 2)) (mL μ (27 + 8 * i) 9) && !shW μ (27 + 8 * i) k j (gx G (iN + 2)) (rcW μ (27 + 8 * i) k n)) (k - 0) 0)))) 91 (3 * r + 1)) (mI (wL μ 93 0 (BitVec.ofInt 64 (lsO (sF (fun j => shW μ (27 + 8 * i) k j (gx G (iN + 2)) (mL μ (27 + 8 * i) 9) && !shW μ (27 + 8 * i) k j (gx G (iN + 2)) (rcW μ (27 + 8 * i) k n)) (k - 0) 0)))) 91 (3 * r + 2)) from hlM) (show ∀ a b, mR (wL μ 93 0 (BitVec.ofInt 64 (lsO (sF (fun j => shW μ (27 + 8 * i) k j (gx G (iN + 2)) (mL μ (27 + 8 * i) 9) && !shW μ (27 + 8 * i) k j (gx G (iN + 2)) (rcW μ (27 + 8 * i) k n)) (k - 0) 0)))) a b = R0 pg a b from hR) (hx _)
        rw [← hg] at hMo
        refine ⟨rfl, _, rfl, _, hMo, ?_⟩
        intro r' n' m' h'
        obtain ⟨rfl, h'⟩ := h'
        obtain ⟨b1, rfl, rfl⟩ | ⟨b1, rfl, rfl⟩ := h'
        · exfalso; first | exact absurd b1 a1 | exact absurd a1 b1 | omega | (exact absurd (conv.mp b1) a1) | (exact absurd (conv.mpr a1) b1)
        · exact ⟨rfl, _, rfl, rfl, fun _ => congrArg (BitVec.ofInt 64) (congrArg lsO (miss_eq hW hRW h6 a1.1 a1.2)), Or.inl ⟨_, rfl⟩⟩
    · obtain ⟨a1, hr, hm⟩ | ⟨a1, hr, hm⟩ := hQ
      · cases hr
        rw [hm]
        have hMo := g_Mo_missing (G := G) (pg := pg) (μ := μ) (d := d - 1) (i := i) (k := k) (n := n) (q := (gx G (iN + 2))) (by omega) (show (i : Int) < mI μ 67 11 from lt_of_e hi9 hDD) (show mI μ 67 11 ≤ 4 from le_of_e h49 hDD) (show mI μ 78 i = (k : Int) from hk') h6 (show ∀ j, j < 256 → 0 ≤ mI μ 83 j ∧ mI μ 83 j < 64 from hse) (show ∀ j, j < 6 → 0 ≤ mI μ 79 (6 * i + j) ∧ mI μ 79 (6 * i + j) < 8 from hu) (show mI μ 67 31 = (n : Int) from hn') hn12 (show ∀ j, inR (mI μ 91 j) from hrec) (show ∀ r, r < n → ∀ j, j < k → okM μ (oU μ i j) (mI μ 91 (3 * r)) (mI μ 91 (3 * r + 1)) (mI μ 91 (3 * r + 2)) from hlM) (show ∀ a b, mR μ a b = R0 pg a b from hR) (hx _)
        rw [← hg] at hMo
        refine ⟨rfl, _, rfl, _, hMo, ?_⟩
        intro r' n' m' h'
        obtain ⟨rfl, h'⟩ := h'
        obtain ⟨b1, rfl, rfl⟩ | ⟨b1, rfl, rfl⟩ := h'
        · exact ⟨rfl, _, rfl, rfl, fun q => absurd q (by decide), Or.inr ⟨_, rfl⟩⟩
        · exfalso; first | exact absurd b1 a1 | exact absurd a1 b1 | omega | (exact absurd (conv.mp b1) a1) | (exact absurd (conv.mpr a1) b1)
      · cases hr
theorem s_La_9 {d bc bs : Nat} (hd : 60 ≤ d) {iN : Nat} (hi : iN + 5 ≤ gn G) (h2 : gn G ≤ 2560) (hx : ∀ j, inR (gx G j)) {o5 o6 : Option aV} {Q : aQ → Nat → aM → Prop} (hbc : 3 ≤ bc) (hbs : 18 ≤ bs) (hR : ∀ k j, mR μ k j = R0 pg k j) {i : Nat} (hg : gx G (iN + 1) = (i : Int)) (hi9 : (i : Int) < mI μ 0 10) (h49 : mI μ 0 10 ≤ 4) (hDD : mI μ 0 10 = mI μ 67 11) {k : Nat} (hk : mI μ (27 + 8 * i) 7 = (k : Int)) (hk' : mI μ 78 i = (k : Int)) (h6 : k ≤ 6) (hW : DW μ i k) (kk : ∀ o5 o6 m', ((∃ b, m' = wI (wL μ 93 0 b) 67 0 0) ∨ (∃ z, m' = wI μ 67 0 z)) → AW G false y_La_law d (bc - 3) (bs - 18) Q 1345 [some (aP 1000), some (aP 0), some (aP 67), some (aP 93), some (aI (iN : Int)), o5, o6] [] 94 m') : AW G false y_La_law d bc bs Q 656 [some (aP 1000), some (aP 0), some (aP 67), some (aP 93), some (aI (iN : Int)), o5, o6] [] 94 μ := by

  have hMC := m_MC_outcome (G := G) (pg := pg) (μ := μ) (d := d - 1 - 1) (i := i) (k := k) (by omega) hi9 h49 hk h6 hR (hx (iN + 2))
  rw [← hg] at hMC
  refine k_La_9 (by omega) hi h2 hbc hbs (h_La_outcome (by omega) (hx _) (hx _) hMC ?_) ?_ kk
  · intro r n1 m h
    obtain ⟨rfl, h⟩ := h
    obtain ⟨-, rfl, -⟩ | ⟨-, rfl, -⟩ := h
    · exact ⟨rfl, Or.inl ⟨_, rfl, if_01 _⟩⟩
    · exact ⟨rfl, Or.inr rfl⟩
  · intro r n1 m h
    obtain ⟨rfl, ⟨z, μ1, ⟨-, hQ⟩, rfl, rfl⟩ | ⟨E, ⟨-, hQ⟩, rfl⟩⟩ := h
    · obtain ⟨a1, hr, hm⟩ | ⟨a1, hr, hm⟩ := hQ
      · cases hr
        rw [hm]
        have hMo := g_Mo_outcome (G := G) (pg := pg) (μ := (wL μ 93 0 (BitVec.ofInt 64 (if (mL μ (27 + 8 * i) 8).getLsbD (gx G (iN + 2)).toNat then 1 else 0)))) (d := d - 1) (i := i) (k := k) (w := (gx G (iN + 2))) (by omega) (show (i : Int) < mI (wL μ 93 0 (BitVec.ofInt 64 (if (mL μ (27 + 8 * i) 8).getLsbD (gx G (iN + 2)).toNat then 1 else 0))) 67 11 from lt_of_e hi9 hDD) (show mI (wL μ 93 0 (BitVec.ofInt 64 (if (mL μ (27 + 8 * i) 8).getLsbD (gx G (iN + 2)).toNat then 1 else 0))) 67 11 ≤ 4 from le_of_e h49 hDD) (show mI (wL μ 93 0 (BitVec.ofInt 64 (if (mL μ (27 + 8 * i) 8).getLsbD (gx G (iN + 2)).toNat then 1 else 0))) 78 i = (k : Int) from hk') h6 (show ∀ a b, mR (wL μ 93 0 (BitVec.ofInt 64 (if (mL μ (27 + 8 * i) 8).getLsbD (gx G (iN + 2)).toNat then 1 else 0))) a b = R0 pg a b from hR) (hx _)
        rw [← hg] at hMo
        refine ⟨rfl, _, rfl, _, hMo, ?_⟩
        intro r' n' m' h'
        obtain ⟨rfl, h'⟩ := h'
        obtain ⟨b1, rfl, rfl⟩ | ⟨b1, rfl, rfl⟩ := h'
        · exact ⟨rfl, _, rfl, rfl, fun _ => congrArg (BitVec.ofInt 64) (out_eq hW h6 a1), Or.inl ⟨_, rfl⟩, if_10 _⟩
        · exfalso; first | exact absurd b1 a1 | exact absurd a1 b1 | omega | (exact absurd (conv.mp b1) a1) | (exact absurd (conv.mpr a1) b1)
      · cases hr
    · obtain ⟨a1, hr, hm⟩ | ⟨a1, hr, hm⟩ := hQ
      · cases hr
      · cases hr
        rw [hm]
        have hMo := g_Mo_outcome (G := G) (pg := pg) (μ := μ) (d := d - 1) (i := i) (k := k) (w := (gx G (iN + 2))) (by omega) (show (i : Int) < mI μ 67 11 from lt_of_e hi9 hDD) (show mI μ 67 11 ≤ 4 from le_of_e h49 hDD) (show mI μ 78 i = (k : Int) from hk') h6 (show ∀ a b, mR μ a b = R0 pg a b from hR) (hx _)
        rw [← hg] at hMo
        refine ⟨rfl, _, rfl, _, hMo, ?_⟩
        intro r' n' m' h'
        obtain ⟨rfl, h'⟩ := h'
        obtain ⟨b1, rfl, rfl⟩ | ⟨b1, rfl, rfl⟩ := h'
        · exfalso; first | exact absurd b1 a1 | exact absurd a1 b1 | omega | (exact absurd (conv.mp b1) a1) | (exact absurd (conv.mpr a1) b1)
        · exact ⟨rfl, _, rfl, rfl, fun q => absurd q (by decide), Or.inr ⟨_, rfl⟩, Or.inl rfl⟩
theorem s_La_10 {d bc bs : Nat} (hd : 60 ≤ d) {iN : Nat} (hi : iN + 5 ≤ gn G) (h2 : gn G ≤ 2560) (hx : ∀ j, inR (gx G j)) {o5 o6 : Option aV} {Q : aQ → Nat → aM → Prop} (hbc : 3 ≤ bc) (hbs : 18 ≤ bs) (hR : ∀ k j, mR μ k j = R0 pg k j) {i : Nat} (hg : gx G (iN + 1) = (i : Int)) (hi9 : (i : Int) < mI μ 0 10) (h49 : mI μ 0 10 ≤ 4) (hDD : mI μ 0 10 = mI μ 67 11) {k : Nat} (hk : mI μ (27 + 8 * i) 7 = (k : Int)) (hk' : mI μ 78 i = (k : Int)) (h6 : k ≤ 6) (hW : DW μ i k) (hse : ∀ j, j < 256 → 0 ≤ mI μ 83 j ∧ mI μ 83 j < 64) (hu : ∀ j, j < 6 → 0 ≤ mI μ 79 (6 * i + j) ∧ mI μ 79 (6 * i + j) < 8) (hse9 : ∀ j, 0 ≤ mI μ 83 j ∧ mI μ 83 j < 2147483648) (kk : ∀ o5 o6 m', ((∃ b, m' = wI (wL μ 93 0 b) 67 0 0) ∨ (∃ z, m' = wI μ 67 0 z)) → AW G false y_La_law d (bc - 3) (bs - 18) Q 1345 [some (aP 1000), some (aP 0), some (aP 67), some (aP 93), some (aI (iN : Int)), o5, o6] [] 94 m') : AW G false y_La_law d bc bs Q 731 [some (aP 1000), some (aP 0), some (aP 67), some (aP 93), some (aI (iN : Int)), o5, o6] [] 94 μ := by

  have hMC := m_MC_evaluated (G := G) (pg := pg) (μ := μ) (d := d - 1 - 1) (i := i) (k := k) (by omega) hi9 h49 hk h6 hR (hx (iN + 2)) (hx (iN + 3))
  rw [← hg] at hMC
  refine k_La_10 (by omega) hi h2 hbc hbs (h_La_evaluated (by omega) (hx _) (hx _) (hx _) hMC ?_) ?_ kk
  · intro r n1 m h
    obtain ⟨rfl, h⟩ := h
    obtain ⟨-, rfl, -⟩ | ⟨-, rfl, -⟩ := h
    · exact ⟨rfl, Or.inl ⟨_, rfl, if_01 _⟩⟩
    · exact ⟨rfl, Or.inr rfl⟩
  · intro r n1 m h
    obtain ⟨rfl, ⟨z, μ1, ⟨-, hQ⟩, rfl, rfl⟩ | ⟨E, ⟨-, hQ⟩, rfl⟩⟩ := h
    · obtain ⟨a1, hr, hm⟩ | ⟨a1, hr, hm⟩ := hQ
      · cases hr
        rw [hm]
        have hMo := g_Mo_evaluated (G := G) (pg := pg) (μ := (wL μ 93 0 (BitVec.ofInt 64 (if (mL μ (27 + 8 * i + 5) (gx G (iN + 3)).toNat).getLsbD (gx G (iN + 2)).toNat then 1 else 0)))) (d := d - 1) (i := i) (k := k) (w := (gx G (iN + 2))) (w2 := (gx G (iN + 3))) (by omega) (show (i : Int) < mI (wL μ 93 0 (BitVec.ofInt 64 (if (mL μ (27 + 8 * i + 5) (gx G (iN + 3)).toNat).getLsbD (gx G (iN + 2)).toNat then 1 else 0))) 67 11 from lt_of_e hi9 hDD) (show mI (wL μ 93 0 (BitVec.ofInt 64 (if (mL μ (27 + 8 * i + 5) (gx G (iN + 3)).toNat).getLsbD (gx G (iN + 2)).toNat then 1 else 0))) 67 11 ≤ 4 from le_of_e h49 hDD) (show mI (wL μ 93 0 (BitVec.ofInt 64 (if (mL μ (27 + 8 * i + 5) (gx G (iN + 3)).toNat).getLsbD (gx G (iN + 2)).toNat then 1 else 0))) 78 i = (k : Int) from hk') h6 (show ∀ a b, mR (wL μ 93 0 (BitVec.ofInt 64 (if (mL μ (27 + 8 * i + 5) (gx G (iN + 3)).toNat).getLsbD (gx G (iN + 2)).toNat then 1 else 0))) a b = R0 pg a b from hR) (hx _) (hx _) (show ∀ j, 0 ≤ mI (wL μ 93 0 (BitVec.ofInt 64 (if (mL μ (27 + 8 * i + 5) (gx G (iN + 3)).toNat).getLsbD (gx G (iN + 2)).toNat then 1 else 0))) 83 j ∧ mI (wL μ 93 0 (BitVec.ofInt 64 (if (mL μ (27 + 8 * i + 5) (gx G (iN + 3)).toNat).getLsbD (gx G (iN + 2)).toNat then 1 else 0))) 83 j < 2147483648 from hse9)
        rw [← hg] at hMo
        refine ⟨rfl, _, rfl, _, hMo, ?_⟩
        intro r' n' m' h'
        obtain ⟨rfl, h'⟩ := h'
        obtain ⟨b1, rfl, rfl⟩ | ⟨b1, rfl, rfl⟩ := h'
        · exact ⟨rfl, _, rfl, rfl, fun _ => congrArg (BitVec.ofInt 64) (eva_eq hW h6 a1), Or.inl ⟨_, rfl⟩, if_01 _⟩
        · exfalso; first | exact absurd b1 a1 | exact absurd a1 b1 | omega | (exact absurd (conv.mp b1) a1) | (exact absurd (conv.mpr a1) b1)
      · cases hr
    · obtain ⟨a1, hr, hm⟩ | ⟨a1, hr, hm⟩ := hQ
      · cases hr
      · cases hr
        rw [hm]
        have hMo := g_Mo_evaluated (G := G) (pg := pg) (μ := μ) (d := d - 1) (i := i) (k := k) (w := (gx G (iN + 2))) (w2 := (gx G (iN + 3))) (by omega) (show (i : Int) < mI μ 67 11 from lt_of_e hi9 hDD) (show mI μ 67 11 ≤ 4 from le_of_e h49 hDD) (show mI μ 78 i = (k : Int) from hk') h6 (show ∀ a b, mR μ a b = R0 pg a b from hR) (hx _) (hx _) (show ∀ j, 0 ≤ mI μ 83 j ∧ mI μ 83 j < 2147483648 from hse9)
        rw [← hg] at hMo
        refine ⟨rfl, _, rfl, _, hMo, ?_⟩
        intro r' n' m' h'
        obtain ⟨rfl, h'⟩ := h'
        obtain ⟨b1, rfl, rfl⟩ | ⟨b1, rfl, rfl⟩ := h'
        · exfalso; first | exact absurd b1 a1 | exact absurd a1 b1 | omega | (exact absurd (conv.mp b1) a1) | (exact absurd (conv.mpr a1) b1)
        · exact ⟨rfl, _, rfl, rfl, fun q => absurd q (by decide), Or.inr ⟨_, rfl⟩, Or.inl rfl⟩
theorem s_La_8 {d bc bs : Nat} (hd : 60 ≤ d) {iN : Nat} (hi : iN + 5 ≤ gn G) (h2 : gn G ≤ 2560) (hx : ∀ j, inR (gx G j)) {o5 o6 : Option aV} {Q : aQ → Nat → aM → Prop} (hbc : 3 ≤ bc) (hbs : 18 ≤ bs) (hR : ∀ k j, mR μ k j = R0 pg k j) {i : Nat} (hg : gx G (iN + 1) = (i : Int)) (hi9 : (i : Int) < mI μ 0 10) (h49 : mI μ 0 10 ≤ 4) (hDD : mI μ 0 10 = mI μ 67 11) {k : Nat} (hk : mI μ (27 + 8 * i) 7 = (k : Int)) (hk' : mI μ 78 i = (k : Int)) (h6 : k ≤ 6) (hW : DW μ i k) (hin : mI μ 1 2 = mI μ 67 1) (hin3 : mI μ 1 2 ≤ 3) (hvec : ∀ w, w < 2 ^ k → oK μ i w = true → ∀ x, x < 3 → mI μ (27 + 8 * i + 7) (3 * w + x) = mI μ 81 (3 * (64 * i + w) + x)) (kk : ∀ o5 o6 m', ((∃ b, m' = wI (wL μ 93 0 b) 67 0 0) ∨ (∃ z, m' = wI μ 67 0 z)) → AW G false y_La_law d (bc - 3) (bs - 18) Q 1345 [some (aP 1000), some (aP 0), some (aP 67), some (aP 93), some (aI (iN : Int)), o5, o6] [] 94 m') : AW G false y_La_law d bc bs Q 576 [some (aP 1000), some (aP 0), some (aP 67), some (aP 93), some (aI (iN : Int)), o5, o6] [] 94 μ := by

  have conv : (((0 ≤ (gx G (iN + 2)) ∧ (gx G (iN + 2)) < ((2 ^ k : Nat) : Int)) ∧ (0 ≤ (gx G (iN + 3)) ∧ (gx G (iN + 3)) < mI μ 67 1)) ↔ ((0 ≤ (gx G (iN + 2)) ∧ (gx G (iN + 2)) < ((2 ^ k : Nat) : Int)) ∧ (0 ≤ (gx G (iN + 3)) ∧ (gx G (iN + 3)) < mI μ 1 2))) := by rw [hin]
  have bits : ∀ (ν : aM), (0 ≤ (gx G (iN + 2)) ∧ (gx G (iN + 2)) < ((2 ^ k : Nat) : Int)) → ((mL μ (27 + 8 * i) 9).getLsbD (gx G (iN + 2)).toNat = true ↔ ¬ mI μ 80 (64 * i + (gx G (iN + 2)).toNat) = 0) := fun _ hw => by rw [DW_9 hW h6 (by omega)]; unfold oK; rw [decide_eq_true_iff]
  have hMC := m_MC_vector (G := G) (pg := pg) (μ := μ) (d := d - 1 - 1) (i := i) (k := k) (by omega) hi9 h49 hk h6 hR (hx (iN + 2)) (hx (iN + 3)) hin3
  rw [← hg] at hMC
  refine k_La_8 (by omega) hi h2 hbc hbs (h_La_vector (by omega) (hx _) (hx _) (hx _) hMC ?_) ?_ kk
  · intro r n1 m h
    obtain ⟨rfl, h⟩ := h
    obtain ⟨-, -, rfl, -⟩ | ⟨-, -, rfl, -⟩ | ⟨-, rfl, -⟩ := h
    · exact ⟨rfl, Or.inl ⟨_, rfl⟩⟩
    · exact ⟨rfl, Or.inr (Or.inr rfl)⟩
    · exact ⟨rfl, Or.inr (Or.inl rfl)⟩
  · intro r n1 m h
    obtain ⟨rfl, ⟨z, μ1, ⟨-, hQ⟩, rfl, rfl⟩ | ⟨E, ⟨-, hQ⟩, rfl⟩⟩ := h
    · obtain ⟨a1, a2, hr, hm⟩ | ⟨a1, a2, hr, hm⟩ | ⟨a1, hr, hm⟩ := hQ
      · cases hr
        rw [hm]
        have hMo := g_Mo_vector (G := G) (pg := pg) (μ := (wL μ 93 0 (BitVec.ofInt 64 (mI μ (27 + 8 * i + 7) (3 * (gx G (iN + 2)).toNat + (gx G (iN + 3)).toNat))))) (d := d - 1) (i := i) (k := k) (w := (gx G (iN + 2))) (w2 := (gx G (iN + 3))) (by omega) (show (i : Int) < mI (wL μ 93 0 (BitVec.ofInt 64 (mI μ (27 + 8 * i + 7) (3 * (gx G (iN + 2)).toNat + (gx G (iN + 3)).toNat)))) 67 11 from lt_of_e hi9 hDD) (show mI (wL μ 93 0 (BitVec.ofInt 64 (mI μ (27 + 8 * i + 7) (3 * (gx G (iN + 2)).toNat + (gx G (iN + 3)).toNat)))) 67 11 ≤ 4 from le_of_e h49 hDD) (show mI (wL μ 93 0 (BitVec.ofInt 64 (mI μ (27 + 8 * i + 7) (3 * (gx G (iN + 2)).toNat + (gx G (iN + 3)).toNat)))) 78 i = (k : Int) from hk') h6 (show ∀ a b, mR (wL μ 93 0 (BitVec.ofInt 64 (mI μ (27 + 8 * i + 7) (3 * (gx G (iN + 2)).toNat + (gx G (iN + 3)).toNat)))) a b = R0 pg a b from hR) (hx _) (hx _) (show mI (wL μ 93 0 (BitVec.ofInt 64 (mI μ (27 + 8 * i + 7) (3 * (gx G (iN + 2)).toNat + (gx G (iN + 3)).toNat)))) 67 1 ≤ 3 from hin ▸ hin3)
        rw [← hg] at hMo
        refine ⟨rfl, _, rfl, _, hMo, ?_⟩
        intro r' n' m' h'
        obtain ⟨rfl, h'⟩ := h'
        obtain ⟨b1, b2, rfl, rfl⟩ | ⟨b1, b2, rfl, rfl⟩ | ⟨b1, rfl, rfl⟩ := h'
        · exact ⟨rfl, _, rfl, rfl, fun _ => congrArg (BitVec.ofInt 64) (hvec _ (by omega) (by rw [← DW_9 hW h6 (by omega)]; exact a2) _ (by omega)), Or.inl ⟨_, rfl⟩⟩
        · exfalso; first | exact absurd b2 ((bits μ a1.1).mp a2) | exact absurd ((bits μ a1.1).mpr b2) a2 | exact absurd b1 a1 | exact absurd b2 a1 | exact absurd b1 a2 | exact absurd b2 a2 | exact absurd a1 b1 | exact absurd a1 b2 | exact absurd a2 b1 | exact absurd a2 b2 | omega | (exact absurd (conv.mp b1) a1) | (exact absurd (conv.mp b2) a1) | (exact absurd (conv.mp b1) a2) | (exact absurd (conv.mp b2) a2) | (exact absurd (conv.mpr a1) b1) | (exact absurd (conv.mpr a1) b2) | (exact absurd (conv.mpr a2) b1) | (exact absurd (conv.mpr a2) b2)
        · exfalso; first | exact absurd b2 ((bits μ a1.1).mp a2) | exact absurd ((bits μ a1.1).mpr b2) a2 | exact absurd b1 a1 | exact absurd b1 a2 | exact absurd a1 b1 | exact absurd a2 b1 | omega | (exact absurd (conv.mp b1) a1) | (exact absurd (conv.mp b1) a2) | (exact absurd (conv.mpr a1) b1) | (exact absurd (conv.mpr a2) b1)
      · cases hr
      · cases hr
    · obtain ⟨a1, a2, hr, hm⟩ | ⟨a1, a2, hr, hm⟩ | ⟨a1, hr, hm⟩ := hQ
      · cases hr
      · cases hr
        rw [hm]
        have hMo := g_Mo_vector (G := G) (pg := pg) (μ := μ) (d := d - 1) (i := i) (k := k) (w := (gx G (iN + 2))) (w2 := (gx G (iN + 3))) (by omega) (show (i : Int) < mI μ 67 11 from lt_of_e hi9 hDD) (show mI μ 67 11 ≤ 4 from le_of_e h49 hDD) (show mI μ 78 i = (k : Int) from hk') h6 (show ∀ a b, mR μ a b = R0 pg a b from hR) (hx _) (hx _) (show mI μ 67 1 ≤ 3 from hin ▸ hin3)
        rw [← hg] at hMo
        refine ⟨rfl, _, rfl, _, hMo, ?_⟩
        intro r' n' m' h'
        obtain ⟨rfl, h'⟩ := h'
        obtain ⟨b1, b2, rfl, rfl⟩ | ⟨b1, b2, rfl, rfl⟩ | ⟨b1, rfl, rfl⟩ := h'
        · exfalso; first | exact absurd b2 ((bits μ a1.1).mp a2) | exact absurd ((bits μ a1.1).mpr b2) a2 | exact absurd b1 a1 | exact absurd b2 a1 | exact absurd b1 a2 | exact absurd b2 a2 | exact absurd a1 b1 | exact absurd a1 b2 | exact absurd a2 b1 | exact absurd a2 b2 | omega | (exact absurd (conv.mp b1) a1) | (exact absurd (conv.mp b2) a1) | (exact absurd (conv.mp b1) a2) | (exact absurd (conv.mp b2) a2) | (exact absurd (conv.mpr a1) b1) | (exact absurd (conv.mpr a1) b2) | (exact absurd (conv.mpr a2) b1) | (exact absurd (conv.mpr a2) b2)
        · exact ⟨rfl, _, rfl, rfl, fun q => absurd q (by decide), Or.inr ⟨_, rfl⟩⟩
        · exfalso; first | exact absurd b2 ((bits μ a1.1).mp a2) | exact absurd ((bits μ a1.1).mpr b2) a2 | exact absurd b1 a1 | exact absurd b1 a2 | exact absurd a1 b1 | exact absurd a2 b1 | omega | (exact absurd (conv.mp b1) a1) | (exact absurd (conv.mp b1) a2) | (exact absurd (conv.mpr a1) b1) | (exact absurd (conv.mpr a2) b1)
      · cases hr
        rw [hm]
        have hMo := g_Mo_vector (G := G) (pg := pg) (μ := μ) (d := d - 1) (i := i) (k := k) (w := (gx G (iN + 2))) (w2 := (gx G (iN + 3))) (by omega) (show (i : Int) < mI μ 67 11 from lt_of_e hi9 hDD) (show mI μ 67 11 ≤ 4 from le_of_e h49 hDD) (show mI μ 78 i = (k : Int) from hk') h6 (show ∀ a b, mR μ a b = R0 pg a b from hR) (hx _) (hx _) (show mI μ 67 1 ≤ 3 from hin ▸ hin3)
        rw [← hg] at hMo
        refine ⟨rfl, _, rfl, _, hMo, ?_⟩
        intro r' n' m' h'
        obtain ⟨rfl, h'⟩ := h'
        obtain ⟨b1, b2, rfl, rfl⟩ | ⟨b1, b2, rfl, rfl⟩ | ⟨b1, rfl, rfl⟩ := h'
        · exfalso; first | exact absurd b2 ((bits μ a1.1).mp a2) | exact absurd ((bits μ a1.1).mpr b2) a2 | exact absurd b1 a1 | exact absurd b2 a1 | exact absurd a1 b1 | exact absurd a1 b2 | omega | (exact absurd (conv.mp b1) a1) | (exact absurd (conv.mp b2) a1) | (exact absurd (conv.mpr a1) b1) | (exact absurd (conv.mpr a1) b2)
        · exfalso; first | exact absurd b2 ((bits μ a1.1).mp a2) | exact absurd ((bits μ a1.1).mpr b2) a2 | exact absurd b1 a1 | exact absurd b2 a1 | exact absurd a1 b1 | exact absurd a1 b2 | omega | (exact absurd (conv.mp b1) a1) | (exact absurd (conv.mp b2) a1) | (exact absurd (conv.mpr a1) b1) | (exact absurd (conv.mpr a1) b2)
        · exact ⟨rfl, _, rfl, rfl, fun q => absurd q (by decide), Or.inr ⟨_, rfl⟩⟩
theorem s_La_15 {d bc bs : Nat} (hd : 60 ≤ d) {iN : Nat} (hi : iN + 5 ≤ gn G) (h2 : gn G ≤ 2560) (hx : ∀ j, inR (gx G j)) {o5 o6 : Option aV} {Q : aQ → Nat → aM → Prop} (hbc : 3 ≤ bc) (hbs : 18 ≤ bs) (hR : ∀ k j, mR μ k j = R0 pg k j) {c : Nat} (hc : mI μ 63 1 = (c : Int)) (hc' : mI μ 67 31 = (c : Int)) (hc12 : c < 12) (hm0 : ¬ mI μ 4 4 = 0) (hm0' : ¬ mI μ 67 4 = 0) (hin : mI μ 1 2 = mI μ 67 1) (hlo : ∀ j, j < 3 → mI μ 2 j = mI μ 68 j) (hhi : ∀ j, j < 3 → mI μ 3 j = mI μ 69 j) (kk : ∀ o5 o6 m', ((∃ z, m' = wI μ 67 0 z) ∨ (¬ ((((0 : Nat) : Int) < mI μ 1 2 ∧ ((gx G (iN + 1)) < mI μ 2 0 ∨ mI μ 3 0 < (gx G (iN + 1)))) ∨ (((1 : Nat) : Int) < mI μ 1 2 ∧ ((gx G (iN + 2)) < mI μ 2 1 ∨ mI μ 3 1 < (gx G (iN + 2)))) ∨ (((2 : Nat) : Int) < mI μ 1 2 ∧ ((gx G (iN + 3)) < mI μ 2 2 ∨ mI μ 3 2 < (gx G (iN + 3))))) ∧ ∃ b, m' = wI (wI (wI (wI (wI (wL (wI (wI (wI (wI μ 64 (3 * c) (gx G (iN + 1))) 64 (3 * c + 1) (gx G (iN + 2))) 64 (3 * c + 2) (gx G (iN + 3))) 63 1 ((c : Int) + 1)) 93 0 b) 67 0 0) 91 (3 * c) (gx G (iN + 1))) 91 (3 * c + 1) (gx G (iN + 2))) 91 (3 * c + 2) (gx G (iN + 3))) 67 31 ((c : Int) + 1))) → AW G false y_La_law d (bc - 3) (bs - 18) Q 1345 [some (aP 1000), some (aP 0), some (aP 67), some (aP 93), some (aI (iN : Int)), o5, o6] [] 94 m') : AW G false y_La_law d bc bs Q 1059 [some (aP 1000), some (aP 0), some (aP 67), some (aP 93), some (aI (iN : Int)), o5, o6] [] 94 μ := by

  have conv : ((((0 : Nat) : Int) < mI μ 67 1 ∧ ((gx G (iN + 1)) < mI μ 68 0 ∨ mI μ 69 0 < (gx G (iN + 1)))) ∨ (((1 : Nat) : Int) < mI μ 67 1 ∧ ((gx G (iN + 2)) < mI μ 68 1 ∨ mI μ 69 1 < (gx G (iN + 2)))) ∨ (((2 : Nat) : Int) < mI μ 67 1 ∧ ((gx G (iN + 3)) < mI μ 68 2 ∨ mI μ 69 2 < (gx G (iN + 3))))) ↔ ((((0 : Nat) : Int) < mI μ 1 2 ∧ ((gx G (iN + 1)) < mI μ 2 0 ∨ mI μ 3 0 < (gx G (iN + 1)))) ∨ (((1 : Nat) : Int) < mI μ 1 2 ∧ ((gx G (iN + 2)) < mI μ 2 1 ∨ mI μ 3 1 < (gx G (iN + 2)))) ∨ (((2 : Nat) : Int) < mI μ 1 2 ∧ ((gx G (iN + 3)) < mI μ 2 2 ∨ mI μ 3 2 < (gx G (iN + 3))))) := by rw [hin, hlo 0 (by omega), hlo 1 (by omega), hlo 2 (by omega), hhi 0 (by omega), hhi 1 (by omega), hhi 2 (by omega)]
  have hMC := m_MC_keep (G := G) (pg := pg) (μ := μ) (d := d - 1 - 1) (c := c) (by omega) (hx (iN + 1)) (hx (iN + 2)) (hx (iN + 3)) hc hc12 hm0 hR
  refine k_La_15 (by omega) hi h2 hbc hbs (h_La_keep (by omega) (hx _) (hx _) (hx _) hMC ?_) ?_ kk
  · intro r n1 m h
    obtain ⟨rfl, h⟩ := h
    obtain ⟨-, rfl, -⟩ | ⟨-, rfl, -⟩ := h
    · exact ⟨rfl, Or.inr (Or.inr rfl)⟩
    · exact ⟨rfl, Or.inl ⟨_, rfl⟩⟩
  · intro r n1 m h
    obtain ⟨rfl, ⟨z, μ1, ⟨-, hQ⟩, rfl, rfl⟩ | ⟨E, ⟨-, hQ⟩, rfl⟩⟩ := h
    · obtain ⟨a1, hr, hm⟩ | ⟨a1, hr, hm⟩ := hQ
      · cases hr
      · cases hr
        rw [hm]
        have hMo := g_Mo_keep (G := G) (pg := pg) (μ := (wL (wI (wI (wI (wI μ 64 (3 * c) (gx G (iN + 1))) 64 (3 * c + 1) (gx G (iN + 2))) 64 (3 * c + 2) (gx G (iN + 3))) 63 1 ((c : Int) + 1)) 93 0 (BitVec.ofInt 64 ((c : Int) + 1)))) (d := d - 1) (c := c) (by omega) (hx (iN + 1)) (hx (iN + 2)) (hx (iN + 3)) (show mI (wL (wI (wI (wI (wI μ 64 (3 * c) (gx G (iN + 1))) 64 (3 * c + 1) (gx G (iN + 2))) 64 (3 * c + 2) (gx G (iN + 3))) 63 1 ((c : Int) + 1)) 93 0 (BitVec.ofInt 64 ((c : Int) + 1))) 67 31 = (c : Int) from hc') hc12 (show ¬ mI (wL (wI (wI (wI (wI μ 64 (3 * c) (gx G (iN + 1))) 64 (3 * c + 1) (gx G (iN + 2))) 64 (3 * c + 2) (gx G (iN + 3))) 63 1 ((c : Int) + 1)) 93 0 (BitVec.ofInt 64 ((c : Int) + 1))) 67 4 = 0 from hm0') (show ∀ a b, mR (wL (wI (wI (wI (wI μ 64 (3 * c) (gx G (iN + 1))) 64 (3 * c + 1) (gx G (iN + 2))) 64 (3 * c + 2) (gx G (iN + 3))) 63 1 ((c : Int) + 1)) 93 0 (BitVec.ofInt 64 ((c : Int) + 1))) a b = R0 pg a b from hR)
        refine ⟨rfl, _, rfl, _, hMo, ?_⟩
        intro r' n' m' h'
        obtain ⟨rfl, h'⟩ := h'
        obtain ⟨b1, rfl, rfl⟩ | ⟨b1, rfl, rfl⟩ := h'
        · exfalso; first | exact absurd b1 a1 | exact absurd a1 b1 | omega | (exact absurd (conv.mp b1) a1) | (exact absurd (conv.mpr a1) b1)
        · exact ⟨rfl, _, rfl, rfl, fun _ => congrArg (BitVec.ofInt 64) (rfl), Or.inr ⟨a1, _, rfl⟩⟩
    · obtain ⟨a1, hr, hm⟩ | ⟨a1, hr, hm⟩ := hQ
      · cases hr
        rw [hm]
        have hMo := g_Mo_keep (G := G) (pg := pg) (μ := μ) (d := d - 1) (c := c) (by omega) (hx (iN + 1)) (hx (iN + 2)) (hx (iN + 3)) (show mI μ 67 31 = (c : Int) from hc') hc12 (show ¬ mI μ 67 4 = 0 from hm0') (show ∀ a b, mR μ a b = R0 pg a b from hR)
        refine ⟨rfl, _, rfl, _, hMo, ?_⟩
        intro r' n' m' h'
        obtain ⟨rfl, h'⟩ := h'
        obtain ⟨b1, rfl, rfl⟩ | ⟨b1, rfl, rfl⟩ := h'
        · exact ⟨rfl, _, rfl, rfl, fun q => absurd q (by decide), Or.inl ⟨_, rfl⟩⟩
        · exfalso; first | exact absurd b1 a1 | exact absurd a1 b1 | omega | (exact absurd (conv.mp b1) a1) | (exact absurd (conv.mpr a1) b1)
      · cases hr
end
