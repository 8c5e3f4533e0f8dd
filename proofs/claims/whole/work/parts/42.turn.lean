/-! one turn of the law -/
section
variable {G : aG} {pg : Nat} {μ : aM}
theorem t_La_5 {d bc bs : Nat} (hd : 11 ≤ d) {iN : Nat} (hi : iN + 5 ≤ gn G) (h2 : gn G ≤ 2560) (hx : ∀ j, inR (gx G j)) {o5 o6 : Option aV} {Q : aQ → Nat → aM → Prop} (hbc : 3 ≤ bc) (hbs : 18 ≤ bs) (hb : ¬ (0 ≤ (gx G (iN + 1)) ∧ (gx G (iN + 1)) < mI μ 0 10)) (hb' : ¬ (0 ≤ (gx G (iN + 1)) ∧ (gx G (iN + 1)) < mI μ 67 11)) (kk : ∀ o5 o6 m', m' = wI μ 67 0 1 → AW G false y_La_law d (bc - 3) (bs - 18) Q 1345 [some (aP 1000), some (aP 0), some (aP 67), some (aP 93), some (aI (iN : Int)), o5, o6] [] 94 m') : AW G false y_La_law d bc bs Q 408 [some (aP 1000), some (aP 0), some (aP 67), some (aP 93), some (aI (iN : Int)), o5, o6] [] 94 μ := by
  refine k_La_5 (by omega) hi h2 hbc hbs (h_La_conditions (by omega) (hx _) (b_MC_conditions (by omega)  (hx _) hb) ?_) ?_ kk
  · intro r n m h
    obtain ⟨rfl, rfl, rfl⟩ := h
    exact ⟨rfl, Or.inr rfl⟩
  · intro r n m h
    obtain ⟨rfl, ⟨z, μ1, ⟨h, -⟩, -⟩ | ⟨E, ⟨h, -, rfl⟩, rfl⟩⟩ := h
    · cases h
    · cases h
      refine ⟨rfl, _, rfl, _, b_Mo_conditions (by omega)  (hx _) hb', ?_⟩
      intro r' n' m' h'
      obtain ⟨rfl, rfl, rfl⟩ := h'
      exact ⟨rfl, 0, rfl, rfl, fun q => absurd q (by decide), rfl⟩
theorem t_La_6 {d bc bs : Nat} (hd : 11 ≤ d) {iN : Nat} (hi : iN + 5 ≤ gn G) (h2 : gn G ≤ 2560) (hx : ∀ j, inR (gx G j)) {o5 o6 : Option aV} {Q : aQ → Nat → aM → Prop} (hbc : 3 ≤ bc) (hbs : 18 ≤ bs) (hb : ¬ (0 ≤ (gx G (iN + 1)) ∧ (gx G (iN + 1)) < mI μ 0 10)) (hb' : ¬ (0 ≤ (gx G (iN + 1)) ∧ (gx G (iN + 1)) < mI μ 67 11)) (kk : ∀ o5 o6 m', m' = wI μ 67 0 1 → AW G false y_La_law d (bc - 3) (bs - 18) Q 1345 [some (aP 1000), some (aP 0), some (aP 67), some (aP 93), some (aI (iN : Int)), o5, o6] [] 94 m') : AW G false y_La_law d bc bs Q 464 [some (aP 1000), some (aP 0), some (aP 67), some (aP 93), some (aI (iN : Int)), o5, o6] [] 94 μ := by
  refine k_La_6 (by omega) hi h2 hbc hbs (h_La_show (by omega) (hx _) (b_MC_show (by omega)  (hx _) hb) ?_) ?_ kk
  · intro r n m h
    obtain ⟨rfl, rfl, rfl⟩ := h
    exact ⟨rfl, Or.inr rfl⟩
  · intro r n m h
    obtain ⟨rfl, ⟨z, μ1, ⟨h, -⟩, -⟩ | ⟨E, ⟨h, -, rfl⟩, rfl⟩⟩ := h
    · cases h
    · cases h
      refine ⟨rfl, _, rfl, _, b_Mo_show (by omega)  (hx _) hb', ?_⟩
      intro r' n' m' h'
      obtain ⟨rfl, rfl, rfl⟩ := h'
      exact ⟨rfl, 0, rfl, rfl, fun q => absurd q (by decide), rfl⟩
theorem t_La_7 {d bc bs : Nat} (hd : 11 ≤ d) {iN : Nat} (hi : iN + 5 ≤ gn G) (h2 : gn G ≤ 2560) (hx : ∀ j, inR (gx G j)) {o5 o6 : Option aV} {Q : aQ → Nat → aM → Prop} (hbc : 3 ≤ bc) (hbs : 18 ≤ bs) (hb : ¬ (0 ≤ (gx G (iN + 1)) ∧ (gx G (iN + 1)) < mI μ 0 10)) (hb' : ¬ (0 ≤ (gx G (iN + 1)) ∧ (gx G (iN + 1)) < mI μ 67 11)) (kk : ∀ o5 o6 m', m' = wI μ 67 0 1 → AW G false y_La_law d (bc - 3) (bs - 18) Q 1345 [some (aP 1000), some (aP 0), some (aP 67), some (aP 93), some (aI (iN : Int)), o5, o6] [] 94 m') : AW G false y_La_law d bc bs Q 520 [some (aP 1000), some (aP 0), some (aP 67), some (aP 93), some (aI (iN : Int)), o5, o6] [] 94 μ := by
  refine k_La_7 (by omega) hi h2 hbc hbs (h_La_feasible (by omega) (hx _) (b_MC_feasible (by omega)  (hx _) hb) ?_) ?_ kk
  · intro r n m h
    obtain ⟨rfl, rfl, rfl⟩ := h
    exact ⟨rfl, Or.inr rfl⟩
  · intro r n m h
    obtain ⟨rfl, ⟨z, μ1, ⟨h, -⟩, -⟩ | ⟨E, ⟨h, -, rfl⟩, rfl⟩⟩ := h
    · cases h
    · cases h
      refine ⟨rfl, _, rfl, _, b_Mo_feasible (by omega)  (hx _) hb', ?_⟩
      intro r' n' m' h'
      obtain ⟨rfl, rfl, rfl⟩ := h'
      exact ⟨rfl, 0, rfl, rfl, fun q => absurd q (by decide), rfl⟩
theorem t_La_8 {d bc bs : Nat} (hd : 11 ≤ d) {iN : Nat} (hi : iN + 5 ≤ gn G) (h2 : gn G ≤ 2560) (hx : ∀ j, inR (gx G j)) {o5 o6 : Option aV} {Q : aQ → Nat → aM → Prop} (hbc : 3 ≤ bc) (hbs : 18 ≤ bs) (hb : ¬ (0 ≤ (gx G (iN + 1)) ∧ (gx G (iN + 1)) < mI μ 0 10)) (hb' : ¬ (0 ≤ (gx G (iN + 1)) ∧ (gx G (iN + 1)) < mI μ 67 11)) (kk : ∀ o5 o6 m', m' = wI μ 67 0 1 → AW G false y_La_law d (bc - 3) (bs - 18) Q 1345 [some (aP 1000), some (aP 0), some (aP 67), some (aP 93), some (aI (iN : Int)), o5, o6] [] 94 m') : AW G false y_La_law d bc bs Q 576 [some (aP 1000), some (aP 0), some (aP 67), some (aP 93), some (aI (iN : Int)), o5, o6] [] 94 μ := by
  refine k_La_8 (by omega) hi h2 hbc hbs (h_La_vector (by omega) (hx _) (hx _) (hx _) (b_MC_vector (by omega) (hx _) (hx _) (hx _) hb) ?_) ?_ kk
  · intro r n m h
    obtain ⟨rfl, rfl, rfl⟩ := h
    exact ⟨rfl, Or.inr (Or.inl rfl)⟩
  · intro r n m h
    obtain ⟨rfl, ⟨z, μ1, ⟨h, -⟩, -⟩ | ⟨E, ⟨h, -, rfl⟩, rfl⟩⟩ := h
    · cases h
    · cases h
      refine ⟨rfl, _, rfl, _, b_Mo_vector (by omega) (hx _) (hx _) (hx _) hb', ?_⟩
      intro r' n' m' h'
      obtain ⟨rfl, rfl, rfl⟩ := h'
      exact ⟨rfl, 0, rfl, rfl, fun q => absurd q (by decide), rfl⟩
theorem t_La_9 {d bc bs : Nat} (hd : 11 ≤ d) {iN : Nat} (hi : iN + 5 ≤ gn G) (h2 : gn G ≤ 2560) (hx : ∀ j, inR (gx G j)) {o5 o6 : Option aV} {Q : aQ → Nat → aM → Prop} (hbc : 3 ≤ bc) (hbs : 18 ≤ bs) (hb : ¬ (0 ≤ (gx G (iN + 1)) ∧ (gx G (iN + 1)) < mI μ 0 10)) (hb' : ¬ (0 ≤ (gx G (iN + 1)) ∧ (gx G (iN + 1)) < mI μ 67 11)) (kk : ∀ o5 o6 m', m' = wI μ 67 0 1 → AW G false y_La_law d (bc - 3) (bs - 18) Q 1345 [some (aP 1000), some (aP 0), some (aP 67), some (aP 93), some (aI (iN : Int)), o5, o6] [] 94 m') : AW G false y_La_law d bc bs Q 656 [some (aP 1000), some (aP 0), some (aP 67), some (aP 93), some (aI (iN : Int)), o5, o6] [] 94 μ := by
  refine k_La_9 (by omega) hi h2 hbc hbs (h_La_outcome (by omega) (hx _) (hx _) (b_MC_outcome (by omega) (hx _) (hx _) hb) ?_) ?_ kk
  · intro r n m h
    obtain ⟨rfl, rfl, rfl⟩ := h
    exact ⟨rfl, Or.inr rfl⟩
  · intro r n m h
    obtain ⟨rfl, ⟨z, μ1, ⟨h, -⟩, -⟩ | ⟨E, ⟨h, -, rfl⟩, rfl⟩⟩ := h
    · cases h
    · cases h
      refine ⟨rfl, _, rfl, _, b_Mo_outcome (by omega) (hx _) (hx _) hb', ?_⟩
      intro r' n' m' h'
      obtain ⟨rfl, rfl, rfl⟩ := h'
      exact ⟨rfl, 0, rfl, rfl, fun q => absurd q (by decide), rfl, Or.inl rfl⟩
theorem t_La_10 {d bc bs : Nat} (hd : 11 ≤ d) {iN : Nat} (hi : iN + 5 ≤ gn G) (h2 : gn G ≤ 2560) (hx : ∀ j, inR (gx G j)) {o5 o6 : Option aV} {Q : aQ → Nat → aM → Prop} (hbc : 3 ≤ bc) (hbs : 18 ≤ bs) (hb : ¬ (0 ≤ (gx G (iN + 1)) ∧ (gx G (iN + 1)) < mI μ 0 10)) (hb' : ¬ (0 ≤ (gx G (iN + 1)) ∧ (gx G (iN + 1)) < mI μ 67 11)) (kk : ∀ o5 o6 m', m' = wI μ 67 0 1 → AW G false y_La_law d (bc - 3) (bs - 18) Q 1345 [some (aP 1000), some (aP 0), some (aP 67), some (aP 93), some (aI (iN : Int)), o5, o6] [] 94 m') : AW G false y_La_law d bc bs Q 731 [some (aP 1000), some (aP 0), some (aP 67), some (aP 93), some (aI (iN : Int)), o5, o6] [] 94 μ := by
  refine k_La_10 (by omega) hi h2 hbc hbs (h_La_evaluated (by omega) (hx _) (hx _) (hx _) (b_MC_evaluated (by omega) (hx _) (hx _) (hx _) hb) ?_) ?_ kk
  · intro r n m h
    obtain ⟨rfl, rfl, rfl⟩ := h
    exact ⟨rfl, Or.inr rfl⟩
  · intro r n m h
    obtain ⟨rfl, ⟨z, μ1, ⟨h, -⟩, -⟩ | ⟨E, ⟨h, -, rfl⟩, rfl⟩⟩ := h
    · cases h
    · cases h
      refine ⟨rfl, _, rfl, _, b_Mo_evaluated (by omega) (hx _) (hx _) (hx _) hb', ?_⟩
      intro r' n' m' h'
      obtain ⟨rfl, rfl, rfl⟩ := h'
      exact ⟨rfl, 0, rfl, rfl, fun q => absurd q (by decide), rfl, Or.inl rfl⟩
theorem t_La_11 {d bc bs : Nat} (hd : 11 ≤ d) {iN : Nat} (hi : iN + 5 ≤ gn G) (h2 : gn G ≤ 2560) (hx : ∀ j, inR (gx G j)) {o5 o6 : Option aV} {Q : aQ → Nat → aM → Prop} (hbc : 3 ≤ bc) (hbs : 18 ≤ bs) (hb : ¬ (0 ≤ (gx G (iN + 1)) ∧ (gx G (iN + 1)) < mI μ 0 10)) (hb' : ¬ (0 ≤ (gx G (iN + 1)) ∧ (gx G (iN + 1)) < mI μ 67 11)) (kk : ∀ o5 o6 m', m' = wI μ 67 0 1 → AW G false y_La_law d (bc - 3) (bs - 18) Q 1345 [some (aP 1000), some (aP 0), some (aP 67), some (aP 93), some (aI (iN : Int)), o5, o6] [] 94 m') : AW G false y_La_law d bc bs Q 818 [some (aP 1000), some (aP 0), some (aP 67), some (aP 93), some (aI (iN : Int)), o5, o6] [] 94 μ := by
  refine k_La_11 (by omega) hi h2 hbc hbs (h_La_solve (by omega) (hx _) (hx _) (hx _) (b_MC_solve (by omega) (hx _) (hx _) (hx _) hb) ?_) ?_ kk
  · intro r n m h
    obtain ⟨rfl, rfl, rfl⟩ := h
    exact ⟨rfl, Or.inr (Or.inl rfl)⟩
  · intro r n m h
    obtain ⟨rfl, ⟨z, μ1, ⟨h, -⟩, -⟩ | ⟨E, ⟨h, -, rfl⟩, rfl⟩⟩ := h
    · cases h
    · cases h
      refine ⟨rfl, _, rfl, _, b_Mo_solve (by omega) (hx _) (hx _) (hx _) hb', ?_⟩
      intro r' n' m' h'
      obtain ⟨rfl, rfl, rfl⟩ := h'
      exact ⟨rfl, 0, rfl, rfl, fun q => absurd q (by decide), rfl⟩
theorem t_La_12 {d bc bs : Nat} (hd : 11 ≤ d) {iN : Nat} (hi : iN + 5 ≤ gn G) (h2 : gn G ≤ 2560) (hx : ∀ j, inR (gx G j)) {o5 o6 : Option aV} {Q : aQ → Nat → aM → Prop} (hbc : 3 ≤ bc) (hbs : 18 ≤ bs) (hb : ¬ (0 ≤ (gx G (iN + 1)) ∧ (gx G (iN + 1)) < mI μ 0 10)) (hb' : ¬ (0 ≤ (gx G (iN + 1)) ∧ (gx G (iN + 1)) < mI μ 67 11)) (kk : ∀ o5 o6 m', m' = wI μ 67 0 1 → AW G false y_La_law d (bc - 3) (bs - 18) Q 1345 [some (aP 1000), some (aP 0), some (aP 67), some (aP 93), some (aI (iN : Int)), o5, o6] [] 94 m') : AW G false y_La_law d bc bs Q 898 [some (aP 1000), some (aP 0), some (aP 67), some (aP 93), some (aI (iN : Int)), o5, o6] [] 94 μ := by
  refine k_La_12 (by omega) hi h2 hbc hbs (h_La_suite (by omega) (hx _) (hx _) (b_MC_suite (by omega) (hx _) (hx _) hb) ?_) ?_ kk
  · intro r n m h
    obtain ⟨rfl, rfl, rfl⟩ := h
    exact ⟨rfl, Or.inr (Or.inl rfl)⟩
  · intro r n m h
    obtain ⟨rfl, ⟨z, μ1, ⟨h, -⟩, -⟩ | ⟨E, ⟨h, -, rfl⟩, rfl⟩⟩ := h
    · cases h
    · cases h
      refine ⟨rfl, _, rfl, _, b_Mo_suite (by omega) (hx _) (hx _) hb', ?_⟩
      intro r' n' m' h'
      obtain ⟨rfl, rfl, rfl⟩ := h'
      exact ⟨rfl, 0, rfl, rfl, fun q => absurd q (by decide), rfl⟩
theorem t_La_14 {d bc bs : Nat} (hd : 11 ≤ d) {iN : Nat} (hi : iN + 5 ≤ gn G) (h2 : gn G ≤ 2560) (hx : ∀ j, inR (gx G j)) {o5 o6 : Option aV} {Q : aQ → Nat → aM → Prop} (hbc : 3 ≤ bc) (hbs : 18 ≤ bs) (hb : ¬ (0 ≤ (gx G (iN + 1)) ∧ (gx G (iN + 1)) < mI μ 0 10)) (hb' : ¬ (0 ≤ (gx G (iN + 1)) ∧ (gx G (iN + 1)) < mI μ 67 11)) (kk : ∀ o5 o6 m', m' = wI μ 67 0 1 → AW G false y_La_law d (bc - 3) (bs - 18) Q 1345 [some (aP 1000), some (aP 0), some (aP 67), some (aP 93), some (aI (iN : Int)), o5, o6] [] 94 m') : AW G false y_La_law d bc bs Q 991 [some (aP 1000), some (aP 0), some (aP 67), some (aP 93), some (aI (iN : Int)), o5, o6] [] 94 μ := by
  refine k_La_14 (by omega) hi h2 hbc hbs (h_La_least (by omega) (hx _) (hx _) (b_MC_least (by omega) (hx _) (hx _) hb) ?_) ?_ kk
  · intro r n m h
    obtain ⟨rfl, rfl, rfl⟩ := h
    exact ⟨rfl, Or.inr (Or.inl rfl)⟩
  · intro r n m h
    obtain ⟨rfl, ⟨z, μ1, ⟨h, -⟩, -⟩ | ⟨E, ⟨h, -, rfl⟩, rfl⟩⟩ := h
    · cases h
    · cases h
      refine ⟨rfl, _, rfl, _, b_Mo_least (by omega) (hx _) (hx _) hb', ?_⟩
      intro r' n' m' h'
      obtain ⟨rfl, rfl, rfl⟩ := h'
      exact ⟨rfl, 0, rfl, rfl, fun q => absurd q (by decide), rfl⟩
theorem t_La_17 {d bc bs : Nat} (hd : 11 ≤ d) {iN : Nat} (hi : iN + 5 ≤ gn G) (h2 : gn G ≤ 2560) (hx : ∀ j, inR (gx G j)) {o5 o6 : Option aV} {Q : aQ → Nat → aM → Prop} (hbc : 3 ≤ bc) (hbs : 18 ≤ bs) (hb : ¬ (0 ≤ (gx G (iN + 1)) ∧ (gx G (iN + 1)) < mI μ 0 10)) (hb' : ¬ (0 ≤ (gx G (iN + 1)) ∧ (gx G (iN + 1)) < mI μ 67 11)) (kk : ∀ o5 o6 m', m' = wI μ 67 0 1 → AW G false y_La_law d (bc - 3) (bs - 18) Q 1345 [some (aP 1000), some (aP 0), some (aP 67), some (aP 93), some (aI (iN : Int)), o5, o6] [] 94 m') : AW G false y_La_law d bc bs Q 1152 [some (aP 1000), some (aP 0), some (aP 67), some (aP 93), some (aI (iN : Int)), o5, o6] [] 94 μ := by
  refine k_La_17 (by omega) hi h2 hbc hbs (h_La_covered (by omega) (hx _) (hx _) (hx _) (b_MC_covered (by omega) (hx _) (hx _) (hx _) hb) ?_) ?_ kk
  · intro r n m h
    obtain ⟨rfl, rfl, rfl⟩ := h
    exact ⟨rfl, Or.inr (Or.inl rfl)⟩
  · intro r n m h
    obtain ⟨rfl, ⟨z, μ1, ⟨h, -⟩, -⟩ | ⟨E, ⟨h, -, rfl⟩, rfl⟩⟩ := h
    · cases h
    · cases h
      refine ⟨rfl, _, rfl, _, b_Mo_covered (by omega) (hx _) (hx _) (hx _) hb', ?_⟩
      intro r' n' m' h'
      obtain ⟨rfl, rfl, rfl⟩ := h'
      exact ⟨rfl, 0, rfl, rfl, fun q => absurd q (by decide), rfl, Or.inl rfl⟩
theorem t_La_18 {d bc bs : Nat} (hd : 11 ≤ d) {iN : Nat} (hi : iN + 5 ≤ gn G) (h2 : gn G ≤ 2560) (hx : ∀ j, inR (gx G j)) {o5 o6 : Option aV} {Q : aQ → Nat → aM → Prop} (hbc : 3 ≤ bc) (hbs : 18 ≤ bs) (hb : ¬ (0 ≤ (gx G (iN + 1)) ∧ (gx G (iN + 1)) < mI μ 0 10)) (hb' : ¬ (0 ≤ (gx G (iN + 1)) ∧ (gx G (iN + 1)) < mI μ 67 11)) (kk : ∀ o5 o6 m', m' = wI μ 67 0 1 → AW G false y_La_law d (bc - 3) (bs - 18) Q 1345 [some (aP 1000), some (aP 0), some (aP 67), some (aP 93), some (aI (iN : Int)), o5, o6] [] 94 m') : AW G false y_La_law d bc bs Q 1239 [some (aP 1000), some (aP 0), some (aP 67), some (aP 93), some (aI (iN : Int)), o5, o6] [] 94 μ := by
  refine k_La_18 (by omega) hi h2 hbc hbs (h_La_missing (by omega) (hx _) (hx _) (b_MC_missing (by omega) (hx _) (hx _) hb) ?_) ?_ kk
  · intro r n m h
    obtain ⟨rfl, rfl, rfl⟩ := h
    exact ⟨rfl, Or.inr (Or.inl rfl)⟩
  · intro r n m h
    obtain ⟨rfl, ⟨z, μ1, ⟨h, -⟩, -⟩ | ⟨E, ⟨h, -, rfl⟩, rfl⟩⟩ := h
    · cases h
    · cases h
      refine ⟨rfl, _, rfl, _, b_Mo_missing (by omega) (hx _) (hx _) hb', ?_⟩
      intro r' n' m' h'
      obtain ⟨rfl, rfl, rfl⟩ := h'
      exact ⟨rfl, 0, rfl, rfl, fun q => absurd q (by decide), rfl⟩
theorem t_La_4 {d bc bs : Nat} (hd : 11 ≤ d) {iN : Nat} (hi : iN + 5 ≤ gn G) (h2 : gn G ≤ 2560) (hx : ∀ j, inR (gx G j)) {o5 o6 : Option aV} {Q : aQ → Nat → aM → Prop} (hbc : 3 ≤ bc) (hbs : 18 ≤ bs) (hR : ∀ k j, mR μ k j = R0 pg k j) (hb : mI μ 0 10 = 4 ∨ mI μ 4 4 = 0) (hb' : mI μ 67 11 = 4 ∨ mI μ 67 4 = 0) (kk : ∀ o5 o6 m', m' = wI μ 67 0 1 → AW G false y_La_law d (bc - 3) (bs - 18) Q 1345 [some (aP 1000), some (aP 0), some (aP 67), some (aP 93), some (aI (iN : Int)), o5, o6] [] 94 m') : AW G false y_La_law d bc bs Q 336 [some (aP 1000), some (aP 0), some (aP 67), some (aP 93), some (aI (iN : Int)), o5, o6] [] 94 μ := by
  have hp : inR (if gx G (iN + 1) = 0 then (0 : Int) else 1) := by split <;> exact in_c rfl
  refine k_La_4 (by omega) hi h2 rfl hbc hbs (h_La_decision (by omega) hp (b_MC_decision (by omega) hp hb hR) ?_) ?_ kk
  · intro r n m h
    obtain ⟨rfl, rfl, rfl⟩ := h
    exact ⟨rfl, Or.inr rfl⟩
  · intro r n m h
    obtain ⟨rfl, ⟨z, μ1, ⟨h, -⟩, -⟩ | ⟨E, ⟨h, -, rfl⟩, rfl⟩⟩ := h
    · cases h
    · cases h
      refine ⟨rfl, _, rfl, _, b_Mo_decision (by omega) hp hb', ?_⟩
      intro r' n' m' h'
      obtain ⟨rfl, rfl, rfl⟩ := h'
      exact ⟨rfl, 0, rfl, rfl, fun q => absurd q (by decide), rfl⟩
theorem t_La_15 {d bc bs : Nat} (hd : 11 ≤ d) {iN : Nat} (hi : iN + 5 ≤ gn G) (h2 : gn G ≤ 2560) (hx : ∀ j, inR (gx G j)) {o5 o6 : Option aV} {Q : aQ → Nat → aM → Prop} (hbc : 3 ≤ bc) (hbs : 18 ≤ bs) (hR : ∀ k j, mR μ k j = R0 pg k j) (hb : mI μ 63 1 = 12 ∨ mI μ 4 4 = 0) (hb' : mI μ 67 31 = 12 ∨ mI μ 67 4 = 0) (kk : ∀ o5 o6 m', m' = wI μ 67 0 1 → AW G false y_La_law d (bc - 3) (bs - 18) Q 1345 [some (aP 1000), some (aP 0), some (aP 67), some (aP 93), some (aI (iN : Int)), o5, o6] [] 94 m') : AW G false y_La_law d bc bs Q 1059 [some (aP 1000), some (aP 0), some (aP 67), some (aP 93), some (aI (iN : Int)), o5, o6] [] 94 μ := by
  refine k_La_15 (by omega) hi h2 hbc hbs (h_La_keep (by omega) (hx _) (hx _) (hx _) (b_MC_keep (by omega) (hx _) (hx _) (hx _) hb hR) ?_) ?_ kk
  · intro r n m h
    obtain ⟨rfl, rfl, rfl⟩ := h
    exact ⟨rfl, Or.inr (Or.inl rfl)⟩
  · intro r n m h
    obtain ⟨rfl, ⟨z, μ1, ⟨h, -⟩, -⟩ | ⟨E, ⟨h, -, rfl⟩, rfl⟩⟩ := h
    · cases h
    · cases h
      refine ⟨rfl, _, rfl, _, b_Mo_keep (by omega) (hx _) (hx _) (hx _) hb' hR, ?_⟩
      intro r' n' m' h'
      obtain ⟨rfl, rfl, rfl⟩ := h'
      exact ⟨rfl, 0, rfl, rfl, fun q => absurd q (by decide), rfl⟩
theorem s_La_0 {d bc bs : Nat} (hd : 11 ≤ d) {iN : Nat} (hi : iN + 5 ≤ gn G) (h2 : gn G ≤ 2560) (hx : ∀ j, inR (gx G j)) {o5 o6 : Option aV} {Q : aQ → Nat → aM → Prop} (hbc : 3 ≤ bc) (hbs : 18 ≤ bs) (hR : ∀ k j, mR μ k j = R0 pg k j) {c : Nat} (hc : mI μ 1 2 = (c : Int)) (hc' : mI μ 67 1 = (c : Int)) (h3 : c ≤ 3) (he : mI μ 4 4 = mI μ 67 4) (kk : ∀ o5 o6 m', (m' = wI μ 67 0 1 ∨ m' = wI μ 67 0 2 ∨ (¬ (c = 3 ∨ 0 < mI μ 4 4) ∧ (-20 ≤ (gx G (iN + 1)) ∧ (gx G (iN + 1)) ≤ (gx G (iN + 2)) ∧ (gx G (iN + 2)) ≤ 20) ∧ m' = wI (wI (wI (wI (wL (wI (wI (wI μ 2 c (gx G (iN + 1))) 3 c (gx G (iN + 2))) 1 2 ((c : Int) + 1)) 93 0 (BitVec.ofInt 64 (c : Int))) 67 0 0) 68 c (gx G (iN + 1))) 69 c (gx G (iN + 2))) 67 1 ((c : Int) + 1))) → AW G false y_La_law d (bc - 3) (bs - 18) Q 1345 [some (aP 1000), some (aP 0), some (aP 67), some (aP 93), some (aI (iN : Int)), o5, o6] [] 94 m') : AW G false y_La_law d bc bs Q 136 [some (aP 1000), some (aP 0), some (aP 67), some (aP 93), some (aI (iN : Int)), o5, o6] [] 94 μ := by
  refine k_La_0 (by omega) hi h2 hbc hbs (h_La_input (by omega) (hx _) (hx _) (m_MC_input (by omega) (hx _) (hx _) hc h3 hR) ?_) ?_ kk
  · intro r n m h
    obtain ⟨rfl, ⟨-, rfl, -⟩ | ⟨-, -, rfl, -⟩ | ⟨-, -, rfl, -⟩⟩ := h
    · exact ⟨rfl, Or.inr (Or.inl rfl)⟩
    · exact ⟨rfl, Or.inr (Or.inr rfl)⟩
    · exact ⟨rfl, Or.inl ⟨_, rfl⟩⟩
  · intro r n m h
    obtain ⟨rfl, ⟨z, μ1, ⟨-, hQ⟩, rfl, rfl⟩ | ⟨E, ⟨-, hQ⟩, rfl⟩⟩ := h
    · obtain ⟨-, h, -⟩ | ⟨-, -, h, -⟩ | ⟨g1, g2, h, rfl⟩ := hQ
      · cases h
      · cases h
      · cases h
        refine ⟨rfl, _, rfl, _, m_Mo_input (c := c) (by omega) (hx _) (hx _) hc' h3 hR, ?_⟩
        intro r' n' m' h'
        obtain ⟨rfl, ⟨g3, -⟩ | ⟨-, g3, -⟩ | ⟨-, -, rfl, rfl⟩⟩ := h'
        · exact absurd (g3.imp id (fun q => by have q' : 0 < mI μ 67 4 := q; omega)) g1
        · exact absurd g2 g3
        · exact ⟨rfl, _, rfl, rfl, fun _ => rfl, Or.inr (Or.inr ⟨g1, g2, rfl⟩)⟩
    · obtain ⟨g1, h, rfl⟩ | ⟨g1, g2, h, rfl⟩ | ⟨g1, g2, h, -⟩ := hQ
      · cases h
        refine ⟨rfl, _, rfl, _, m_Mo_input (c := c) (by omega) (hx _) (hx _) hc' h3 hR, ?_⟩
        intro r' n' m' h'
        obtain ⟨rfl, ⟨g3, rfl, rfl⟩ | ⟨g3, -⟩ | ⟨g3, -⟩⟩ := h'
        · exact ⟨rfl, _, rfl, rfl, fun q => absurd q (by decide), Or.inl rfl⟩
        · exact absurd (g1.imp id (fun q => by omega)) g3
        · exact absurd (g1.imp id (fun q => by omega)) g3
      · cases h
        refine ⟨rfl, _, rfl, _, m_Mo_input (c := c) (by omega) (hx _) (hx _) hc' h3 hR, ?_⟩
        intro r' n' m' h'
        obtain ⟨rfl, ⟨g3, -⟩ | ⟨-, g3, rfl, rfl⟩ | ⟨-, g3, -⟩⟩ := h'
        · exact absurd (g3.imp id (fun q => by omega)) g1
        · exact ⟨rfl, _, rfl, rfl, fun q => absurd q (by decide), Or.inr (Or.inl rfl)⟩
        · exact absurd g3 g2
      · cases h
theorem s_La_1 {d bc bs : Nat} (hd : 11 ≤ d) {iN : Nat} (hi : iN + 5 ≤ gn G) (h2 : gn G ≤ 2560) (hx : ∀ j, inR (gx G j)) {o5 o6 : Option aV} {Q : aQ → Nat → aM → Prop} (hbc : 3 ≤ bc) (hbs : 18 ≤ bs) (hR : ∀ k j, mR μ k j = R0 pg k j) {c : Nat} (hc : mI μ 4 4 = (c : Int)) (hc' : mI μ 67 4 = (c : Int)) (h8 : c ≤ 8) (he : mI μ 1 2 = mI μ 67 1) (h0 : 0 ≤ mI μ 1 2) (kk : ∀ o5 o6 m', (m' = wI μ 67 0 1 ∨ m' = wI μ 67 0 2 ∨ m' = wI μ 67 0 3 ∨ (¬ c = 8 ∧ ((0 ≤ (gx G (iN + 2)) ∧ (gx G (iN + 2)) < mI μ 1 2) ∧ ((gx G (iN + 3)) = -1 ∨ (0 ≤ (gx G (iN + 3)) ∧ (gx G (iN + 3)) < mI μ 1 2))) ∧ (0 ≤ (gx G (iN + 1)) ∧ (gx G (iN + 1)) ≤ 3 ∧ -50 ≤ (gx G (iN + 4)) ∧ (gx G (iN + 4)) ≤ 50 ∧ ¬ (gx G (iN + 2)) = (gx G (iN + 3))) ∧ m' = wI (wI (wI (wI (wI (wI (wL (wI (wI (wI (wI (wI μ 5 c (gx G (iN + 1))) 6 c (gx G (iN + 2))) 7 c (gx G (iN + 3))) 8 c (gx G (iN + 4))) 4 4 ((c : Int) + 1)) 93 0 (BitVec.ofInt 64 (c : Int))) 67 0 0) 70 c (gx G (iN + 1))) 71 c (gx G (iN + 2))) 72 c (gx G (iN + 3))) 73 c (gx G (iN + 4))) 67 4 ((c : Int) + 1))) → AW G false y_La_law d (bc - 3) (bs - 18) Q 1345 [some (aP 1000), some (aP 0), some (aP 67), some (aP 93), some (aI (iN : Int)), o5, o6] [] 94 m') : AW G false y_La_law d bc bs Q 204 [some (aP 1000), some (aP 0), some (aP 67), some (aP 93), some (aI (iN : Int)), o5, o6] [] 94 μ := by
  have hT : ∀ v : Int, v = mI μ 67 1 → (((0 ≤ (gx G (iN + 2)) ∧ (gx G (iN + 2)) < mI μ 1 2) ∧ ((gx G (iN + 3)) = -1 ∨ (0 ≤ (gx G (iN + 3)) ∧ (gx G (iN + 3)) < mI μ 1 2))) ↔ ((0 ≤ (gx G (iN + 2)) ∧ (gx G (iN + 2)) < v) ∧ (-1 ≤ (gx G (iN + 3)) ∧ (gx G (iN + 3)) < v))) := fun v hv => by rw [hv, ← he]; constructor <;> intro h <;> omega
  refine k_La_1 (by omega) hi h2 hbc hbs (h_La_condition (by omega) (hx _) (hx _) (hx _) (hx _) (m_MC_condition (by omega) (hx _) (hx _) (hx _) (hx _) hc h8 hR) ?_) ?_ kk
  · intro r n m h
    obtain ⟨rfl, ⟨-, rfl, -⟩ | ⟨-, -, rfl, -⟩ | ⟨-, -, -, rfl, -⟩ | ⟨-, -, -, rfl, -⟩⟩ := h
    · exact ⟨rfl, Or.inr (Or.inl rfl)⟩
    · exact ⟨rfl, Or.inr (Or.inr (Or.inl rfl))⟩
    · exact ⟨rfl, Or.inr (Or.inr (Or.inr rfl))⟩
    · exact ⟨rfl, Or.inl ⟨_, rfl⟩⟩
  · intro r n m h
    obtain ⟨rfl, ⟨z, μ1, ⟨-, hQ⟩, rfl, rfl⟩ | ⟨E, ⟨-, hQ⟩, rfl⟩⟩ := h
    · obtain ⟨-, h, -⟩ | ⟨-, -, h, -⟩ | ⟨-, -, -, h, -⟩ | ⟨g1, g2, g3, h, rfl⟩ := hQ
      · cases h
      · cases h
      · cases h
      · cases h
        refine ⟨rfl, _, rfl, _, m_Mo_condition (c := c) (by omega) (hx _) (hx _) (hx _) (hx _) hc' h8 hR, ?_⟩
        intro r' n' m' h'
        obtain ⟨rfl, ⟨q, -⟩ | ⟨-, q, -⟩ | ⟨-, -, q, -⟩ | ⟨-, -, -, rfl, rfl⟩⟩ := h'
        · exact absurd q g1
        · exact absurd ((hT _ rfl).mp g2) q
        · exact absurd g3 q
        · exact ⟨rfl, _, rfl, rfl, fun _ => rfl, Or.inr (Or.inr (Or.inr ⟨g1, g2, g3, rfl⟩))⟩
    · obtain ⟨g1, h, rfl⟩ | ⟨g1, g2, h, rfl⟩ | ⟨g1, g2, g3, h, rfl⟩ | ⟨g1, g2, g3, h, -⟩ := hQ
      · cases h
        refine ⟨rfl, _, rfl, _, m_Mo_condition (c := c) (by omega) (hx _) (hx _) (hx _) (hx _) hc' h8 hR, ?_⟩
        intro r' n' m' h'
        obtain ⟨rfl, ⟨-, rfl, rfl⟩ | ⟨q, -⟩ | ⟨q, -⟩ | ⟨q, -⟩⟩ := h'
        · exact ⟨rfl, _, rfl, rfl, fun q => absurd q (by decide), Or.inl rfl⟩
        · exact absurd g1 q
        · exact absurd g1 q
        · exact absurd g1 q
      · cases h
        refine ⟨rfl, _, rfl, _, m_Mo_condition (c := c) (by omega) (hx _) (hx _) (hx _) (hx _) hc' h8 hR, ?_⟩
        intro r' n' m' h'
        obtain ⟨rfl, ⟨q, -⟩ | ⟨-, q, rfl, rfl⟩ | ⟨-, q, -⟩ | ⟨-, q, -⟩⟩ := h'
        · exact absurd q g1
        · exact ⟨rfl, _, rfl, rfl, fun q => absurd q (by decide), Or.inr (Or.inl rfl)⟩
        · exact absurd ((hT _ rfl).mpr q) g2
        · exact absurd ((hT _ rfl).mpr q) g2
      · cases h
        refine ⟨rfl, _, rfl, _, m_Mo_condition (c := c) (by omega) (hx _) (hx _) (hx _) (hx _) hc' h8 hR, ?_⟩
        intro r' n' m' h'
        obtain ⟨rfl, ⟨q, -⟩ | ⟨-, q, -⟩ | ⟨-, -, q, rfl, rfl⟩ | ⟨-, -, q, -⟩⟩ := h'
        · exact absurd q g1
        · exact absurd ((hT _ rfl).mp g2) q
        · exact ⟨rfl, _, rfl, rfl, fun q => absurd q (by decide), Or.inr (Or.inr (Or.inl rfl))⟩
        · exact absurd q g3
      · cases h
theorem s_La_2 {d bc bs : Nat} (hd : 11 ≤ d) {iN : Nat} (hi : iN + 5 ≤ gn G) (h2 : gn G ≤ 2560) (hx : ∀ j, inR (gx G j)) {o5 o6 : Option aV} {Q : aQ → Nat → aM → Prop} (hR : ∀ k j, mR μ k j = R0 pg k j) {n : Nat} (hn : mI μ 9 1 = (n : Int)) (hn' : mI μ 67 9 = (n : Int)) (h40 : n ≤ 40) (kk : ∀ o5 o6 m', (m' = wI μ 67 0 0 ∨ ((32 ≤ (gx G (iN + 1) % 65536) ∧ (gx G (iN + 1) % 65536) ≤ 126 ∧ n < 40) ∧ m' = wI (wI (wI (wI (wI μ 10 n (gx G (iN + 1) % 65536)) 9 1 ((n : Int) + 1)) 67 0 0) 74 n (gx G (iN + 1) % 65536)) 67 9 ((n : Int) + 1))) → AW G false y_La_law d bc bs Q 1345 [some (aP 1000), some (aP 0), some (aP 67), some (aP 93), some (aI (iN : Int)), o5, o6] [] 94 m') : AW G false y_La_law d bc bs Q 296 [some (aP 1000), some (aP 0), some (aP 67), some (aP 93), some (aI (iN : Int)), o5, o6] [] 94 μ := by
  refine k_La_2 (by omega) hi h2 (m_MC_type (by omega) hn h40 (by omega) hR) ?_ kk
  intro r n1 m h
  obtain ⟨rfl, ⟨g1, rfl, rfl⟩ | ⟨g1, rfl, rfl⟩⟩ := h
  · refine ⟨rfl, _, rfl, _, m_Mo_type (n := n) (by omega) hn' h40 (by omega) hR, ?_⟩
    intro r' n' m' h'
    obtain ⟨rfl, ⟨-, rfl, rfl⟩ | ⟨q, -⟩⟩ := h'
    · exact ⟨rfl, rfl, Or.inl rfl⟩
    · exact absurd q g1
  · have hn2 : mI (wI (wI μ 10 n (gx G (iN + 1) % 65536)) 9 1 ((n : Int) + 1)) 67 9 = (n : Int) := by rw [mI_wI, if_neg (by omega), mI_wI, if_neg (by omega)]; exact hn'
    have hR2 : ∀ k j, mR (wI (wI μ 10 n (gx G (iN + 1) % 65536)) 9 1 ((n : Int) + 1)) k j = R0 pg k j := hR
    refine ⟨rfl, _, rfl, _, m_Mo_type (μ := wI (wI μ 10 n (gx G (iN + 1) % 65536)) 9 1 ((n : Int) + 1)) (n := n) (ch := gx G (iN + 1) % 65536) (by omega) hn2 h40 (by omega) hR2, ?_⟩
    intro r' n' m' h'
    obtain ⟨rfl, ⟨q, -⟩ | ⟨-, rfl, rfl⟩⟩ := h'
    · exact absurd g1 q
    · exact ⟨rfl, rfl, Or.inr ⟨g1, rfl⟩⟩
theorem s_La_3 {d bc bs : Nat} (hd : 11 ≤ d) {iN : Nat} (hi : iN + 5 ≤ gn G) (h2 : gn G ≤ 2560) (hx : ∀ j, inR (gx G j)) {o5 o6 : Option aV} {Q : aQ → Nat → aM → Prop} (hR : ∀ k j, mR μ k j = R0 pg k j) (he : mI μ 9 1 = mI μ 67 9) (kk : ∀ o5 o6 m', m' = wI (wI (wI μ 9 1 0) 67 0 0) 67 9 0 → AW G false y_La_law d bc bs Q 1345 [some (aP 1000), some (aP 0), some (aP 67), some (aP 93), some (aI (iN : Int)), o5, o6] [] 94 m') : AW G false y_La_law d bc bs Q 323 [some (aP 1000), some (aP 0), some (aP 67), some (aP 93), some (aI (iN : Int)), o5, o6] [] 94 μ := by
  refine k_La_3 (by omega) hi h2 (m_MC_wipe (by omega) hR) ?_ kk
  intro r n1 m h
  obtain ⟨rfl, rfl, rfl⟩ := h
  refine ⟨rfl, _, rfl, _, m_Mo_wipe (by omega), ?_⟩
  intro r' n' m' h'
  obtain ⟨rfl, rfl, rfl⟩ := h'
  exact ⟨rfl, congrArg (fun z => Sum.inl (some (aI z))) he.symm, rfl⟩
theorem s_La_16 {d bc bs : Nat} (hd : 11 ≤ d) {iN : Nat} (hi : iN + 5 ≤ gn G) (h2 : gn G ≤ 2560) (hx : ∀ j, inR (gx G j)) {o5 o6 : Option aV} {Q : aQ → Nat → aM → Prop} (hR : ∀ k j, mR μ k j = R0 pg k j) (he : mI μ 63 1 = mI μ 67 31) (kk : ∀ o5 o6 m', m' = wI (wI (wI μ 63 1 0) 67 0 0) 67 31 0 → AW G false y_La_law d bc bs Q 1345 [some (aP 1000), some (aP 0), some (aP 67), some (aP 93), some (aI (iN : Int)), o5, o6] [] 94 m') : AW G false y_La_law d bc bs Q 1139 [some (aP 1000), some (aP 0), some (aP 67), some (aP 93), some (aI (iN : Int)), o5, o6] [] 94 μ := by
  refine k_La_16 (by omega) hi h2 (m_MC_forget (by omega) hR) ?_ kk
  intro r n1 m h
  obtain ⟨rfl, rfl, rfl⟩ := h
  refine ⟨rfl, _, rfl, _, m_Mo_forget (by omega), ?_⟩
  intro r' n' m' h'
  obtain ⟨rfl, rfl, rfl⟩ := h'
  exact ⟨rfl, congrArg (fun z => Sum.inl (some (aI z))) he.symm, rfl⟩
theorem s_La_13 {d bc bs : Nat} (hd : 11 ≤ d) {iN : Nat} (hi : iN + 5 ≤ gn G) (h2 : gn G ≤ 2560) (hx : ∀ j, inR (gx G j)) {o5 o6 : Option aV} {Q : aQ → Nat → aM → Prop} (hR : ∀ k j, mR μ k j = R0 pg k j) (he : mI μ 59 1 = mI μ 67 28) (h12 : mI μ 59 1 ≤ 12) (hw : ∀ j : Nat, (j : Int) < mI μ 59 1 → mI μ 60 j = mI μ 89 j) (kk : ∀ o5 o6 m', m' = wI μ 67 0 0 → AW G false y_La_law d bc bs Q 1345 [some (aP 1000), some (aP 0), some (aP 67), some (aP 93), some (aI (iN : Int)), o5, o6] [] 94 m') : AW G false y_La_law d bc bs Q 966 [some (aP 1000), some (aP 0), some (aP 67), some (aP 93), some (aI (iN : Int)), o5, o6] [] 94 μ := by
  refine k_La_13 (by omega) hi h2 (m_MC_suiteAt (by omega) (hx _) h12 hR) ?_ kk
  intro r n1 m h
  obtain ⟨rfl, rfl, rfl⟩ := h
  refine ⟨rfl, _, rfl, _, m_Mo_suiteAt (by omega) (hx _) (by omega) hR, ?_⟩
  intro r' n' m' h'
  obtain ⟨rfl, rfl, rfl⟩ := h'
  exact ⟨rfl, congrArg (fun z => Sum.inl (some (aI z))) (by rw [← he]; split; exact (hw _ (by omega)).symm; rfl), rfl⟩
theorem s_La_19 {d bc bs : Nat} (hd : 11 ≤ d) {iN : Nat} (hi : iN + 5 ≤ gn G) (h2 : gn G ≤ 2560) (hx : ∀ j, inR (gx G j)) {o5 o6 : Option aV} {Q : aQ → Nat → aM → Prop} (hR : ∀ k j, mR μ k j = R0 pg k j) {p0 : Nat} (hp : pg = p0) (hpk : p0 + 1 < 94) (hq : shL[p0]? = some (3 + 10, 0)) (hq1 : shL[p0 + 1]? = some (2, 40)) (hpr : mR μ p0 0 = some (p0 + 1)) (he : mI μ p0 1 = mI μ 67 33) (kk : ∀ o5 o6 m', m' = wI μ 67 0 0 → AW G false y_La_law d bc bs Q 1345 [some (aP 1000), some (aP 0), some (aP 67), some (aP 93), some (aI (iN : Int)), o5, o6] [] 94 m') : AW G false y_La_law d bc bs Q 1307 [some (aP 1000), some (aP 0), some (aP 67), some (aP 93), some (aI (iN : Int)), o5, o6] [] 94 μ := by
  refine k_La_19 (by omega) hi h2 (m_MC_length (by omega) hp hpk hq hq1 hpr hR) ?_ kk
  intro r n1 m h
  obtain ⟨rfl, rfl, rfl⟩ := h
  refine ⟨rfl, _, rfl, _, m_Mo_length (by omega), ?_⟩
  intro r' n' m' h'
  obtain ⟨rfl, rfl, rfl⟩ := h'
  exact ⟨rfl, congrArg (fun z => Sum.inl (some (aI z))) he.symm, rfl⟩
theorem s_La_20 {d bc bs : Nat} (hd : 11 ≤ d) {iN : Nat} (hi : iN + 5 ≤ gn G) (h2 : gn G ≤ 2560) (hx : ∀ j, inR (gx G j)) {o5 o6 : Option aV} {Q : aQ → Nat → aM → Prop} (hR : ∀ k j, mR μ k j = R0 pg k j) {p0 : Nat} (hp : pg = p0) (hpk : p0 + 1 < 94) (hq : shL[p0]? = some (3 + 10, 0)) (hq1 : shL[p0 + 1]? = some (2, 40)) (hpr : mR μ p0 0 = some (p0 + 1)) (he : mI μ p0 1 = mI μ 67 33) (h40 : mI μ p0 1 ≤ 40) (hch : ∀ j, 0 ≤ mI μ (p0 + 1) j ∧ mI μ (p0 + 1) j < 65536) (hch' : ∀ j, 0 ≤ mI μ 92 j ∧ mI μ 92 j < 65536) (hw : ∀ j : Nat, (j : Int) < mI μ p0 1 → mI μ (p0 + 1) j = mI μ 92 j) (kk : ∀ o5 o6 m', m' = wI μ 67 0 0 → AW G false y_La_law d bc bs Q 1345 [some (aP 1000), some (aP 0), some (aP 67), some (aP 93), some (aI (iN : Int)), o5, o6] [] 94 m') : AW G false y_La_law d bc bs Q 1320 [some (aP 1000), some (aP 0), some (aP 67), some (aP 93), some (aI (iN : Int)), o5, o6] [] 94 μ := by
  refine k_La_20 (by omega) hi h2 (m_MC_charAt (by omega) hp hpk hq hq1 hpr (hx _) h40 hch hR) ?_ kk
  intro r n1 m h
  obtain ⟨rfl, rfl, rfl⟩ := h
  refine ⟨rfl, _, rfl, _, m_Mo_charAt (by omega) (hx _) (by omega) hch' hR, ?_⟩
  intro r' n' m' h'
  obtain ⟨rfl, rfl, rfl⟩ := h'
  exact ⟨rfl, congrArg (fun z => Sum.inl (some (aI z))) (by rw [← he]; split; exact (hw _ (by omega)).symm; rfl), rfl⟩
end
