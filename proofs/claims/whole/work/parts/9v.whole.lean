/-! one turn of the law keeps the invariant; the whole run -/
section
variable {G : aG} {pg : Nat} {μ : aM}
set_option maxRecDepth 100000 in
theorem law_inv {d bc bs : Nat} (hd : 60 ≤ d) {iN : Nat} (hi : iN + 5 ≤ gn G) (h2 : gn G ≤ 2560) (hx : ∀ j, inR (gx G j)) {o5 o6 : Option aV} {Q : aQ → Nat → aM → Prop} (hbc : 3 ≤ bc) (hbs : 18 ≤ bs) (hI : Inv pg μ) (kk : ∀ o5 o6 m', (∃ pg', Inv pg' m') → AW G false y_La_law d (bc - 3) (bs - 18) Q 1345 [some (aP 1000), some (aP 0), some (aP 67), some (aP 93), some (aI (iN : Int)), o5, o6] [] 94 m') : AW G false y_La_law d bc bs Q 32 [some (aP 1000), some (aP 0), some (aP 67), some (aP 93), some (aI (iN : Int)), o5, o6] [] 94 μ := by
  have bw : ∀ o5 o6 m', (∃ pg', Inv pg' m') → AW G false y_La_law d bc bs Q 1345 [some (aP 1000), some (aP 0), some (aP 67), some (aP 93), some (aI (iN : Int)), o5, o6] [] 94 m' := fun o5 o6 m' h => aw_bud (Nat.sub_le _ _) (Nat.sub_le _ _) (kk o5 o6 m' h)
  have hIv := hI
  obtain ⟨hR, hIn, hCo, hTx, hRc, hSu, hPg, hCh, hRf, hDe, h0⟩ := hI
  have k1 : ∀ {z : Int} {m' : aM}, m' = wI μ 67 0 z → ∃ pg', Inv pg' m' := fun h => ⟨pg, hIv.k0 (Or.inr ⟨_, h⟩)⟩
  have k0 : ∀ {m' : aM}, ((∃ b, m' = wI (wL μ 93 0 b) 67 0 0) ∨ (∃ z, m' = wI μ 67 0 z)) → ∃ pg', Inv pg' m' := fun h => ⟨pg, hIv.k0 h⟩
  obtain ⟨ci, hci⟩ : ∃ c : Nat, mI μ 1 2 = (c : Int) := ⟨(mI μ 1 2).toNat, by have := hIn.2.1; omega⟩
  obtain ⟨cc, hcc⟩ : ∃ c : Nat, mI μ 4 4 = (c : Int) := ⟨(mI μ 4 4).toNat, by have := hCo.2.1; omega⟩
  obtain ⟨ct, hct⟩ : ∃ c : Nat, mI μ 9 1 = (c : Int) := ⟨(mI μ 9 1).toNat, by have := hTx.2.1; omega⟩
  obtain ⟨cr, hcr⟩ : ∃ c : Nat, mI μ 63 1 = (c : Int) := ⟨(mI μ 63 1).toNat, by have := hRc.2.1; omega⟩
  have hi3 : ci ≤ 3 := by have := hIn.2.2.1; omega
  have hc8 : cc ≤ 8 := by have := hCo.2.2.1; omega
  have ht40 : ct ≤ 40 := by have := hTx.2.2.1; omega
  have hr12 : cr ≤ 12 := by have := hRc.2.2.1; omega
  have h49 := hDe.2.2.1
  have hse : ∀ j, j < 256 → 0 ≤ mI μ 83 j ∧ mI μ 83 j < 64 := fun j _ => hRf.2.1 j
  have hu : ∀ i j : Nat, j < 6 → 0 ≤ mI μ 79 (6 * i + j) ∧ mI μ 79 (6 * i + j) < 8 := fun i j _ => hRf.2.2.1 _
  have hst : ∀ i : Nat, (i : Int) < mI μ 0 10 → ∀ c, inR (mI μ (27 + 8 * i + 4) c) := fun i hi c => by have := hRf.2.2.2 i (by omega) c; unfold inR; omega
  have no : ∀ {z : Int}, ¬ (0 ≤ z ∧ z < mI μ 0 10) → ¬ (0 ≤ z ∧ z < mI μ 67 11) := fun h => by rw [← hDe.1]; exact h
  have yes : (0 ≤ gx G (iN + 1) ∧ gx G (iN + 1) < mI μ 0 10) → ∃ i : Nat, gx G (iN + 1) = (i : Int) ∧ (i : Int) < mI μ 0 10 := fun h => ⟨(gx G (iN + 1)).toNat, by omega, by omega⟩
  have rw_ : ∀ (i k : Nat), (∀ j, j < k → mI μ (27 + 8 * i + 3) j = mI μ 79 (6 * i + j) ∧ mI μ 79 (6 * i + j) < mI μ 4 4) → RW μ i k cr ∧ (∀ r, r < cr → ∀ j, j < k → 0 ≤ mI μ (27 + 8 * i + 3) j ∧ okL μ (3 * r) (mI μ (27 + 8 * i + 3) j).toNat) ∧ (∀ r, r < cr → ∀ j, j < k → okM μ (oU μ i j) (mI μ 91 (3 * r)) (mI μ 91 (3 * r + 1)) (mI μ 91 (3 * r + 2))) := fun i k hL => by
    have hl : ∀ j, j < k → ((oU μ i j : Nat) : Int) < mI μ 4 4 := fun j hj => by
      have := (hL j hj).2
      have := (hRf.2.2.1 (6 * i + j)).1
      unfold oU; omega
    refine ⟨⟨fun j hj => ⟨(hL j hj).1, hRf.2.2.1 _⟩, fun j _ => hCo.2.2.2.1 j, fun j hj => ?_, fun j _ => hRc.2.2.2.1 j⟩, fun r hr j hj => ?_, fun r hr j hj => (rec_ok hIn hCo hRc (by omega) (hl j hj)).2⟩
    · obtain ⟨-, q2, q3, -⟩ := hCo.2.2.2.1 (oU μ i j)
      obtain ⟨-, ⟨o1, o2, -⟩, -, -⟩ := hCo.2.2.2.2 (oU μ i j) (hl j hj)
      rw [← q2, ← q3]
      exact ⟨o1.1, o1.2, o2.1, o2.2⟩
    · rw [(hL j hj).1]
      exact ⟨(hRf.2.2.1 _).1, (rec_ok hIn hCo hRc (by omega) (hl j hj)).1⟩
  refine law_sw hi ?_ ?_ ?_ ?_ ?_ ?_ ?_ ?_ ?_ ?_ ?_ ?_ ?_ ?_ ?_ ?_ ?_ ?_ ?_ ?_ ?_ ?_ <;> intro hsw <;> clear hsw
  · refine s_La_0 (c := ci) (by omega) hi h2 hx hbc hbs hR hci (by rw [← hIn.1]; exact hci) hi3 hCo.1 (fun o5 o6 m' h => kk o5 o6 m' ?_)
    rcases h with h | h | ⟨g1, g2, h⟩
    · exact k1 h
    · exact k1 h
    · exact ⟨pg, by rw [h]; exact in_inv hIv hci hi3 g1 g2⟩
  · refine s_La_1 (c := cc) (by omega) hi h2 hx hbc hbs hR hcc (by rw [← hCo.1]; exact hcc) hc8 hIn.1 hIn.2.1 (fun o5 o6 m' h => kk o5 o6 m' ?_)
    rcases h with h | h | h | ⟨g1, g2, g3, h⟩
    · exact k1 h
    · exact k1 h
    · exact k1 h
    · exact ⟨pg, by rw [h]; exact co_inv hIv hcc hc8 g1 g2 g3⟩
  · refine s_La_2 (n := ct) (by omega) hi h2 hx hR hct (by rw [← hTx.1]; exact hct) ht40 (fun o5 o6 m' h => bw o5 o6 m' ?_)
    rcases h with h | ⟨g1, h⟩
    · exact k1 h
    · exact ⟨pg, by rw [h]; exact tx_inv hIv hct g1⟩
  · exact s_La_3 (by omega) hi h2 hx hR hTx.1 (fun o5 o6 m' h => bw o5 o6 m' ⟨pg, by rw [h]; exact wi_inv hIv⟩)
  · exact n_La_4 hd hi h2 hx hbc hbs hIv kk
  · by_cases hb : 0 ≤ gx G (iN + 1) ∧ gx G (iN + 1) < mI μ 0 10
    · obtain ⟨i, hg, hi9⟩ := yes hb
      obtain ⟨k, h6, hk, hk', hW, hL, hV, -⟩ := hDe.2.2.2.1 i hi9
      exact s_La_5 hd hi h2 hx hbc hbs hR hg hi9 h49 hDe.1 hk hk' h6 (fun o5 o6 m' h => kk o5 o6 m' (k0 h))
    · exact t_La_5 (by omega) hi h2 hx hbc hbs hb (no hb) (fun o5 o6 m' h => kk o5 o6 m' (k1 h))
  · exact n_La_6 hd hi h2 hx hbc hbs hIv kk
  · by_cases hb : 0 ≤ gx G (iN + 1) ∧ gx G (iN + 1) < mI μ 0 10
    · obtain ⟨i, hg, hi9⟩ := yes hb
      obtain ⟨k, h6, hk, hk', hW, hL, hV, -⟩ := hDe.2.2.2.1 i hi9
      exact s_La_7 hd hi h2 hx hbc hbs hR hg hi9 h49 hDe.1 hk hk' h6 hW (fun o5 o6 m' h => kk o5 o6 m' (k0 h))
    · exact t_La_7 (by omega) hi h2 hx hbc hbs hb (no hb) (fun o5 o6 m' h => kk o5 o6 m' (k1 h))
  · by_cases hb : 0 ≤ gx G (iN + 1) ∧ gx G (iN + 1) < mI μ 0 10
    · obtain ⟨i, hg, hi9⟩ := yes hb
      obtain ⟨k, h6, hk, hk', hW, hL, hV, -⟩ := hDe.2.2.2.1 i hi9
      exact s_La_8 hd hi h2 hx hbc hbs hR hg hi9 h49 hDe.1 hk hk' h6 hW hIn.1 hIn.2.2.1 hV (fun o5 o6 m' h => kk o5 o6 m' (k0 h))
    · exact t_La_8 (by omega) hi h2 hx hbc hbs hb (no hb) (fun o5 o6 m' h => kk o5 o6 m' (k1 h))
  · by_cases hb : 0 ≤ gx G (iN + 1) ∧ gx G (iN + 1) < mI μ 0 10
    · obtain ⟨i, hg, hi9⟩ := yes hb
      obtain ⟨k, h6, hk, hk', hW, hL, hV, -⟩ := hDe.2.2.2.1 i hi9
      exact s_La_9 hd hi h2 hx hbc hbs hR hg hi9 h49 hDe.1 hk hk' h6 hW (fun o5 o6 m' h => kk o5 o6 m' (k0 h))
    · exact t_La_9 (by omega) hi h2 hx hbc hbs hb (no hb) (fun o5 o6 m' h => kk o5 o6 m' (k1 h))
  · by_cases hb : 0 ≤ gx G (iN + 1) ∧ gx G (iN + 1) < mI μ 0 10
    · obtain ⟨i, hg, hi9⟩ := yes hb
      obtain ⟨k, h6, hk, hk', hW, hL, hV, -⟩ := hDe.2.2.2.1 i hi9
      exact s_La_10 hd hi h2 hx hbc hbs hR hg hi9 h49 hDe.1 hk hk' h6 hW hse (hu i) (fun j => by have := hRf.2.1 j; omega) (fun o5 o6 m' h => kk o5 o6 m' (k0 h))
    · exact t_La_10 (by omega) hi h2 hx hbc hbs hb (no hb) (fun o5 o6 m' h => kk o5 o6 m' (k1 h))
  · by_cases hb : 0 ≤ gx G (iN + 1) ∧ gx G (iN + 1) < mI μ 0 10
    · obtain ⟨i, hg, hi9⟩ := yes hb
      obtain ⟨k, h6, hk, hk', hW, hL, hV, -⟩ := hDe.2.2.2.1 i hi9
      exact s_La_11 hd hi h2 hx hbc hbs hR hg hi9 h49 hDe.1 hk hk' h6 hW hse (hu i) (hst i hi9) (fun o5 o6 m' h => kk o5 o6 m' (k0 h))
    · exact t_La_11 (by omega) hi h2 hx hbc hbs hb (no hb) (fun o5 o6 m' h => kk o5 o6 m' (k1 h))
  · by_cases hb : 0 ≤ gx G (iN + 1) ∧ gx G (iN + 1) < mI μ 0 10
    · obtain ⟨i, hg, hi9⟩ := yes hb
      obtain ⟨k, h6, hk, hk', hW, hL, hV, -⟩ := hDe.2.2.2.1 i hi9
      refine s_La_12 hd hi h2 hx hbc hbs hR hg hi9 h49 hDe.1 hk hk' h6 hW hse (hu i) (hst i hi9) (fun o5 o6 m' h => kk o5 o6 m' ?_)
      rcases h with ⟨z, h⟩ | ⟨-, b, n, h, hn, hS⟩
      · exact k1 h
      · exact ⟨pg, su_inv hIv h hn hS⟩
    · exact t_La_12 (by omega) hi h2 hx hbc hbs hb (no hb) (fun o5 o6 m' h => kk o5 o6 m' (k1 h))
  · exact s_La_13 (by omega) hi h2 hx hR hSu.1 hSu.2.1 hSu.2.2 (fun o5 o6 m' h => bw o5 o6 m' (k1 h))
  · by_cases hb : 0 ≤ gx G (iN + 1) ∧ gx G (iN + 1) < mI μ 0 10
    · obtain ⟨i, hg, hi9⟩ := yes hb
      obtain ⟨k, h6, hk, hk', hW, hL, hV, -⟩ := hDe.2.2.2.1 i hi9
      refine s_La_14 hd hi h2 hx hbc hbs hR hg hi9 h49 hDe.1 hk hk' h6 hW hse (hu i) (hst i hi9) hRf.1 (fun o5 o6 m' h => kk o5 o6 m' ?_)
      rcases h with ⟨z, h⟩ | ⟨b, h⟩ | ⟨h4, b, h⟩
      · exact k1 h
      · exact k0 (Or.inl ⟨b, h⟩)
      · exact ⟨pg, le_inv hIv h4 h⟩
    · exact t_La_14 (by omega) hi h2 hx hbc hbs hb (no hb) (fun o5 o6 m' h => kk o5 o6 m' (k1 h))
  · by_cases hb : mI μ 63 1 = 12 ∨ mI μ 4 4 = 0
    · exact t_La_15 (by omega) hi h2 hx hbc hbs hR hb (by rw [← hRc.1, ← hCo.1]; exact hb) (fun o5 o6 m' h => kk o5 o6 m' (k1 h))
    · refine s_La_15 (c := cr) hd hi h2 hx hbc hbs hR hcr (by rw [← hRc.1]; exact hcr) (by omega) (fun q => hb (Or.inr q)) (fun q => hb (Or.inr (by rw [hCo.1]; exact q))) hIn.1 (fun j _ => hIn.2.2.2.1 j) (fun j _ => hIn.2.2.2.2.1 j) (fun o5 o6 m' h => kk o5 o6 m' ?_)
      rcases h with ⟨z, h⟩ | ⟨g, b, h⟩
      · exact k1 h
      · exact ⟨pg, by rw [h]; exact kp_inv hIv hcr (by omega) (fun q => hb (Or.inr q)) (hx _) (hx _) (hx _) g⟩
  · exact s_La_16 (by omega) hi h2 hx hR hRc.1 (fun o5 o6 m' h => bw o5 o6 m' ⟨pg, by rw [h]; exact fo_inv hIv⟩)
  · by_cases hb : 0 ≤ gx G (iN + 1) ∧ gx G (iN + 1) < mI μ 0 10
    · obtain ⟨i, hg, hi9⟩ := yes hb
      obtain ⟨k, h6, hk, hk', hW, hL, hV, -⟩ := hDe.2.2.2.1 i hi9
      refine s_La_17 hd hi h2 hx hbc hbs hR hg hi9 h49 hDe.1 hk hk' h6 hW hse (hu i) (hst i hi9) (n := cr) hcr (by rw [← hRc.1]; exact hcr) hr12 hRc.2.2.2.2.1 (rw_ i k hL).1 (rw_ i k hL).2.1 (rw_ i k hL).2.2 (fun o5 o6 m' h => kk o5 o6 m' (k0 h))
    · exact t_La_17 (by omega) hi h2 hx hbc hbs hb (no hb) (fun o5 o6 m' h => kk o5 o6 m' (k1 h))
  · by_cases hb : 0 ≤ gx G (iN + 1) ∧ gx G (iN + 1) < mI μ 0 10
    · obtain ⟨i, hg, hi9⟩ := yes hb
      obtain ⟨k, h6, hk, hk', hW, hL, hV, -⟩ := hDe.2.2.2.1 i hi9
      refine s_La_18 hd hi h2 hx hbc hbs hR hg hi9 h49 hDe.1 hk hk' h6 hW hse (hu i) (hst i hi9) (n := cr) hcr (by rw [← hRc.1]; exact hcr) hr12 hRc.2.2.2.2.1 (rw_ i k hL).1 (rw_ i k hL).2.1 (rw_ i k hL).2.2 (fun o5 o6 m' h => kk o5 o6 m' (k0 h))
    · exact t_La_18 (by omega) hi h2 hx hbc hbs hb (no hb) (fun o5 o6 m' h => kk o5 o6 m' (k1 h))
  · rcases hPg.1 with hp | ⟨i, i4, hp, -⟩
    · exact s_La_19 (by omega) hi h2 hx hR (p0 := 65) hp (by omega) rfl rfl ((hR 65 0).trans rfl) (by rw [← hPg.2.1, hp]) (fun o5 o6 m' h => bw o5 o6 m' (k1 h))
    · match i, i4 with
      | 0, _ => exact s_La_19 (by omega) hi h2 hx hR (p0 := 28) hp (by omega) rfl rfl ((hR 28 0).trans rfl) (by rw [← hPg.2.1, hp]) (fun o5 o6 m' h => bw o5 o6 m' (k1 h))
      | 1, _ => exact s_La_19 (by omega) hi h2 hx hR (p0 := 36) hp (by omega) rfl rfl ((hR 36 0).trans rfl) (by rw [← hPg.2.1, hp]) (fun o5 o6 m' h => bw o5 o6 m' (k1 h))
      | 2, _ => exact s_La_19 (by omega) hi h2 hx hR (p0 := 44) hp (by omega) rfl rfl ((hR 44 0).trans rfl) (by rw [← hPg.2.1, hp]) (fun o5 o6 m' h => bw o5 o6 m' (k1 h))
      | 3, _ => exact s_La_19 (by omega) hi h2 hx hR (p0 := 52) hp (by omega) rfl rfl ((hR 52 0).trans rfl) (by rw [← hPg.2.1, hp]) (fun o5 o6 m' h => bw o5 o6 m' (k1 h))
      | i + 4, h4 => omega
  · rcases hPg.1 with hp | ⟨i, i4, hp, -⟩
    · exact s_La_20 (by omega) hi h2 hx hR (p0 := 65) hp (by omega) rfl rfl ((hR 65 0).trans rfl) (by rw [← hPg.2.1, hp]) (by have := hPg.2.2.1; rw [hp] at this; exact this) hCh.1 hCh.2.1 (by have := hPg.2.2.2; rw [hp] at this; exact this) (fun o5 o6 m' h => bw o5 o6 m' (k1 h))
    · match i, i4 with
      | 0, _ => exact s_La_20 (by omega) hi h2 hx hR (p0 := 28) hp (by omega) rfl rfl ((hR 28 0).trans rfl) (by rw [← hPg.2.1, hp]) (by have := hPg.2.2.1; rw [hp] at this; exact this) (hCh.2.2 0 (by omega)) hCh.2.1 (by have := hPg.2.2.2; rw [hp] at this; exact this) (fun o5 o6 m' h => bw o5 o6 m' (k1 h))
      | 1, _ => exact s_La_20 (by omega) hi h2 hx hR (p0 := 36) hp (by omega) rfl rfl ((hR 36 0).trans rfl) (by rw [← hPg.2.1, hp]) (by have := hPg.2.2.1; rw [hp] at this; exact this) (hCh.2.2 1 (by omega)) hCh.2.1 (by have := hPg.2.2.2; rw [hp] at this; exact this) (fun o5 o6 m' h => bw o5 o6 m' (k1 h))
      | 2, _ => exact s_La_20 (by omega) hi h2 hx hR (p0 := 44) hp (by omega) rfl rfl ((hR 44 0).trans rfl) (by rw [← hPg.2.1, hp]) (by have := hPg.2.2.1; rw [hp] at this; exact this) (hCh.2.2 2 (by omega)) hCh.2.1 (by have := hPg.2.2.2; rw [hp] at this; exact this) (fun o5 o6 m' h => bw o5 o6 m' (k1 h))
      | 3, _ => exact s_La_20 (by omega) hi h2 hx hR (p0 := 52) hp (by omega) rfl rfl ((hR 52 0).trans rfl) (by rw [← hPg.2.1, hp]) (by have := hPg.2.2.1; rw [hp] at this; exact this) (hCh.2.2 3 (by omega)) hCh.2.1 (by have := hPg.2.2.2; rw [hp] at this; exact this) (fun o5 o6 m' h => bw o5 o6 m' (k1 h))
      | i + 4, h4 => omega
  · exact bw _ _ _ ⟨pg, hIv⟩
theorem law_whole {d bc bs : Nat} (hd : 61 ≤ d) (hbc : 94 + 3 * 513 ≤ bc) (hbs : 4085 + 18 * 513 ≤ bs) (hn : gn G ≤ 2560) (hx : ∀ j, inR (gx G j)) : AW G true y_La_law d bc bs (fun r _ _ => r = .inl (some (aI 1))) 0 [some (aP 1000), none, none, none, none, none, none] [] 0 mz := by
  refine law_start (by omega) (by omega) (by omega) ?_
  refine law_loop (K := fun _ μ => ∃ pg, Inv pg μ) hn (fun _ => rfl) ?_ 512 0 mF _ _ none none (by omega) (by omega) (by omega) (by omega) ⟨65, inv_F⟩
  intro iN μ bc' bs' o5 o6 hi hK h1 h6 kk
  obtain ⟨pg, hI⟩ := hK
  exact law_inv (by omega) hi hn hx h1 h6 hI kk
theorem whole_start {p : Program} {e : Env} {s : State} {m : MethodId} {below : List Frame} {meth : Method} {c : Code} (l : Launch) (htr : l.stackTraces = false) {b n : Nat} {xs : Nat → Int32} (hnm : meth.name = x.name) (hex : c.exceptionTable.toList = []) (hn : n ≤ 2560) (C0 : lw_At p s m meth c b n xs) :
    W p l e room_1 s m #[Value.ref b] below meth c s.heap [] 0 0 (lw_Z below #[Value.ref b] s) (entryFrame m ([Value.ref b] : List Value).toArray 7) :=
  start_of l htr hnm hex hn C0 (fun G h1 h2 => law_whole (by omega) (by omega) (by omega) (by omega) h2)
end
