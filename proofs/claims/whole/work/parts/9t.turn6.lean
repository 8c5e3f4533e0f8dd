/-! turn of show -/
section
theorem par_of {t J L R : Nat → Int} {n f x : Nat} (h : Seg t J L R f 0 1 0 n 0 x) : ∀ q, q < n → t q = 40 → isM t q (mtF t n q) ∧ mtF t n q < n := fun q hq h40 => by
  obtain ⟨f', d', e, c', x', s1, s2, s3, s4⟩ := Seg_par h q (Nat.zero_le _) hq h40
  have hM := Seg_M s1 s2
  have := hM.1
  rw [mtF_M hM (by omega)]
  exact ⟨hM, s3⟩
theorem show_inv {pg i n f x : Nat} {μ m0 M : aM} {J L R : Nat → Int} {bb : BitVec 64} (h : Inv pg μ) (hi4 : i < 4) (hi : (i : Int) < mI μ 0 10) (hm0 : m0 = wL (wR μ 0 11 (some (27 + 8 * i + 1))) 93 0 bb) (hn : n ≤ 40) (hs : Seg (fun q => mI μ 75 (40 * i + q)) J L R f 0 1 0 n 0 x) (h4 : mI μ (27 + 8 * i + 1) 1 = ((wr J L R 40 x 0).length : Int)) (h5 : ∀ j, j < (wr J L R 40 x 0).length → mI μ (27 + 8 * i + 2) j = (wr J L R 40 x 0).getD j 0) (h6 : ∀ p, p < n → 0 ≤ mI μ 75 (40 * i + p) ∧ mI μ 75 (40 * i + p) < 65536)
    (hM : M = pgM (fun q => mI μ 75 (40 * i + q)) (kpt (fun q => mI μ 75 (40 * i + q)) n (mtF (fun q => mI μ 75 (40 * i + q)) n)) (wI (wI m0 67 0 0) 67 33 0) n) : Inv (27 + 8 * i + 1) M ∧ mI M 67 0 = 0 ∧ mL M 93 0 = bb := by
  obtain ⟨hR, hIn, hCo, hTx, hRc, hSu, hPg, hCh, hRf, hDe, h0⟩ := h
  obtain ⟨p1, p2, p3⟩ := pgM_fr (fun q => mI μ 75 (40 * i + q)) (kpt (fun q => mI μ 75 (40 * i + q)) n (mtF (fun q => mI μ 75 (40 * i + q)) n)) (wI (wI m0 67 0 0) 67 33 0) n
  rw [← hM] at p1 p2 p3
  have hsa := show_all hn hs
  have hlen := wr_len hn hs
  have E : ∀ a b, a ≠ 92 → ¬ (a = 67 ∧ (b = 33 ∨ b = 0)) → mI M a b = mI μ a b := fun a b h1 h2 => by
    rw [p1 a b h1 (by omega), mI_wI, if_neg (by omega), mI_wI, if_neg (by omega), hm0]; rfl
  have EL : ∀ a b, 27 ≤ a → a < 59 → mL M a b = mL μ a b := fun a b h1 h2 => by
    rw [p2]; show mL m0 a b = _; rw [hm0, mL_wL, if_neg (by omega)]; rfl
  have e33 : mI M 67 33 = ((wr J L R 40 x 0).length : Int) := by rw [hM, pgM_c (by rw [mI_wI, if_pos ⟨rfl, rfl⟩]) n, hsa]
  have e92 : ∀ j, j < (wr J L R 40 x 0).length → mI M 92 j = (wr J L R 40 x 0).getD j 0 := fun j hj => by rw [hM, pgM_at n j (by rw [hsa]; exact hj), hsa]
  have e01 := E 0 10 (by omega) (by omega)
  have e44 := E 4 4 (by omega) (by omega)
  refine ⟨⟨fun a b => ?_, hIn.cg (fun a b z => E a b (by omega) (by omega)), hCo.cg (fun a b z => E a b (by omega) (by omega)), hTx.cg (fun a b z => E a b (by omega) (by omega)), hRc.cg (fun a b z => E a b (by omega) (by omega)), hSu.cg (fun a b z => E a b (by omega) (by omega)), ⟨Or.inr ⟨i, hi4, rfl, by omega⟩, ?_, ?_, fun j hj => ?_⟩, ⟨fun j => ?_, fun j => ?_, fun i' hi' j => ?_⟩, hRf.cg (fun a b z => E a b (by omega) (by omega)) (fun j hj => by rw [E 90 j (by omega) (by omega)]; exact hRf.1 j hj), hDe.cg (fun a b z => E a b (by omega) (by omega)) EL (fun b _ => ⟨E 71 b (by omega) (by omega), E 72 b (by omega) (by omega)⟩) (by omega) hRf.2.2.1, ?_⟩, ?_, ?_⟩
  · rw [p3]
    show mR m0 a b = _
    rw [hm0]
    show mR (wR μ 0 11 (some (27 + 8 * i + 1))) a b = _
    rw [mR_wR]
    by_cases g : a = 0 ∧ b = 11
    · rw [if_pos g]; unfold R0; rw [if_pos g]
    · rw [if_neg g, hR a b]; unfold R0; rw [if_neg g, if_neg g]
  · rw [E _ _ (by omega) (by omega), h4, e33]
  · rw [E _ _ (by omega) (by omega), h4]; omega
  · rw [E _ _ (by omega) (by omega), h4] at hj
    rw [E (27 + 8 * i + 1 + 1) _ (by omega) (by omega), e92 j (by omega)]
    exact h5 j (by omega)
  · rw [E _ _ (by omega) (by omega)]; exact hCh.1 j
  · rw [hM]
    refine pgM_ch (fun j => ?_) h6 n (Nat.le_refl _) j
    rw [mI_wI, if_neg (by omega), mI_wI, if_neg (by omega), hm0]; exact hCh.2.1 j
  · rw [E _ _ (by omega) (by omega)]; exact hCh.2.2 i' hi' j
  · unfold Iv0 at h0 ⊢
    rw [e44, E 63 1 (by omega) (by omega)]; exact h0
  · rw [p1 67 0 (by omega) (by omega), mI_wI, if_neg (by omega), mI_wI, if_pos ⟨rfl, rfl⟩]
  · rw [p2]; show mL m0 93 0 = _; rw [hm0, mL_wL, if_pos ⟨rfl, rfl⟩]
variable {G : aG} {pg : Nat} {μ : aM}
theorem n_La_6 {d bc bs : Nat} (hd : 60 ≤ d) {iN : Nat} (hi : iN + 5 ≤ gn G) (h2 : gn G ≤ 2560) (hx : ∀ j, inR (gx G j)) {o5 o6 : Option aV} {Q : aQ → Nat → aM → Prop} (hbc : 3 ≤ bc) (hbs : 18 ≤ bs) (hI : Inv pg μ) (kk : ∀ o5 o6 m', (∃ pg', Inv pg' m') → AW G false y_La_law d (bc - 3) (bs - 18) Q 1345 [some (aP 1000), some (aP 0), some (aP 67), some (aP 93), some (aI (iN : Int)), o5, o6] [] 94 m') : AW G false y_La_law d bc bs Q 464 [some (aP 1000), some (aP 0), some (aP 67), some (aP 93), some (aI (iN : Int)), o5, o6] [] 94 μ := by
  have hIv := hI
  obtain ⟨hR, hIn, hCo, hTx, hRc, hSu, hPg, hCh, hRf, hDe, h0⟩ := hI
  by_cases hb : 0 ≤ gx G (iN + 1) ∧ gx G (iN + 1) < mI μ 0 10
  · obtain ⟨i, hg⟩ : ∃ i : Nat, gx G (iN + 1) = (i : Int) := ⟨(gx G (iN + 1)).toNat, by omega⟩
    have hi9 : (i : Int) < mI μ 0 10 := by omega
    have h49 := hDe.2.2.1
    have hi4 : i < 4 := by omega
    obtain ⟨k, -, -, -, -, -, -, J, L, R, f, x, n, w1, w2, w3, w4, w5, w6⟩ := hDe.2.2.2.1 i hi9
    have hMC := m_MC_show (G := G) (pg := pg) (μ := μ) (d := d - 1 - 1) (by omega) hi9 h49 hR
    rw [← hg] at hMC
    refine k_La_6 (by omega) hi h2 hbc hbs (h_La_show (by omega) (hx _) hMC ?_) ?_ kk
    · intro r n m h
      obtain ⟨rfl, rfl, -⟩ := h
      exact ⟨rfl, Or.inl ⟨_, rfl⟩⟩
    · intro r n1 m h
      obtain ⟨rfl, ⟨z, μ1, ⟨h, -, hm⟩, rfl, rfl⟩ | ⟨E, ⟨h, -⟩, -⟩⟩ := h
      · cases h
        rw [hm]
        have hR1 : ∀ a b, mR (wL (wR μ 0 11 (some (27 + 8 * i + 1))) 93 0 (BitVec.ofInt 64 (mI μ (27 + 8 * i + 1) 1))) a b = R0 (27 + 8 * i + 1) a b := fun a b => by
          show mR (wR μ 0 11 (some (27 + 8 * i + 1))) a b = _
          rw [mR_wR]
          by_cases g : a = 0 ∧ b = 11
          · rw [if_pos g]; unfold R0; rw [if_pos g]
          · rw [if_neg g, hR a b]; unfold R0; rw [if_neg g, if_neg g]
        have hMo := g_Mo_show (G := G) (pg := 27 + 8 * i + 1) (μ := wL (wR μ 0 11 (some (27 + 8 * i + 1))) 93 0 (BitVec.ofInt 64 (mI μ (27 + 8 * i + 1) 1))) (d := d - 1) (i := i) (n := n) (by omega) hR1 (show (i : Int) < mI μ 67 11 from lt_of_e hi9 hDe.1) (show mI μ 67 11 ≤ 4 from le_of_e h49 hDe.1) w1 (par_of w3) w2 w6
        rw [← hg] at hMo
        refine ⟨rfl, _, rfl, _, hMo, ?_⟩
        intro r' n' m' h'
        obtain ⟨rfl, rfl, hm'⟩ := h'
        obtain ⟨v1, v2, v3⟩ := show_inv hIv hi4 hi9 rfl w1 w3 w4 w5 w6 hm'
        refine ⟨rfl, _, rfl, v2, fun _ => ?_, ⟨_, v1⟩⟩
        rw [v3, w4]
        exact congrArg (BitVec.ofInt 64) (congrArg (fun (l : List Int) => ((l.length : Nat) : Int)) (show_all w1 w3).symm)
      · cases h
  · exact t_La_6 (by omega) hi h2 hx hbc hbs hb (by rw [← hDe.1]; exact hb) (fun o5 o6 m' hm => kk o5 o6 m' ⟨pg, hIv.k0 (Or.inr ⟨1, hm⟩)⟩)
end
