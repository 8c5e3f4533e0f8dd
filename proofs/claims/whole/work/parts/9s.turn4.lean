/-! turns of decision and show -/
section
variable {G : aG} {pg : Nat} {μ : aM}
theorem n_La_4 {d bc bs : Nat} (hd : 60 ≤ d) {iN : Nat} (hi : iN + 5 ≤ gn G) (h2 : gn G ≤ 2560) (hx : ∀ j, inR (gx G j)) {o5 o6 : Option aV} {Q : aQ → Nat → aM → Prop} (hbc : 3 ≤ bc) (hbs : 18 ≤ bs) (hI : Inv pg μ) (kk : ∀ o5 o6 m', (∃ pg', Inv pg' m') → AW G false y_La_law d (bc - 3) (bs - 18) Q 1345 [some (aP 1000), some (aP 0), some (aP 67), some (aP 93), some (aI (iN : Int)), o5, o6] [] 94 m') : AW G false y_La_law d bc bs Q 336 [some (aP 1000), some (aP 0), some (aP 67), some (aP 93), some (aI (iN : Int)), o5, o6] [] 94 μ := by
  have hIv := hI
  obtain ⟨hR, hIn, hCo, hTx, hRc, hSu, hPg, hCh, hRf, hDe, h0⟩ := hI
  by_cases hb : mI μ 0 10 = 4 ∨ mI μ 4 4 = 0
  · exact t_La_4 (by omega) hi h2 hx hbc hbs hR hb (by rw [← hDe.1, ← hCo.1]; exact hb) (fun o5 o6 m' hm => kk o5 o6 m' ⟨pg, hIv.k0 (Or.inr ⟨1, hm⟩)⟩)
  · obtain ⟨i, hi10⟩ : ∃ i : Nat, mI μ 0 10 = (i : Int) := ⟨(mI μ 0 10).toNat, by have := hDe.2.1; omega⟩
    obtain ⟨md, hmd⟩ : ∃ i : Nat, mI μ 4 4 = (i : Int) := ⟨(mI μ 4 4).toNat, by have := hCo.2.1; omega⟩
    obtain ⟨n, hn⟩ : ∃ i : Nat, mI μ 9 1 = (i : Int) := ⟨(mI μ 9 1).toNat, by have := hTx.2.1; omega⟩
    have hi4 : i < 4 := by have := hDe.2.2.1; omega
    have hmd8 : md ≤ 8 := by have := hCo.2.2.1; omega
    have hmd0 : 0 < md := by omega
    have hn40 : n ≤ 40 := by have := hTx.2.2.1; omega
    have hF : Fre μ i := hDe.2.2.2.2 i (by omega) hi4
    have hp : bI (decide (¬ gx G (iN + 1) = 0)) = (if gx G (iN + 1) = 0 then (0 : Int) else 1) := by by_cases g : gx G (iN + 1) = 0 <;> simp [bI, g]
    generalize decide (¬ gx G (iN + 1) = 0) = sh at hp
    have hMC := m_MC_decision (G := G) (pg := pg) (μ := μ) (d := d - 1 - 1) (i := i) (md := md) (t := mI μ 74) (n := n) (sh := sh) (by omega) hR hi10 hi4 hmd hmd0 hmd8 hn40 hn (fun p _ => hTx.2.2.2.1 p) (fun j => by rw [hTx.2.2.2.1]; exact hTx.2.2.2.2 j) hF.1 (fun l hl => ⟨(hCo.2.2.2.2 l (by omega)).2.1, (hCo.2.2.2.2 l (by omega)).1⟩) (fun j _ => hIn.2.2.2.2.2.1 j)
    have mo := fun (m0 : aM) (E0 : ∀ a b, 26 < a → (a < 27 + 8 * i ∨ 35 + 8 * i ≤ a) → mI m0 a b = mI μ a b) (hR0 : ∀ a b, mR m0 a b = R0 pg a b) => g_Mo_decision (G := G) (pg := pg) (μ := m0) (d := d - 1) (i := i) (md := md) (n := n) (sh := sh) (by omega) hR0 (by rw [E0 67 11 (by omega) (by omega), ← hDe.1]; exact hi10) hi4 (by rw [E0 67 4 (by omega) (by omega), ← hCo.1]; exact hmd) hmd0 hmd8 hn40 (by rw [E0 67 9 (by omega) (by omega), ← hTx.1]; exact hn) (fun p _ => by rw [E0 74 p (by omega) (by omega)]; exact hTx.2.2.2.2 p) (fun l hl => by rw [E0 70 l (by omega) (by omega), ← (hCo.2.2.2.1 l).1]; exact (hCo.2.2.2.2 l (by omega)).1) (fun j _ => by rw [E0 79 j (by omega) (by omega)]; exact hRf.2.2.1 j)
      (by rw [E0 68 0 (by omega) (by omega), E0 69 0 (by omega) (by omega), ← hIn.2.2.2.1, ← hIn.2.2.2.2.1]; exact hIn.2.2.2.2.2.1 0)
      (by by_cases g : 1 < mI m0 67 1
          · rw [if_pos g, if_pos g, E0 68 1 (by omega) (by omega), E0 69 1 (by omega) (by omega), ← hIn.2.2.2.1, ← hIn.2.2.2.2.1]; exact hIn.2.2.2.2.2.1 1
          · rw [if_neg g, if_neg g]; omega)
      (by by_cases g : 2 < mI m0 67 1
          · rw [if_pos g, if_pos g, E0 68 2 (by omega) (by omega), E0 69 2 (by omega) (by omega), ← hIn.2.2.2.1, ← hIn.2.2.2.2.1]; exact hIn.2.2.2.2.2.1 2
          · rw [if_neg g, if_neg g]; omega)
    have hinp : inR (bI sh) := by cases sh <;> exact in_c rfl
    refine k_La_4 (by omega) hi h2 hp hbc hbs (h_La_decision (by omega) hinp hMC ?_) ?_ kk
    · intro r n1 m h
      cases r with
      | inr E => exact h.elim
      | inl v =>
        obtain ⟨rfl, μ1, hFD, ⟨q, -, rfl, -⟩ | ⟨x, s, f, -, -, -, -, rfl, -⟩⟩ := h
        · exact ⟨rfl, Or.inl ⟨_, rfl⟩⟩
        · exact ⟨rfl, Or.inl ⟨_, rfl⟩⟩
    · intro r n1 m h
      obtain ⟨rfl, ⟨z, ν1, hQ, rfl, rfl⟩ | ⟨E, hQ, rfl⟩⟩ := h
      · obtain ⟨-, μ1, hFD, ⟨q, hq, hz, hm⟩ | ⟨x, s, f, q1, q2, q3, q4, hz, hm⟩⟩ := hQ
        · cases hz
          rw [hm]
          have E0 : ∀ a b, 26 < a → (a < 27 + 8 * i ∨ 35 + 8 * i ≤ a) → mI (wL (wI μ1 9 1 0) 93 0 (BitVec.ofInt 64 (-1 - (q : Int)))) a b = mI μ a b := fun a b h1 h2 => by
            rw [mI_wL, mI_wI, if_neg (by omega)]; exact hFD.1 a b (by omega) (by omega) (by omega) (by omega) (by omega)
          have eT : mI (wL (wI μ1 9 1 0) 93 0 (BitVec.ofInt 64 (-1 - (q : Int)))) 74 = mI μ 74 := funext fun j => E0 74 j (by omega) (by omega)
          have hMo := mo _ E0 (fun a b => (hFD.2.2 a b).trans (hR a b))
          refine ⟨rfl, _, rfl, _, hMo, ?_⟩
          intro r' n' m' h'
          cases r' with
          | inr E => exact h'.elim
          | inl v =>
            obtain ⟨rfl, ⟨q', s', hq', rfl, hm'⟩ | ⟨s', μ2, hau', -⟩⟩ := h'
            · rw [eT] at hq'
              have := Flt_one hq hq'
              subst this
              rw [hm']
              exact ⟨rfl, _, rfl, rfl, fun _ => rfl, ⟨pg, flt_inv hIv hFD⟩⟩
            · rw [eT] at hau'
              exact (Flt_no hq hau').elim
        · cases hz
          have q2' : Seg (mI μ 74) (mI (wI μ1 9 1 0) 12) (mI (wI μ1 9 1 0) 13) (mI (wI μ1 9 1 0) 14) f 0 1 0 n 0 x := q2
          have n1 : ∀ a b, (a < 11 ∨ 26 < a) → ¬ (a = 9 ∧ b = 1) → mI (wI μ1 9 1 0) a b = mI μ a b := fun a b h1 h2 => by
            rw [mI_wI, if_neg h2, hFD.1 a b (by omega) (by omega) (by omega) (by omega) (by omega)]
          obtain ⟨c1, -, -, -, c5, -⟩ := cl_new (sh := sh) hi4 hmd8 hn40 n1 rfl (fun a b => hFD.2.1 a b) (fun a b => hFD.2.2 a b) q1 q2' (fun l hl => (hCo.2.2.2.2 l (by omega)).2.1) hF (fun p _ => hTx.2.2.2.2 p) (hCh.2.2 i hi4) (hRf.2.2.2 i hi4) hIn.2.2.2.2.2.1 rfl hm
          have E0 : ∀ a b, 26 < a → (a < 27 + 8 * i ∨ 35 + 8 * i ≤ a) → mI (wL ν1 93 0 (BitVec.ofInt 64 (i : Int))) a b = mI μ a b := fun a b h1 h2 => by
            rw [mI_wL]; exact c1 a b (by omega) (by omega) (by omega) h2
          have eT : mI (wL ν1 93 0 (BitVec.ofInt 64 (i : Int))) 74 = mI μ 74 := funext fun j => E0 74 j (by omega) (by omega)
          have hMo := mo _ E0 (fun a b => (c5 a b).trans (hR a b))
          refine ⟨rfl, _, rfl, _, hMo, ?_⟩
          intro r' n' m' h'
          cases r' with
          | inr E => exact h'.elim
          | inl v =>
            obtain ⟨rfl, ⟨q', s', hq', -⟩ | ⟨s', μ2, hau', rfl, hG, hm'⟩⟩ := h'
            · rw [eT] at hq'
              exact (Flt_no hq' q1).elim
            · rw [eT, q1] at hau'
              cases hau'
              obtain ⟨w1, w2, w3⟩ := dec_inv hIv hi10 hi4 hmd hn40 hFD rfl q1 q2' rfl hm rfl hG hm'
              exact ⟨rfl, _, rfl, w2, fun _ => w3, ⟨pg, w1⟩⟩
      · exact hQ.elim
end
