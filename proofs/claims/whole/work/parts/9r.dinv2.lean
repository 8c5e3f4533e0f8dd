/-! decision keeps the invariant; its turn -/
section
theorem dec_inv {pg i md n x s f : Nat} {sh : Bool} {μ μ1 ν A m m0 M μ2 : aM} {bb : BitVec 64} (h : Inv pg μ) (hi : mI μ 0 10 = (i : Int)) (hi4 : i < 4) (hmd : mI μ 4 4 = (md : Int)) (hn40 : n ≤ 40) (hFD : FrD μ μ1) (hν : ν = wI μ1 9 1 0) (hau : au (mI μ 74) md n = some (false, 1, s)) (hseg : Seg (mI μ 74) (mI ν 12) (mI ν 13) (mI ν 14) f 0 1 0 n 0 x) (hA : A = tkA (27 + 8 * i) (cn s.testBit 8) s (x + 1) sh (cF (27 + 8 * i) s ν) (cSx (27 + 8 * i) s ν) ν) (hm : m = wI (fwM (27 + 8 * i) (cn s.testBit 8) A) 0 10 ((i : Int) + 1)) (hm0 : m0 = wL m 93 0 bb)
    (hG : GK (n7M m0 i n s sh) μ2 i (2 ^ (cn s.testBit 8)) (fun u => bI (gO (gEndX (gRun (fun p => mI (n7M m0 i n s sh) 75 (40 * i + p)) sh (fun l => cn s.testBit l) u n 0 gS0)) 0)) (fun u => if sh = true then ((gSn (gRun (fun p => mI (n7M m0 i n s sh) 75 (40 * i + p)) sh (fun l => cn s.testBit l) u n 0 gS0) : Nat) : Int) else ((2 ^ (cn s.testBit 8) - 1 : Nat) : Int)))
    (hM : M = fvX (oWd μ2 i (cn s.testBit 8)) i (mI m0 68 0) (ln (mI m0 68 0) (mI m0 69 0)) (if 1 < mI m0 67 1 then mI m0 68 1 else 0) (ln (if 1 < mI m0 67 1 then mI m0 68 1 else 0) (if 1 < mI m0 67 1 then mI m0 69 1 else 0)) (if 2 < mI m0 67 1 then mI m0 68 2 else 0) (ln (if 2 < mI m0 67 1 then mI m0 68 2 else 0) (if 2 < mI m0 67 1 then mI m0 69 2 else 0)) μ2) : Inv pg M ∧ mI M 67 0 = 0 ∧ mL M 93 0 = bb := by
  obtain ⟨hR, hIn, hCo, hTx, hRc, hSu, hPg, hCh, hRf, hDe, h0⟩ := h
  have hmd8 : md ≤ 8 := by have := hCo.2.2.1; omega
  have hin := au_in hmd8 hau
  have h6 : cn s.testBit 8 ≤ 6 := cn8_6 hin.2.2.1 hin.2.2.2
  have h64 : 2 ^ (cn s.testBit 8) ≤ 64 := Nat.pow_le_pow_right (n := 2) (by omega) h6
  have hF : Fre μ i := hDe.2.2.2.2 i (by omega) hi4
  have hch : ∀ j, 0 ≤ mI μ 74 j ∧ mI μ 74 j < 65536 := hTx.2.2.2.2
  have n1 : ∀ a b, (a < 11 ∨ 26 < a) → ¬ (a = 9 ∧ b = 1) → mI ν a b = mI μ a b := fun a b h1 h2 => by
    rw [hν, mI_wI, if_neg h2, hFD.1 a b (by omega) (by omega) (by omega) (by omega) (by omega)]
  obtain ⟨c1, c2, c3, c4, c5, c6, c7, c8, c9, ⟨J, L, R, T, s1, s2, s3, s4, s5, s6, s7, s8⟩, c11⟩ := cl_new (sh := sh) hi4 hmd8 hn40 n1 (by rw [hν, mI_wI, if_pos ⟨rfl, rfl⟩]) (fun a b => by rw [hν]; exact hFD.2.1 a b) (fun a b => by rw [hν]; exact hFD.2.2 a b) hau hseg (fun l hl => (hCo.2.2.2.2 l (by omega)).2.1) hF (fun p _ => hch p) (hCh.2.2 i hi4) (hRf.2.2.2 i hi4) hIn.2.2.2.2.2.1 hA hm
  obtain ⟨r1, r2, r3, r4, r5, r6, r7, r8, r9, r10, r11, r12, r13, r14, r15⟩ := re_new hi4 hn40 h6 hG hM
  have hI0 : ∀ a b, mI m0 a b = mI m a b := fun a b => by rw [hm0]; rfl
  have hL0 : ∀ a b, a ≠ 93 → mL m0 a b = mL m a b := fun a b h => by rw [hm0, mL_wL, if_neg (by omega)]
  have hR0 : ∀ a b, mR m0 a b = mR m a b := fun a b => by rw [hm0]; rfl
  have hlet : ∀ j, j < cn s.testBit 8 → ∃ l : Nat, l < 8 ∧ mI m (27 + 8 * i + 3) j = (l : Int) ∧ mI M 79 (6 * i + j) = (l : Int) := fun j hj => by
    obtain ⟨l, l1, l2, rfl⟩ := cn_nth hj
    exact ⟨l, l1, c7 l l1 l2, r8 l l1 l2⟩
  have e0 : ∀ a b, (a < 11 ∨ 26 < a) → ¬ (a = 9 ∧ b = 1) → ¬ (a = 0 ∧ b = 10) → (a < 27 + 8 * i ∨ 35 + 8 * i ≤ a) → mI m0 a b = mI μ a b := fun a b h1 h2 h3 h4 => by rw [hI0, c1 a b h1 h2 h3 h4]
  have E : ∀ a b, (a < 11 ∨ 26 < a) → ¬ (a = 9 ∧ b = 1) → ¬ (a = 0 ∧ b = 10) → (a < 27 + 8 * i ∨ 35 + 8 * i ≤ a) → (a < 75 ∨ 88 < a) → ¬ (a = 67 ∧ (b = 0 ∨ b = 9 ∨ b = 11 ∨ b = 26 ∨ b = 27)) → mI M a b = mI μ a b := fun a b h1 h2 h3 h4 h5 h7 => by rw [r1 a b h5 h7, e0 a b h1 h2 h3 h4]
  have EL : ∀ a b, 27 ≤ a → a < 59 → (a < 27 + 8 * i ∨ 35 + 8 * i ≤ a) → mL M a b = mL μ a b := fun a b h1 h2 h3 => by rw [r11, hL0 a b (by omega), c4 a b (by omega) (by omega) h3]
  have x0 : mI m0 68 0 = mI μ 2 0 := by rw [e0 _ _ (by omega) (by omega) (by omega) (by omega), hIn.2.2.2.1]
  have y0 : mI m0 69 0 = mI μ 3 0 := by rw [e0 _ _ (by omega) (by omega) (by omega) (by omega), hIn.2.2.2.2.1]
  have e1 : mI m0 67 1 = mI μ 1 2 := by rw [e0 _ _ (by omega) (by omega) (by omega) (by omega), hIn.1]
  have x1 : (if 1 < mI m0 67 1 then mI m0 68 1 else 0) = mI μ 2 1 := by
    rw [e1, e0 _ _ (by omega) (by omega) (by omega) (by omega), ← hIn.2.2.2.1]
    split
    · rfl
    · exact ((hIn.2.2.2.2.2.2 1 (by omega)).1).symm
  have y1 : (if 1 < mI m0 67 1 then mI m0 69 1 else 0) = mI μ 3 1 := by
    rw [e1, e0 _ _ (by omega) (by omega) (by omega) (by omega), ← hIn.2.2.2.2.1]
    split
    · rfl
    · exact ((hIn.2.2.2.2.2.2 1 (by omega)).2).symm
  have x2 : (if 2 < mI m0 67 1 then mI m0 68 2 else 0) = mI μ 2 2 := by
    rw [e1, e0 _ _ (by omega) (by omega) (by omega) (by omega), ← hIn.2.2.2.1]
    split
    · rfl
    · exact ((hIn.2.2.2.2.2.2 2 (by omega)).1).symm
  have y2 : (if 2 < mI m0 67 1 then mI m0 69 2 else 0) = mI μ 3 2 := by
    rw [e1, e0 _ _ (by omega) (by omega) (by omega) (by omega), ← hIn.2.2.2.2.1]
    split
    · rfl
    · exact ((hIn.2.2.2.2.2.2 2 (by omega)).2).symm
  rw [x0, y0, x1, y1, x2, y2] at hM
  have hV : VR (27 + 8 * i) i (cn s.testBit 8) m M := by
    rw [hM]
    refine c11 μ2 (fun j hj => ?_) (fun b => ?_) (fun w hw => ?_)
    · obtain ⟨l, l1, l2, l3⟩ := hlet j hj
      rw [r13 j]; unfold oU; rw [l3, l2]
    · have k := hCo.2.2.2.1 b
      rw [r14 70 b (by omega), r14 71 b (by omega), r14 72 b (by omega), r14 73 b (by omega), e0 _ _ (by omega) (by omega) (by omega) (by omega), e0 _ _ (by omega) (by omega) (by omega) (by omega), e0 _ _ (by omega) (by omega) (by omega) (by omega), e0 _ _ (by omega) (by omega) (by omega) (by omega)]
      exact ⟨k.1.symm, k.2.1.symm, k.2.2.1.symm, k.2.2.2.symm⟩
    · rw [r15, e0 _ _ (by omega) (by omega) (by omega) (by omega)]; exact (hF.2.2.2 w hw).1
  obtain ⟨hD, h83⟩ := dec_one (μ2 := μ2) hi4 hmd8 hn40 hCo hmd hch hF hau c1 c6 c7 s1 s2 s3 s4 s5 s6 s7 s8 hm0 r1 r5 r6 r7 r8 (fun p => mI (n7M m0 i n s sh) 75 (40 * i + p)) (fun u hu => by rw [(n7_at m0 i n s sh hn40 h6).2.2.2.2.2.2.1 u hu, e0 _ _ (by omega) (by omega) (by omega) (by omega)]) r9 (fun b hb => r10 82 b (by omega)) r11 hV
  have hpg := pg_in hPg
  have h10 : mI M 0 10 = (i : Int) + 1 := by rw [r1 _ _ (by omega) (by omega), hI0, c3]
  have h9 : mI M 9 1 = 0 := by rw [r1 _ _ (by omega) (by omega), hI0, c2]
  refine ⟨⟨fun a b => by rw [r12, hR0, c5]; exact hR a b, hIn.cg (fun a b z => E a b (by omega) (by omega) (by omega) (by omega) (by omega) (by omega)), hCo.cg (fun a b z => E a b (by omega) (by omega) (by omega) (by omega) (by omega) (by omega)), ?_, hRc.cg (fun a b z => E a b (by omega) (by omega) (by omega) (by omega) (by omega) (by omega)), hSu.cg (fun a b z => E a b (by omega) (by omega) (by omega) (by omega) (by omega) (by omega)), ?_, ?_, ?_, ?_, ?_⟩, r2, ?_⟩
  · refine ⟨by rw [h9, r3], by omega, by omega, fun j => ?_, fun j => ?_⟩
    · rw [E 10 j (by omega) (by omega) (by omega) (by omega) (by omega) (by omega), E 74 j (by omega) (by omega) (by omega) (by omega) (by omega) (by omega)]; exact hTx.2.2.2.1 j
    · rw [E 74 j (by omega) (by omega) (by omega) (by omega) (by omega) (by omega)]; exact hch j
  · have hp2 : pg = 65 ∨ pg + 1 < 27 + 8 * i := by
      rcases hPg.1 with g | ⟨i', g1, g2, g3⟩
      · exact Or.inl g
      · right; omega
    exact hPg.cg (fun a b z => E a b (by omega) (by omega) (by omega) (by omega) (by omega) (by omega)) (by omega)
  · refine ⟨fun j => ?_, fun j => ?_, fun i' hi' j => ?_⟩
    · rw [E 66 j (by omega) (by omega) (by omega) (by omega) (by omega) (by omega)]; exact hCh.1 j
    · rw [E 92 j (by omega) (by omega) (by omega) (by omega) (by omega) (by omega)]; exact hCh.2.1 j
    · by_cases g : i' = i
      · subst g; rw [r1 _ _ (by omega) (by omega), hI0]; exact c8 j
      · rw [E (27 + 8 * i' + 2) j (by omega) (by omega) (by omega) (by omega) (by omega) (by omega)]; exact hCh.2.2 i' hi' j
  · refine ⟨fun j hj => ?_, fun j => ?_, fun j => ?_, fun i' hi' c => ?_⟩
    · rw [E 90 j (by omega) (by omega) (by omega) (by omega) (by omega) (by omega)]; exact hRf.1 j hj
    · by_cases g : 64 * i ≤ j ∧ j < 64 * i + 2 ^ (cn s.testBit 8)
      · obtain ⟨u, rfl⟩ : ∃ u, j = 64 * i + u := ⟨j - 64 * i, by omega⟩
        exact h83 u (by omega)
      · rw [r10 83 j (by omega), e0 _ _ (by omega) (by omega) (by omega) (by omega)]; exact hRf.2.1 j
    · by_cases g : 6 * i ≤ j ∧ j < 6 * i + cn s.testBit 8
      · obtain ⟨u, rfl⟩ : ∃ u, j = 6 * i + u := ⟨j - 6 * i, by omega⟩
        obtain ⟨l, l1, l2, l3⟩ := hlet u (by omega)
        rw [l3]; omega
      · rw [r10 79 j (by omega), e0 _ _ (by omega) (by omega) (by omega) (by omega)]; exact hRf.2.2.1 j
    · by_cases g : i' = i
      · subst g; rw [r1 _ _ (by omega) (by omega), hI0]; exact c9 c
      · rw [E (27 + 8 * i' + 4) c (by omega) (by omega) (by omega) (by omega) (by omega) (by omega)]; exact hRf.2.2.2 i' hi' c
  · refine ⟨by rw [h10, r4], by omega, by omega, fun i' hi' => ?_, fun i' hi' hi'4 => ?_⟩
    · by_cases g : i' = i
      · subst g; exact hD
      · refine (hDe.2.2.2.1 i' (by omega)).cg (fun a b z => ?_) (fun a b z1 z2 => EL a b (by omega) (by omega) (by omega)) (fun b _ => ⟨E 71 b (by omega) (by omega) (by omega) (by omega) (by omega) (by omega), E 72 b (by omega) (by omega) (by omega) (by omega) (by omega) (by omega)⟩) (by rw [E 4 4 (by omega) (by omega) (by omega) (by omega) (by omega) (by omega)]; exact Int.le_refl _) hRf.2.2.1
        by_cases q : a < 75
        · exact E a b (by omega) (by omega) (by omega) (by omega) (by omega) (by omega)
        · rw [r10 a b (by omega), e0 a b (by omega) (by omega) (by omega) (by omega)]
    · refine (hDe.2.2.2.2 i' (by omega) hi'4).cg (fun a b z => ?_) (fun a b z1 z2 => EL a b (by omega) (by omega) (by omega))
      by_cases q : a < 75
      · exact E a b (by omega) (by omega) (by omega) (by omega) (by omega) (by omega)
      · rw [r10 a b (by omega), e0 a b (by omega) (by omega) (by omega) (by omega)]
  · unfold Iv0 at h0 ⊢
    rw [E 4 4 (by omega) (by omega) (by omega) (by omega) (by omega) (by omega), E 63 1 (by omega) (by omega) (by omega) (by omega) (by omega) (by omega)]; exact h0
  · rw [r11, hm0, mL_wL, if_pos ⟨rfl, rfl⟩]
theorem flt_inv {pg : Nat} {μ μ1 : aM} {bb : BitVec 64} {z : Int} (h : Inv pg μ) (hFD : FrD μ μ1) : Inv pg (wI (wI (wI (wL (wI μ1 9 1 0) 93 0 bb) 67 0 0) 67 9 0) 67 27 z) := by
  obtain ⟨hR, hIn, hCo, hTx, hRc, hSu, hPg, hCh, hRf, hDe, h0⟩ := h
  have hpg := pg_in hPg
  have E : ∀ a b, (a < 11 ∨ 26 < a) → ¬ (a = 9 ∧ b = 1) → ¬ (a = 67 ∧ (b = 0 ∨ b = 9 ∨ b = 27)) → mI (wI (wI (wI (wL (wI μ1 9 1 0) 93 0 bb) 67 0 0) 67 9 0) 67 27 z) a b = mI μ a b := fun a b h1 h2 h3 => by
    rw [mI_wI, if_neg (by omega), mI_wI, if_neg (by omega), mI_wI, if_neg (by omega), mI_wL, mI_wI, if_neg h2]
    exact hFD.1 a b (by omega) (by omega) (by omega) (by omega) (by omega)
  have EL : ∀ a b, 27 ≤ a → a < 59 → mL (wI (wI (wI (wL (wI μ1 9 1 0) 93 0 bb) 67 0 0) 67 9 0) 67 27 z) a b = mL μ a b := fun a b h1 h2 => by
    show mL (wL (wI μ1 9 1 0) 93 0 bb) a b = _
    rw [mL_wL, if_neg (by omega)]; exact hFD.2.1 a b
  have e44 := E 4 4 (by omega) (by omega) (by omega)
  have e01 := E 0 10 (by omega) (by omega) (by omega)
  refine ⟨fun k j => (hFD.2.2 k j).trans (hR k j), hIn.cg (fun a b z => E a b (by omega) (by omega) (by omega)), hCo.cg (fun a b z => E a b (by omega) (by omega) (by omega)), ⟨rfl, (show (0 : Int) ≤ 0 from Int.le_refl _), (show (0 : Int) ≤ 40 by omega), fun j => ?_, fun j => ?_⟩, hRc.cg (fun a b z => E a b (by omega) (by omega) (by omega)), hSu.cg (fun a b z => E a b (by omega) (by omega) (by omega)), hPg.cg (fun a b z => E a b (by omega) (by omega) (by omega)) (by omega), hCh.cg (fun a b z => E a b (by omega) (by omega) (by omega)), hRf.cg (fun a b z => E a b (by omega) (by omega) (by omega)) (fun j hj => by rw [E 90 j (by omega) (by omega) (by omega)]; exact hRf.1 j hj), hDe.cg (fun a b z => E a b (by omega) (by omega) (by omega)) EL (fun b _ => ⟨E 71 b (by omega) (by omega) (by omega), E 72 b (by omega) (by omega) (by omega)⟩) (by omega) hRf.2.2.1, ?_⟩
  · rw [E 10 j (by omega) (by omega) (by omega), E 74 j (by omega) (by omega) (by omega)]; exact hTx.2.2.2.1 j
  · rw [E 74 j (by omega) (by omega) (by omega)]; exact hTx.2.2.2.2 j
  · unfold Iv0 at h0 ⊢
    rw [e44, E 63 1 (by omega) (by omega) (by omega)]; exact h0
end
