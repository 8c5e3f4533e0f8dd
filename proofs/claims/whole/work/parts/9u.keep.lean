/-! the other calls keep the invariant -/
section
theorem rec_ok {μ : aM} (hIn : IvIn μ) (hCo : IvCo μ) (hRc : IvRc μ) {r l : Nat} (hr : (r : Int) < mI μ 63 1) (hl : (l : Int) < mI μ 4 4) : okL μ (3 * r) l ∧ okM μ l (mI μ 91 (3 * r)) (mI μ 91 (3 * r + 1)) (mI μ 91 (3 * r + 2)) := by
  obtain ⟨k1, ⟨k2, k3, -⟩, k4, k5⟩ := hCo.2.2.2.2 l hl
  obtain ⟨e5, e6, e7, -⟩ := hCo.2.2.2.1 l
  have h8 := hCo.2.2.1
  have hv := hRc.2.2.2.2.2 r hr
  have v0 := hv 0
  have v1 := hv 1
  have v2 := hv 2
  rw [Nat.add_zero] at v0
  have hrv : ∀ b : Int, -1 ≤ b → b < mI μ 1 2 → -20 ≤ rv μ (3 * r) b ∧ rv μ (3 * r) b ≤ 20 := fun b b1 b2 => by
    unfold rv
    split
    · omega
    · rw [hRc.2.2.2.1]; exact hv _ (by omega)
  have hpk : ∀ b : Int, 0 ≤ b → b < 3 → b < mI μ 1 2 → -20 ≤ pk3 b (mI μ 91 (3 * r)) (mI μ 91 (3 * r + 1)) (mI μ 91 (3 * r + 2)) ∧ pk3 b (mI μ 91 (3 * r)) (mI μ 91 (3 * r + 1)) (mI μ 91 (3 * r + 2)) ≤ 20 := fun b b0 b1 b2 => by
    unfold pk3
    split
    · exact v0 (by omega)
    · split
      · exact v1 (by omega)
      · exact v2 (by omega)
  refine ⟨⟨by omega, k1, k2, k3, hrv _ (by omega) k4, hrv _ k3.1 k5⟩, ⟨by omega, ?_, ?_, by rw [← e5]; exact k1⟩⟩
  · rw [← e6]; exact hpk _ k2.1 k2.2 k4
  · rw [← e7]
    unfold sb3
    split
    · omega
    · exact hpk _ (by omega) k3.2 k5
theorem in_inv {pg c : Nat} {μ : aM} {x y : Int} {bb : BitVec 64} (h : Inv pg μ) (hc : mI μ 1 2 = (c : Int)) (h3 : c ≤ 3) (h0' : ¬ (c = 3 ∨ 0 < mI μ 4 4)) (hxy : -20 ≤ x ∧ x ≤ y ∧ y ≤ 20) : Inv pg (wI (wI (wI (wI (wL (wI (wI (wI μ 2 c x) 3 c y) 1 2 ((c : Int) + 1)) 93 0 bb) 67 0 0) 68 c x) 69 c y) 67 1 ((c : Int) + 1)) := by
  obtain ⟨hR, hIn, hCo, hTx, hRc, hSu, hPg, hCh, hRf, hDe, h0⟩ := h
  have hpg := pg_in hPg
  have h44 : mI μ 4 4 = 0 := by have := hCo.2.1; omega
  have h63 := h0 h44
  generalize hm : wI (wI (wI (wI (wL (wI (wI (wI μ 2 c x) 3 c y) 1 2 ((c : Int) + 1)) 93 0 bb) 67 0 0) 68 c x) 69 c y) 67 1 ((c : Int) + 1) = m
  have E : ∀ a b, a ≠ 1 → a ≠ 2 → a ≠ 3 → a ≠ 68 → a ≠ 69 → ¬ (a = 67 ∧ (b = 0 ∨ b = 1)) → mI m a b = mI μ a b := fun a b h1 h2 h3 h4 h5 h6 => by
    rw [← hm, mI_wI, if_neg (by omega), mI_wI, if_neg (by omega), mI_wI, if_neg (by omega), mI_wI, if_neg (by omega), mI_wL, mI_wI, if_neg (by omega), mI_wI, if_neg (by omega), mI_wI, if_neg (by omega)]
  have EL : ∀ a b, 27 ≤ a → a < 59 → mL m a b = mL μ a b := fun a b h1 h2 => by
    rw [← hm]
    show mL (wL (wI (wI (wI μ 2 c x) 3 c y) 1 2 ((c : Int) + 1)) 93 0 bb) a b = _
    rw [mL_wL, if_neg (by omega)]; rfl
  have f1 : mI m 1 2 = (c : Int) + 1 := by rw [← hm]; simp [mI_wI, mI_wL]
  have f67 : mI m 67 1 = (c : Int) + 1 := by rw [← hm]; simp [mI_wI]
  have f2 : ∀ j, mI m 2 j = if j = c then x else mI μ 2 j := fun j => by rw [← hm]; simp [mI_wI, mI_wL]
  have f3 : ∀ j, mI m 3 j = if j = c then y else mI μ 3 j := fun j => by rw [← hm]; simp [mI_wI, mI_wL]
  have f68 : ∀ j, mI m 68 j = if j = c then x else mI μ 68 j := fun j => by rw [← hm]; simp [mI_wI, mI_wL]
  have f69 : ∀ j, mI m 69 j = if j = c then y else mI μ 69 j := fun j => by rw [← hm]; simp [mI_wI, mI_wL]
  have e44 := E 4 4 (by omega) (by omega) (by omega) (by omega) (by omega) (by omega)
  have e63 := E 63 1 (by omega) (by omega) (by omega) (by omega) (by omega) (by omega)
  have e01 := E 0 10 (by omega) (by omega) (by omega) (by omega) (by omega) (by omega)
  refine ⟨fun a b => ?_, ⟨by rw [f1, f67], by omega, by omega, fun j => ?_, fun j => ?_, fun j => ?_, fun j hj => ?_⟩, ⟨?_, by omega, by omega, fun j => ?_, fun j hj => ?_⟩, hTx.cg (fun a b z => E a b (by omega) (by omega) (by omega) (by omega) (by omega) (by omega)), ⟨?_, by omega, by omega, fun j => ?_, fun j => ?_, fun r hr => ?_⟩, hSu.cg (fun a b z => E a b (by omega) (by omega) (by omega) (by omega) (by omega) (by omega)), hPg.cg (fun a b z => E a b (by omega) (by omega) (by omega) (by omega) (by omega) (by omega)) (by omega), hCh.cg (fun a b z => E a b (by omega) (by omega) (by omega) (by omega) (by omega) (by omega)), hRf.cg (fun a b z => E a b (by omega) (by omega) (by omega) (by omega) (by omega) (by omega)) (fun j hj => by rw [E 90 j (by omega) (by omega) (by omega) (by omega) (by omega) (by omega)]; exact hRf.1 j hj), hDe.cg (fun a b z => E a b (by omega) (by omega) (by omega) (by omega) (by omega) (by omega)) EL (fun b _ => ⟨E 71 b (by omega) (by omega) (by omega) (by omega) (by omega) (by omega), E 72 b (by omega) (by omega) (by omega) (by omega) (by omega) (by omega)⟩) (by omega) hRf.2.2.1, fun _ => by omega⟩
  · rw [← hm]; exact hR a b
  · rw [f2, f68, hIn.2.2.2.1]
  · rw [f3, f69, hIn.2.2.2.2.1]
  · rw [f2, f3]; split
    · exact hxy
    · exact hIn.2.2.2.2.2.1 j
  · rw [f1] at hj; rw [f2, f3, if_neg (by omega), if_neg (by omega)]; exact hIn.2.2.2.2.2.2 j (by omega)
  · rw [e44, E 67 4 (by omega) (by omega) (by omega) (by omega) (by omega) (by omega)]; exact hCo.1
  · rw [E 5 j (by omega) (by omega) (by omega) (by omega) (by omega) (by omega), E 6 j (by omega) (by omega) (by omega) (by omega) (by omega) (by omega), E 7 j (by omega) (by omega) (by omega) (by omega) (by omega) (by omega), E 8 j (by omega) (by omega) (by omega) (by omega) (by omega) (by omega), E 70 j (by omega) (by omega) (by omega) (by omega) (by omega) (by omega), E 71 j (by omega) (by omega) (by omega) (by omega) (by omega) (by omega), E 72 j (by omega) (by omega) (by omega) (by omega) (by omega) (by omega), E 73 j (by omega) (by omega) (by omega) (by omega) (by omega) (by omega)]; exact hCo.2.2.2.1 j
  · omega
  · rw [e63, E 67 31 (by omega) (by omega) (by omega) (by omega) (by omega) (by omega)]; exact hRc.1
  · rw [E 64 j (by omega) (by omega) (by omega) (by omega) (by omega) (by omega), E 91 j (by omega) (by omega) (by omega) (by omega) (by omega) (by omega)]; exact hRc.2.2.2.1 j
  · rw [E 91 j (by omega) (by omega) (by omega) (by omega) (by omega) (by omega)]; exact hRc.2.2.2.2.1 j
  · omega
theorem co_inv {pg c : Nat} {μ : aM} {k f s b : Int} {bb : BitVec 64} (h : Inv pg μ) (hc : mI μ 4 4 = (c : Int)) (h8 : c ≤ 8) (hc8 : ¬ c = 8) (hfs : (0 ≤ f ∧ f < mI μ 1 2) ∧ (s = -1 ∨ (0 ≤ s ∧ s < mI μ 1 2))) (hk : 0 ≤ k ∧ k ≤ 3 ∧ -50 ≤ b ∧ b ≤ 50 ∧ ¬ f = s) : Inv pg (wI (wI (wI (wI (wI (wI (wL (wI (wI (wI (wI (wI μ 5 c k) 6 c f) 7 c s) 8 c b) 4 4 ((c : Int) + 1)) 93 0 bb) 67 0 0) 70 c k) 71 c f) 72 c s) 73 c b) 67 4 ((c : Int) + 1)) := by
  obtain ⟨hR, hIn, hCo, hTx, hRc, hSu, hPg, hCh, hRf, hDe, h0⟩ := h
  have hpg := pg_in hPg
  have hi3 := hIn.2.2.1
  generalize hm : wI (wI (wI (wI (wI (wI (wL (wI (wI (wI (wI (wI μ 5 c k) 6 c f) 7 c s) 8 c b) 4 4 ((c : Int) + 1)) 93 0 bb) 67 0 0) 70 c k) 71 c f) 72 c s) 73 c b) 67 4 ((c : Int) + 1) = m
  have E : ∀ a b, ¬ (4 ≤ a ∧ a ≤ 8) → ¬ (70 ≤ a ∧ a ≤ 73) → ¬ (a = 67 ∧ (b = 0 ∨ b = 4)) → mI m a b = mI μ a b := fun a b h1 h2 h3 => by
    rw [← hm, mI_wI, if_neg (by omega), mI_wI, if_neg (by omega), mI_wI, if_neg (by omega), mI_wI, if_neg (by omega), mI_wI, if_neg (by omega), mI_wI, if_neg (by omega), mI_wL, mI_wI, if_neg (by omega), mI_wI, if_neg (by omega), mI_wI, if_neg (by omega), mI_wI, if_neg (by omega), mI_wI, if_neg (by omega)]
  have EL : ∀ a b, 27 ≤ a → a < 59 → mL m a b = mL μ a b := fun a b' h1 h2 => by
    rw [← hm]
    show mL (wL (wI (wI (wI (wI (wI μ 5 c k) 6 c f) 7 c s) 8 c b) 4 4 ((c : Int) + 1)) 93 0 bb) a b' = _
    rw [mL_wL, if_neg (by omega)]; rfl
  have f4 : mI m 4 4 = (c : Int) + 1 := by rw [← hm]; simp [mI_wI, mI_wL]
  have f67 : mI m 67 4 = (c : Int) + 1 := by rw [← hm]; simp [mI_wI]
  have f5 : ∀ j, mI m 5 j = if j = c then k else mI μ 5 j := fun j => by rw [← hm]; simp [mI_wI, mI_wL]
  have f6 : ∀ j, mI m 6 j = if j = c then f else mI μ 6 j := fun j => by rw [← hm]; simp [mI_wI, mI_wL]
  have f7 : ∀ j, mI m 7 j = if j = c then s else mI μ 7 j := fun j => by rw [← hm]; simp [mI_wI, mI_wL]
  have f8 : ∀ j, mI m 8 j = if j = c then b else mI μ 8 j := fun j => by rw [← hm]; simp [mI_wI, mI_wL]
  have f70 : ∀ j, mI m 70 j = if j = c then k else mI μ 70 j := fun j => by rw [← hm]; simp [mI_wI, mI_wL]
  have f71 : ∀ j, mI m 71 j = if j = c then f else mI μ 71 j := fun j => by rw [← hm]; simp [mI_wI, mI_wL]
  have f72 : ∀ j, mI m 72 j = if j = c then s else mI μ 72 j := fun j => by rw [← hm]; simp [mI_wI, mI_wL]
  have f73 : ∀ j, mI m 73 j = if j = c then b else mI μ 73 j := fun j => by rw [← hm]; simp [mI_wI, mI_wL]
  have e12 := E 1 2 (by omega) (by omega) (by omega)
  have e01 := E 0 10 (by omega) (by omega) (by omega)
  refine ⟨fun a b => by rw [← hm]; exact hR a b, hIn.cg (fun a b z => E a b (by omega) (by omega) (by omega)), ⟨by rw [f4, f67], by omega, by omega, fun j => ?_, fun j hj => ?_⟩, hTx.cg (fun a b z => E a b (by omega) (by omega) (by omega)), hRc.cg (fun a b z => E a b (by omega) (by omega) (by omega)), hSu.cg (fun a b z => E a b (by omega) (by omega) (by omega)), hPg.cg (fun a b z => E a b (by omega) (by omega) (by omega)) (by omega), hCh.cg (fun a b z => E a b (by omega) (by omega) (by omega)), hRf.cg (fun a b z => E a b (by omega) (by omega) (by omega)) (fun j hj => by rw [E 90 j (by omega) (by omega) (by omega)]; exact hRf.1 j hj), hDe.cg (fun a b z => E a b (by omega) (by omega) (by omega)) EL (fun b hb => ?_) (by omega) hRf.2.2.1, fun q => by omega⟩
  · obtain ⟨k1, k2, k3, k4⟩ := hCo.2.2.2.1 j
    rw [f5, f6, f7, f8, f70, f71, f72, f73, k1, k2, k3, k4]; exact ⟨rfl, rfl, rfl, rfl⟩
  · rw [f5, f6, f7, e12]
    rw [f4] at hj
    by_cases g : j = c
    · rw [if_pos g, if_pos g, if_pos g]
      exact ⟨hk.1, ⟨⟨hfs.1.1, by omega⟩, by omega, hk.2.2.2.2⟩, hfs.1.2, by omega⟩
    · rw [if_neg g, if_neg g, if_neg g]; exact hCo.2.2.2.2 j (by omega)
  · rw [f71, f72, if_neg (by omega), if_neg (by omega)]; exact ⟨rfl, rfl⟩
theorem tx_inv {pg n : Nat} {μ : aM} {ch : Int} (h : Inv pg μ) (hn : mI μ 9 1 = (n : Int)) (hch : 32 ≤ ch ∧ ch ≤ 126 ∧ n < 40) : Inv pg (wI (wI (wI (wI (wI μ 10 n ch) 9 1 ((n : Int) + 1)) 67 0 0) 74 n ch) 67 9 ((n : Int) + 1)) := by
  obtain ⟨hR, hIn, hCo, hTx, hRc, hSu, hPg, hCh, hRf, hDe, h0⟩ := h
  have hpg := pg_in hPg
  generalize hm : wI (wI (wI (wI (wI μ 10 n ch) 9 1 ((n : Int) + 1)) 67 0 0) 74 n ch) 67 9 ((n : Int) + 1) = m
  have E : ∀ a b, a ≠ 9 → a ≠ 10 → a ≠ 74 → ¬ (a = 67 ∧ (b = 0 ∨ b = 9)) → mI m a b = mI μ a b := fun a b h1 h2 h3 h4 => by
    rw [← hm, mI_wI, if_neg (by omega), mI_wI, if_neg (by omega), mI_wI, if_neg (by omega), mI_wI, if_neg (by omega), mI_wI, if_neg (by omega)]
  have EL : ∀ a b, 27 ≤ a → a < 59 → mL m a b = mL μ a b := fun a b h1 h2 => by rw [← hm]; rfl
  have f9 : mI m 9 1 = (n : Int) + 1 := by rw [← hm]; simp [mI_wI]
  have f67 : mI m 67 9 = (n : Int) + 1 := by rw [← hm]; simp [mI_wI]
  have f10 : ∀ j, mI m 10 j = if j = n then ch else mI μ 10 j := fun j => by rw [← hm]; simp [mI_wI]
  have f74 : ∀ j, mI m 74 j = if j = n then ch else mI μ 74 j := fun j => by rw [← hm]; simp [mI_wI]
  have e44 := E 4 4 (by omega) (by omega) (by omega) (by omega)
  have e01 := E 0 10 (by omega) (by omega) (by omega) (by omega)
  refine ⟨fun a b => by rw [← hm]; exact hR a b, hIn.cg (fun a b z => E a b (by omega) (by omega) (by omega) (by omega)), hCo.cg (fun a b z => E a b (by omega) (by omega) (by omega) (by omega)), ⟨by rw [f9, f67], by omega, by omega, fun j => ?_, fun j => ?_⟩, hRc.cg (fun a b z => E a b (by omega) (by omega) (by omega) (by omega)), hSu.cg (fun a b z => E a b (by omega) (by omega) (by omega) (by omega)), hPg.cg (fun a b z => E a b (by omega) (by omega) (by omega) (by omega)) (by omega), hCh.cg (fun a b z => E a b (by omega) (by omega) (by omega) (by omega)), hRf.cg (fun a b z => E a b (by omega) (by omega) (by omega) (by omega)) (fun j hj => by rw [E 90 j (by omega) (by omega) (by omega) (by omega)]; exact hRf.1 j hj), hDe.cg (fun a b z => E a b (by omega) (by omega) (by omega) (by omega)) EL (fun b hb => ⟨E 71 b (by omega) (by omega) (by omega) (by omega), E 72 b (by omega) (by omega) (by omega) (by omega)⟩) (by omega) hRf.2.2.1, ?_⟩
  · rw [f10, f74, hTx.2.2.2.1]
  · rw [f74]; split
    · omega
    · exact hTx.2.2.2.2 j
  · unfold Iv0 at h0 ⊢; rw [e44, E 63 1 (by omega) (by omega) (by omega) (by omega)]; exact h0
theorem wi_inv {pg : Nat} {μ : aM} (h : Inv pg μ) : Inv pg (wI (wI (wI μ 9 1 0) 67 0 0) 67 9 0) := by
  obtain ⟨hR, hIn, hCo, hTx, hRc, hSu, hPg, hCh, hRf, hDe, h0⟩ := h
  have hpg := pg_in hPg
  generalize hm : wI (wI (wI μ 9 1 0) 67 0 0) 67 9 0 = m
  have E : ∀ a b, ¬ (a = 9 ∧ b = 1) → ¬ (a = 67 ∧ (b = 0 ∨ b = 9)) → mI m a b = mI μ a b := fun a b h1 h4 => by
    rw [← hm, mI_wI, if_neg (by omega), mI_wI, if_neg (by omega), mI_wI, if_neg (by omega)]
  have EL : ∀ a b, 27 ≤ a → a < 59 → mL m a b = mL μ a b := fun a b h1 h2 => by rw [← hm]; rfl
  have f9 : mI m 9 1 = 0 := by rw [← hm]; simp [mI_wI]
  have f67 : mI m 67 9 = 0 := by rw [← hm]; simp [mI_wI]
  have e44 := E 4 4 (by omega) (by omega)
  have e01 := E 0 10 (by omega) (by omega)
  refine ⟨fun a b => by rw [← hm]; exact hR a b, hIn.cg (fun a b z => E a b (by omega) (by omega)), hCo.cg (fun a b z => E a b (by omega) (by omega)), ⟨by rw [f9, f67], by omega, by omega, fun j => ?_, fun j => ?_⟩, hRc.cg (fun a b z => E a b (by omega) (by omega)), hSu.cg (fun a b z => E a b (by omega) (by omega)), hPg.cg (fun a b z => E a b (by omega) (by omega)) (by omega), hCh.cg (fun a b z => E a b (by omega) (by omega)), hRf.cg (fun a b z => E a b (by omega) (by omega)) (fun j hj => by rw [E 90 j (by omega) (by omega)]; exact hRf.1 j hj), hDe.cg (fun a b z => E a b (by omega) (by omega)) EL (fun b hb => ⟨E 71 b (by omega) (by omega), E 72 b (by omega) (by omega)⟩) (by omega) hRf.2.2.1, ?_⟩
  · rw [E 10 j (by omega) (by omega), E 74 j (by omega) (by omega)]; exact hTx.2.2.2.1 j
  · rw [E 74 j (by omega) (by omega)]; exact hTx.2.2.2.2 j
  · unfold Iv0 at h0 ⊢; rw [e44, E 63 1 (by omega) (by omega)]; exact h0
theorem fo_inv {pg : Nat} {μ : aM} (h : Inv pg μ) : Inv pg (wI (wI (wI μ 63 1 0) 67 0 0) 67 31 0) := by
  obtain ⟨hR, hIn, hCo, hTx, hRc, hSu, hPg, hCh, hRf, hDe, h0⟩ := h
  have hpg := pg_in hPg
  generalize hm : wI (wI (wI μ 63 1 0) 67 0 0) 67 31 0 = m
  have E : ∀ a b, ¬ (a = 63 ∧ b = 1) → ¬ (a = 67 ∧ (b = 0 ∨ b = 31)) → mI m a b = mI μ a b := fun a b h1 h4 => by
    rw [← hm, mI_wI, if_neg (by omega), mI_wI, if_neg (by omega), mI_wI, if_neg (by omega)]
  have EL : ∀ a b, 27 ≤ a → a < 59 → mL m a b = mL μ a b := fun a b h1 h2 => by rw [← hm]; rfl
  have f9 : mI m 63 1 = 0 := by rw [← hm]; simp [mI_wI]
  have f67 : mI m 67 31 = 0 := by rw [← hm]; simp [mI_wI]
  have e44 := E 4 4 (by omega) (by omega)
  have e01 := E 0 10 (by omega) (by omega)
  refine ⟨fun a b => by rw [← hm]; exact hR a b, hIn.cg (fun a b z => E a b (by omega) (by omega)), hCo.cg (fun a b z => E a b (by omega) (by omega)), hTx.cg (fun a b z => E a b (by omega) (by omega)), ⟨by rw [f9, f67], by omega, by omega, fun j => ?_, fun j => ?_, fun r hr => by omega⟩, hSu.cg (fun a b z => E a b (by omega) (by omega)), hPg.cg (fun a b z => E a b (by omega) (by omega)) (by omega), hCh.cg (fun a b z => E a b (by omega) (by omega)), hRf.cg (fun a b z => E a b (by omega) (by omega)) (fun j hj => by rw [E 90 j (by omega) (by omega)]; exact hRf.1 j hj), hDe.cg (fun a b z => E a b (by omega) (by omega)) EL (fun b hb => ⟨E 71 b (by omega) (by omega), E 72 b (by omega) (by omega)⟩) (by omega) hRf.2.2.1, fun _ => f9⟩
  · rw [E 64 j (by omega) (by omega), E 91 j (by omega) (by omega)]; exact hRc.2.2.2.1 j
  · rw [E 91 j (by omega) (by omega)]; exact hRc.2.2.2.2.1 j
theorem kp_inv {pg c : Nat} {μ : aM} {x y z : Int} {bb : BitVec 64} (h : Inv pg μ) (hc : mI μ 63 1 = (c : Int)) (hc12 : c < 12) (hm0 : ¬ mI μ 4 4 = 0) (hx : inR x) (hy : inR y) (hz : inR z) (hr : ¬ ((((0 : Nat) : Int) < mI μ 1 2 ∧ (x < mI μ 2 0 ∨ mI μ 3 0 < x)) ∨ (((1 : Nat) : Int) < mI μ 1 2 ∧ (y < mI μ 2 1 ∨ mI μ 3 1 < y)) ∨ (((2 : Nat) : Int) < mI μ 1 2 ∧ (z < mI μ 2 2 ∨ mI μ 3 2 < z)))) : Inv pg (wI (wI (wI (wI (wI (wL (wI (wI (wI (wI μ 64 (3 * c) x) 64 (3 * c + 1) y) 64 (3 * c + 2) z) 63 1 ((c : Int) + 1)) 93 0 bb) 67 0 0) 91 (3 * c) x) 91 (3 * c + 1) y) 91 (3 * c + 2) z) 67 31 ((c : Int) + 1)) := by
  obtain ⟨hR, hIn, hCo, hTx, hRc, hSu, hPg, hCh, hRf, hDe, h0⟩ := h
  have hpg := pg_in hPg
  have g0 := hIn.2.2.2.2.2.1 0
  have g1 := hIn.2.2.2.2.2.1 1
  have g2 := hIn.2.2.2.2.2.1 2
  have hi3 := hIn.2.2.1
  generalize hm : wI (wI (wI (wI (wI (wL (wI (wI (wI (wI μ 64 (3 * c) x) 64 (3 * c + 1) y) 64 (3 * c + 2) z) 63 1 ((c : Int) + 1)) 93 0 bb) 67 0 0) 91 (3 * c) x) 91 (3 * c + 1) y) 91 (3 * c + 2) z) 67 31 ((c : Int) + 1) = m
  have E : ∀ a b, a ≠ 63 → a ≠ 64 → a ≠ 91 → ¬ (a = 67 ∧ (b = 0 ∨ b = 31)) → mI m a b = mI μ a b := fun a b h1 h2 h3 h4 => by
    rw [← hm, mI_wI, if_neg (by omega), mI_wI, if_neg (by omega), mI_wI, if_neg (by omega), mI_wI, if_neg (by omega), mI_wI, if_neg (by omega), mI_wL, mI_wI, if_neg (by omega), mI_wI, if_neg (by omega), mI_wI, if_neg (by omega), mI_wI, if_neg (by omega)]
  have EL : ∀ a b, 27 ≤ a → a < 59 → mL m a b = mL μ a b := fun a b h1 h2 => by
    rw [← hm]
    show mL (wL (wI (wI (wI (wI μ 64 (3 * c) x) 64 (3 * c + 1) y) 64 (3 * c + 2) z) 63 1 ((c : Int) + 1)) 93 0 bb) a b = _
    rw [mL_wL, if_neg (by omega)]; rfl
  have f63 : mI m 63 1 = (c : Int) + 1 := by rw [← hm]; simp [mI_wI, mI_wL]
  have f67 : mI m 67 31 = (c : Int) + 1 := by rw [← hm]; simp [mI_wI]
  have f64 : ∀ j, mI m 64 j = if j = 3 * c + 2 then z else if j = 3 * c + 1 then y else if j = 3 * c then x else mI μ 64 j := fun j => by rw [← hm]; simp [mI_wI, mI_wL]
  have f91 : ∀ j, mI m 91 j = if j = 3 * c + 2 then z else if j = 3 * c + 1 then y else if j = 3 * c then x else mI μ 91 j := fun j => by rw [← hm]; simp [mI_wI, mI_wL]
  have e44 := E 4 4 (by omega) (by omega) (by omega) (by omega)
  have e12 := E 1 2 (by omega) (by omega) (by omega) (by omega)
  have e01 := E 0 10 (by omega) (by omega) (by omega) (by omega)
  refine ⟨fun a b => by rw [← hm]; exact hR a b, hIn.cg (fun a b z => E a b (by omega) (by omega) (by omega) (by omega)), hCo.cg (fun a b z => E a b (by omega) (by omega) (by omega) (by omega)), hTx.cg (fun a b z => E a b (by omega) (by omega) (by omega) (by omega)), ⟨by rw [f63, f67], by omega, by omega, fun j => ?_, fun j => ?_, fun r hr' w hw => ?_⟩, hSu.cg (fun a b z => E a b (by omega) (by omega) (by omega) (by omega)), hPg.cg (fun a b z => E a b (by omega) (by omega) (by omega) (by omega)) (by omega), hCh.cg (fun a b z => E a b (by omega) (by omega) (by omega) (by omega)), hRf.cg (fun a b z => E a b (by omega) (by omega) (by omega) (by omega)) (fun j hj => by rw [E 90 j (by omega) (by omega) (by omega) (by omega)]; exact hRf.1 j hj), hDe.cg (fun a b z => E a b (by omega) (by omega) (by omega) (by omega)) EL (fun b hb => ⟨E 71 b (by omega) (by omega) (by omega) (by omega), E 72 b (by omega) (by omega) (by omega) (by omega)⟩) (by omega) hRf.2.2.1, fun q => by omega⟩
  · rw [f64, f91, hRc.2.2.2.1]
  · rw [f91]
    split
    · exact hz
    · split
      · exact hy
      · split
        · exact hx
        · exact hRc.2.2.2.2.1 j
  · rw [f91]
    by_cases g : r = c
    · subst g
      have w3 : w = 0 ∨ w = 1 ∨ w = 2 := by omega
      rcases w3 with rfl | rfl | rfl
      · rw [if_neg (by omega), if_neg (by omega), if_pos (by omega)]; omega
      · rw [if_neg (by omega), if_pos (by omega)]; omega
      · rw [if_pos (by omega)]; omega
    · rw [if_neg (by omega), if_neg (by omega), if_neg (by omega)]; exact hRc.2.2.2.2.2 r (by omega) w (by omega)
theorem su_inv {pg i k n : Nat} {μ M : aM} {q : Int} {bb : BitVec 64} (h : Inv pg μ) (hM : M = moM (wL (suM μ i k q k) 93 0 bb) i k q k) (hn : n ≤ 12) (hS : SuR (suM μ i k q k) M k n) : Inv pg M := by
  obtain ⟨hR, hIn, hCo, hTx, hRc, hSu, hPg, hCh, hRf, hDe, h0⟩ := h
  have hpg := pg_in hPg
  obtain ⟨s1, s2, s3⟩ := suM_fr μ i k q k
  obtain ⟨m1, m2, m3⟩ := moM_fr (wL (suM μ i k q k) 93 0 bb) i k q k
  rw [← hM] at m1 m2 m3
  have EA : ∀ a b, a ≠ 89 → ¬ (a = 67 ∧ (b = 28 ∨ b = 0)) → mI M a b = mI (suM μ i k q k) a b := fun a b h1 h2 => by
    rw [m1 a b h1 (by omega), mI_wI, if_neg (by omega)]; rfl
  have E : ∀ a b, a ≠ 89 → ¬ (a = 67 ∧ (b = 28 ∨ b = 0)) → a ≠ 60 → a ≠ 59 → mI M a b = mI μ a b := fun a b h1 h2 h3 h4 => by
    rw [EA a b h1 h2, s1 a b h3 (by omega)]
  have EL : ∀ a b, 27 ≤ a → a < 59 → mL M a b = mL μ a b := fun a b h1 h2 => by
    rw [m2]
    show mL (wL (suM μ i k q k) 93 0 bb) a b = _
    rw [mL_wL, if_neg (by omega), s2 a b (by omega)]
  have e44 := E 4 4 (by omega) (by omega) (by omega) (by omega)
  have e01 := E 0 10 (by omega) (by omega) (by omega) (by omega)
  have e59 := (EA 59 1 (by omega) (by omega)).trans hS.1
  refine ⟨fun a b => ((m3 a b).trans (s3 a b)).trans (hR a b), hIn.cg (fun a b z => E a b (by omega) (by omega) (by omega) (by omega)), hCo.cg (fun a b z => E a b (by omega) (by omega) (by omega) (by omega)), hTx.cg (fun a b z => E a b (by omega) (by omega) (by omega) (by omega)), hRc.cg (fun a b z => E a b (by omega) (by omega) (by omega) (by omega)), ⟨by rw [e59, hS.2.1], by omega, fun j hj => ?_⟩, hPg.cg (fun a b z => E a b (by omega) (by omega) (by omega) (by omega)) (by omega), hCh.cg (fun a b z => E a b (by omega) (by omega) (by omega) (by omega)), hRf.cg (fun a b z => E a b (by omega) (by omega) (by omega) (by omega)) (fun j hj => by rw [E 90 j (by omega) (by omega) (by omega) (by omega)]; exact hRf.1 j hj), hDe.cg (fun a b z => E a b (by omega) (by omega) (by omega) (by omega)) EL (fun b hb => ⟨E 71 b (by omega) (by omega) (by omega) (by omega), E 72 b (by omega) (by omega) (by omega) (by omega)⟩) (by omega) hRf.2.2.1, ?_⟩
  · rw [EA 60 j (by omega) (by omega)]; exact (hS.2.2.1 j (by omega)).1
  · unfold Iv0 at h0 ⊢; rw [e44, E 63 1 (by omega) (by omega) (by omega) (by omega)]; exact h0
theorem le_inv {pg i k : Nat} {μ M : aM} {q : Int} {bb : BitVec 64} (h : Inv pg μ) (hk4 : k ≤ 4) (hM : M = leM (wL (feM μ (27 + 8 * i) k q k) 93 0 bb) i k q k) : Inv pg M := by
  obtain ⟨s1, s2, s3⟩ := feM_fr μ (27 + 8 * i) k q k
  obtain ⟨m1, m2, m3⟩ := leM_fr (wL (feM μ (27 + 8 * i) k q k) 93 0 bb) i k q k
  have hP : okP (wL (feM μ (27 + 8 * i) k q k) 93 0 bb) := fun j hj => by rw [mI_wL, s1 _ _ (by omega)]; exact h.2.2.2.2.2.2.2.2.1.1 j hj
  have hP' := leM_ok (i := i) (k := k) (q := q) hk4 hP k
  rw [← hM] at m1 m2 m3 hP'
  refine h.eqv (fun a b z => ?_) (fun a b h1 h2 => ?_) (fun a b => (m3 a b).trans (s3 a b)) hP'
  · unfold Rv at z
    rw [m1 a b (by omega), mI_wI, if_neg (by omega), mI_wL, s1 a b (by omega)]
  · rw [m2]
    show mL (wL (feM μ (27 + 8 * i) k q k) 93 0 bb) a b = _
    rw [mL_wL, if_neg (by omega), s2 a b (by omega) (by omega)]
end
