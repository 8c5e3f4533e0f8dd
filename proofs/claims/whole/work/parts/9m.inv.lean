/-! what class and reference hold alike between two calls -/
section
def IvIn (μ : aM) : Prop := mI μ 1 2 = mI μ 67 1 ∧ 0 ≤ mI μ 1 2 ∧ mI μ 1 2 ≤ 3 ∧ (∀ j, mI μ 2 j = mI μ 68 j) ∧ (∀ j, mI μ 3 j = mI μ 69 j) ∧ (∀ j, -20 ≤ mI μ 2 j ∧ mI μ 2 j ≤ mI μ 3 j ∧ mI μ 3 j ≤ 20) ∧ (∀ j : Nat, mI μ 1 2 ≤ (j : Int) → mI μ 2 j = 0 ∧ mI μ 3 j = 0)
theorem IvIn.cg {μ m : aM} (h : IvIn μ) (e : ∀ a b, (a = 1 ∨ a = 2 ∨ a = 3 ∨ a = 68 ∨ a = 69 ∨ (a = 67 ∧ b = 1)) → mI m a b = mI μ a b) : IvIn m := by
  unfold IvIn at h ⊢
  simp (disch := omega) only [e]
  exact h
def IvCo (μ : aM) : Prop := mI μ 4 4 = mI μ 67 4 ∧ 0 ≤ mI μ 4 4 ∧ mI μ 4 4 ≤ 8 ∧ (∀ j, mI μ 5 j = mI μ 70 j ∧ mI μ 6 j = mI μ 71 j ∧ mI μ 7 j = mI μ 72 j ∧ mI μ 8 j = mI μ 73 j) ∧ (∀ j : Nat, (j : Int) < mI μ 4 4 → 0 ≤ mI μ 5 j ∧ okI (mI μ 6 j) (mI μ 7 j) ∧ mI μ 6 j < mI μ 1 2 ∧ mI μ 7 j < mI μ 1 2)
theorem IvCo.cg {μ m : aM} (h : IvCo μ) (e : ∀ a b, ((4 ≤ a ∧ a ≤ 8) ∨ (70 ≤ a ∧ a ≤ 73) ∨ a = 1 ∨ (a = 67 ∧ b = 4)) → mI m a b = mI μ a b) : IvCo m := by
  unfold IvCo at h ⊢
  simp (disch := omega) only [e]
  exact h
def IvTx (μ : aM) : Prop := mI μ 9 1 = mI μ 67 9 ∧ 0 ≤ mI μ 9 1 ∧ mI μ 9 1 ≤ 40 ∧ (∀ j, mI μ 10 j = mI μ 74 j) ∧ (∀ j, 0 ≤ mI μ 74 j ∧ mI μ 74 j < 65536)
theorem IvTx.cg {μ m : aM} (h : IvTx μ) (e : ∀ a b, (a = 9 ∨ a = 10 ∨ a = 74 ∨ (a = 67 ∧ b = 9)) → mI m a b = mI μ a b) : IvTx m := by
  unfold IvTx at h ⊢
  simp (disch := omega) only [e]
  exact h
def IvRc (μ : aM) : Prop := mI μ 63 1 = mI μ 67 31 ∧ 0 ≤ mI μ 63 1 ∧ mI μ 63 1 ≤ 12 ∧ (∀ j, mI μ 64 j = mI μ 91 j) ∧ (∀ j, inR (mI μ 91 j)) ∧ (∀ r : Nat, (r : Int) < mI μ 63 1 → ∀ x : Nat, (x : Int) < mI μ 1 2 → -20 ≤ mI μ 91 (3 * r + x) ∧ mI μ 91 (3 * r + x) ≤ 20)
theorem IvRc.cg {μ m : aM} (h : IvRc μ) (e : ∀ a b, (a = 63 ∨ a = 64 ∨ a = 91 ∨ a = 1 ∨ (a = 67 ∧ b = 31)) → mI m a b = mI μ a b) : IvRc m := by
  unfold IvRc at h ⊢
  simp (disch := omega) only [e]
  exact h
def IvSu (μ : aM) : Prop := mI μ 59 1 = mI μ 67 28 ∧ mI μ 59 1 ≤ 12 ∧ ∀ j : Nat, (j : Int) < mI μ 59 1 → mI μ 60 j = mI μ 89 j
theorem IvSu.cg {μ m : aM} (h : IvSu μ) (e : ∀ a b, (a = 59 ∨ a = 60 ∨ a = 89 ∨ (a = 67 ∧ b = 28)) → mI m a b = mI μ a b) : IvSu m := by
  unfold IvSu at h ⊢
  simp (disch := omega) only [e]
  exact h
def IvPg (pg : Nat) (μ : aM) : Prop := (pg = 65 ∨ ∃ i : Nat, i < 4 ∧ pg = 27 + 8 * i + 1 ∧ (i : Int) < mI μ 0 10) ∧ mI μ pg 1 = mI μ 67 33 ∧ mI μ pg 1 ≤ 40 ∧ (∀ j : Nat, (j : Int) < mI μ pg 1 → mI μ (pg + 1) j = mI μ 92 j)
theorem IvPg.cg {pg : Nat} {μ m : aM} (h : IvPg pg μ) (e : ∀ a b, (a = pg ∨ a = pg + 1 ∨ a = 92 ∨ (a = 67 ∧ b = 33)) → mI m a b = mI μ a b) (e0 : mI μ 0 10 ≤ mI m 0 10) : IvPg pg m := by
  obtain ⟨h0, h1, h2, h3⟩ := h
  refine ⟨h0.imp id (fun ⟨i, i1, i2, i3⟩ => ⟨i, i1, i2, by omega⟩), ?_⟩
  simp (disch := omega) only [e]
  exact ⟨h1, h2, h3⟩
def IvCh (μ : aM) : Prop := (∀ j, 0 ≤ mI μ 66 j ∧ mI μ 66 j < 65536) ∧ (∀ j, 0 ≤ mI μ 92 j ∧ mI μ 92 j < 65536) ∧ (∀ i, i < 4 → ∀ j, 0 ≤ mI μ (27 + 8 * i + 2) j ∧ mI μ (27 + 8 * i + 2) j < 65536)
theorem IvCh.cg {μ m : aM} (h : IvCh μ) (e : ∀ a b, (a = 66 ∨ a = 92 ∨ (27 ≤ a ∧ a < 59)) → mI m a b = mI μ a b) : IvCh m := by
  obtain ⟨h1, h2, h3⟩ := h
  exact ⟨fun j => by rw [e 66 j (by omega)]; exact h1 j, fun j => by rw [e 92 j (by omega)]; exact h2 j, fun i hi j => by rw [e (27 + 8 * i + 2) j (by omega)]; exact h3 i hi j⟩
def IvRf (μ : aM) : Prop := okP μ ∧ (∀ j, 0 ≤ mI μ 83 j ∧ mI μ 83 j < 64) ∧ (∀ j, 0 ≤ mI μ 79 j ∧ mI μ 79 j < 8) ∧ (∀ i, i < 4 → ∀ c, 0 ≤ mI μ (27 + 8 * i + 4) c ∧ mI μ (27 + 8 * i + 4) c < 64)
theorem IvRf.cg {μ m : aM} (h : IvRf μ) (e : ∀ a b, (a = 83 ∨ a = 79 ∨ (27 ≤ a ∧ a < 59)) → mI m a b = mI μ a b) (hP : okP m) : IvRf m := by
  obtain ⟨h0, h1, h2, h3⟩ := h
  exact ⟨hP, fun j => by rw [e 83 j (by omega)]; exact h1 j, fun j => by rw [e 79 j (by omega)]; exact h2 j, fun i hi j => by rw [e (27 + 8 * i + 4) j (by omega)]; exact h3 i hi j⟩
def Shw (μ : aM) (i : Nat) : Prop := ∃ (J L R : Nat → Int) (f x n : Nat), n ≤ 40 ∧ mI μ 76 i = (n : Int) ∧ Seg (fun q => mI μ 75 (40 * i + q)) J L R f 0 1 0 n 0 x ∧ mI μ (27 + 8 * i + 1) 1 = ((wr J L R 40 x 0).length : Int) ∧ (∀ j, j < (wr J L R 40 x 0).length → mI μ (27 + 8 * i + 2) j = (wr J L R 40 x 0).getD j 0) ∧ (∀ p, p < n → 0 ≤ mI μ 75 (40 * i + p) ∧ mI μ 75 (40 * i + p) < 65536)
theorem Shw.cg {μ m : aM} {i : Nat} (h : Shw μ i) (e : ∀ a b, ((a = 76 ∧ b = i) ∨ (a = 75 ∧ 40 * i ≤ b ∧ b < 40 * i + 40) ∨ a = 27 + 8 * i + 1 ∨ a = 27 + 8 * i + 2) → mI m a b = mI μ a b) : Shw m i := by
  obtain ⟨J, L, R, f, x, n, h1, h2, h3, h4, h5, h6⟩ := h
  exact ⟨J, L, R, f, x, n, h1, (e _ _ (by omega)).trans h2, Seg_txt (fun p _ hp => e 75 (40 * i + p) (by omega)) h3, (e _ _ (by omega)).trans h4, fun j hj => (e _ _ (by omega)).trans (h5 j hj), fun p hp => by rw [e _ _ (by omega)]; exact h6 p hp⟩
theorem DW_cg {μ m : aM} {i k : Nat} (h6 : k ≤ 6) (h : DW μ i k) (eL : ∀ a b, 27 + 8 * i ≤ a → a < 35 + 8 * i → mL m a b = mL μ a b) (e4 : ∀ b, mI m (27 + 8 * i + 4) b = mI μ (27 + 8 * i + 4) b) (e0 : ∀ w, w < 64 → mI m 80 (64 * i + w) = mI μ 80 (64 * i + w) ∧ mI m 82 (64 * i + w) = mI μ 82 (64 * i + w) ∧ mI m 83 (64 * i + w) = mI μ 83 (64 * i + w)) (e9 : ∀ j, j < k → mI m 79 (6 * i + j) = mI μ 79 (6 * i + j)) (ec : ∀ j, j < k → mI m 71 (oU μ i j) = mI μ 71 (oU μ i j) ∧ mI m 72 (oU μ i j) = mI μ 72 (oU μ i j)) : DW m i k := by
  obtain ⟨h1, h2, h3, h4, h5, h7⟩ := h
  have hp : 2 ^ k ≤ 64 := Nat.pow_le_pow_right (n := 2) (by omega) h6
  have eC : ∀ w, w < 64 → oC m i w = oC μ i w := fun w hw => (e0 w hw).2.1
  have eU : ∀ j, j < k → oU m i j = oU μ i j := fun j hj => by unfold oU; rw [e9 j hj]
  refine ⟨fun w hw => by rw [eC w hw]; exact h1 w hw, fun w hw => by rw [eL _ _ (by omega) (by omega), eC w (by omega)]; exact h2 w hw, fun w hw => ?_, fun c hc w hw => ?_, fun c hc w hw => ?_, fun c hc => ?_⟩
  · rw [eL _ _ (by omega) (by omega), show oK m i w = oK μ i w from by unfold oK; rw [(e0 w hw).1]]; exact h3 w hw
  · rw [eL _ _ (by omega) (by omega), show oS m i w = oS μ i w from by unfold oS; rw [(e0 w (by omega)).2.2]]; exact h4 c hc w hw
  · have hx : w ^^^ 2 ^ c < 2 ^ k := Nat.xor_lt_two_pow hw (Nat.pow_lt_pow_right (by omega) hc)
    rw [eL _ _ (by omega) (by omega), show oT m i w c = oT μ i w c from by unfold oT; rw [eC w (by omega), eC _ (by omega)]]; exact h5 c hc w hw
  · obtain ⟨t, t1, t2, t3⟩ := h7 c hc
    refine ⟨t, (e4 c).trans t1, t2, fun j hj => ?_⟩
    rw [t3 j hj, show oH m i c j = oH μ i c j from by unfold oH; rw [eU c hc, eU j hj, (ec c hc).1, (ec c hc).2, (ec j hj).1, (ec j hj).2]]
def Dec (μ : aM) (i : Nat) : Prop := ∃ k : Nat, k ≤ 6 ∧ mI μ (27 + 8 * i) 7 = (k : Int) ∧ mI μ 78 i = (k : Int) ∧ DW μ i k ∧ (∀ j, j < k → mI μ (27 + 8 * i + 3) j = mI μ 79 (6 * i + j) ∧ mI μ 79 (6 * i + j) < mI μ 4 4) ∧ (∀ w, w < 2 ^ k → oK μ i w = true → ∀ x, x < 3 → mI μ (27 + 8 * i + 7) (3 * w + x) = mI μ 81 (3 * (64 * i + w) + x)) ∧ Shw μ i
theorem Dec.cg {μ m : aM} {i : Nat} (h : Dec μ i) (e : ∀ a b, ((27 + 8 * i ≤ a ∧ a < 35 + 8 * i) ∨ ((a = 76 ∨ a = 78) ∧ b = i) ∨ (a = 75 ∧ 40 * i ≤ b ∧ b < 40 * i + 40) ∨ (a = 79 ∧ 6 * i ≤ b ∧ b < 6 * i + 6) ∨ ((a = 80 ∨ a = 82 ∨ a = 83) ∧ 64 * i ≤ b ∧ b < 64 * i + 64) ∨ (a = 81 ∧ 192 * i ≤ b ∧ b < 192 * i + 192)) → mI m a b = mI μ a b) (eL : ∀ a b, 27 + 8 * i ≤ a → a < 35 + 8 * i → mL m a b = mL μ a b) (ec : ∀ b : Nat, (b : Int) < mI μ 4 4 → mI m 71 b = mI μ 71 b ∧ mI m 72 b = mI μ 72 b) (e4 : mI μ 4 4 ≤ mI m 4 4) (hu : ∀ j, 0 ≤ mI μ 79 j ∧ mI μ 79 j < 8) : Dec m i := by
  obtain ⟨k, h6, h1, h2, h3, h4, h5, h7⟩ := h
  have hp : 2 ^ k ≤ 64 := Nat.pow_le_pow_right (n := 2) (by omega) h6
  refine ⟨k, h6, (e _ _ (by omega)).trans h1, (e _ _ (by omega)).trans h2, ?_, fun j hj => ?_, fun w hw hk x hx => ?_, h7.cg (fun a b z => e a b (by omega))⟩
  · refine DW_cg h6 h3 eL (fun b => e _ _ (by omega)) (fun w hw => ⟨e _ _ (by omega), e _ _ (by omega), e _ _ (by omega)⟩) (fun j hj => e _ _ (by omega)) (fun j hj => ec _ ?_)
    have := h4 j hj
    have := hu (6 * i + j)
    unfold oU
    omega
  · rw [e _ _ (by omega), e 79 _ (by omega)]
    exact ⟨(h4 j hj).1, by have := (h4 j hj).2; omega⟩
  · rw [e (27 + 8 * i + 7) _ (by omega), e 81 _ (by omega)]
    exact h5 w hw (by rw [show oK μ i w = oK m i w from by unfold oK; rw [e 80 _ (by omega)]]; exact hk) x hx
def Fre (μ : aM) (i : Nat) : Prop := mI μ (27 + 8 * i) 7 = 0 ∧ mL μ (27 + 8 * i) 9 = 0 ∧ (∀ c, mL μ (27 + 8 * i + 5) c = 0) ∧ (∀ w, w < 64 → mI μ 80 (64 * i + w) = 0 ∧ mI μ 82 (64 * i + w) = 0)
theorem Fre.cg {μ m : aM} {i : Nat} (h : Fre μ i) (e : ∀ a b, ((27 + 8 * i ≤ a ∧ a < 35 + 8 * i) ∨ ((a = 80 ∨ a = 82) ∧ 64 * i ≤ b ∧ b < 64 * i + 64)) → mI m a b = mI μ a b) (eL : ∀ a b, 27 + 8 * i ≤ a → a < 35 + 8 * i → mL m a b = mL μ a b) : Fre m i := by
  obtain ⟨h1, h2, h3, h4⟩ := h
  exact ⟨(e _ _ (by omega)).trans h1, (eL _ _ (by omega) (by omega)).trans h2, fun c => (eL _ _ (by omega) (by omega)).trans (h3 c), fun w hw => ⟨(e _ _ (by omega)).trans (h4 w hw).1, (e _ _ (by omega)).trans (h4 w hw).2⟩⟩
def IvDe (μ : aM) : Prop := mI μ 0 10 = mI μ 67 11 ∧ 0 ≤ mI μ 0 10 ∧ mI μ 0 10 ≤ 4 ∧ (∀ i : Nat, (i : Int) < mI μ 0 10 → Dec μ i) ∧ (∀ i : Nat, mI μ 0 10 ≤ (i : Int) → i < 4 → Fre μ i)
theorem IvDe.cg {μ m : aM} (h : IvDe μ) (e : ∀ a b, ((27 ≤ a ∧ a < 59) ∨ (75 ≤ a ∧ a < 84) ∨ (a = 0 ∧ b = 10) ∨ (a = 67 ∧ b = 11)) → mI m a b = mI μ a b) (eL : ∀ a b, 27 ≤ a → a < 59 → mL m a b = mL μ a b) (ec : ∀ b : Nat, (b : Int) < mI μ 4 4 → mI m 71 b = mI μ 71 b ∧ mI m 72 b = mI μ 72 b) (e4 : mI μ 4 4 ≤ mI m 4 4) (hu : ∀ j, 0 ≤ mI μ 79 j ∧ mI μ 79 j < 8) : IvDe m := by
  obtain ⟨h1, h2, h3, h4, h5⟩ := h
  have e0 := e 0 10 (by omega)
  refine ⟨by rw [e0, e 67 11 (by omega)]; exact h1, by omega, by omega, fun i hi => ?_, fun i hi hi4 => ?_⟩
  · exact (h4 i (by omega)).cg (fun a b z => e a b (by omega)) (fun a b z1 z2 => eL a b (by omega) (by omega)) ec e4 hu
  · exact (h5 i (by omega) hi4).cg (fun a b z => e a b (by omega)) (fun a b z1 z2 => eL a b (by omega) (by omega))
def Iv0 (μ : aM) : Prop := mI μ 4 4 = 0 → mI μ 63 1 = 0
def Inv (pg : Nat) (μ : aM) : Prop := (∀ k j, mR μ k j = R0 pg k j) ∧ IvIn μ ∧ IvCo μ ∧ IvTx μ ∧ IvRc μ ∧ IvSu μ ∧ IvPg pg μ ∧ IvCh μ ∧ IvRf μ ∧ IvDe μ ∧ Iv0 μ
/-- cells that the invariant speaks of -/
def Rv (a b : Nat) : Prop := a < 11 ∨ (26 < a ∧ a < 61) ∨ (62 < a ∧ a < 67) ∨ (a = 67 ∧ (b = 1 ∨ b = 4 ∨ b = 9 ∨ b = 11 ∨ b = 28 ∨ b = 31 ∨ b = 33)) ∨ (67 < a ∧ a < 84) ∨ a = 89 ∨ a = 91 ∨ a = 92
theorem pg_in {pg : Nat} {μ : aM} (h : IvPg pg μ) : (27 ≤ pg ∧ pg < 59 ∧ pg + 1 < 59) ∨ pg = 65 := by
  rcases h.1 with h | ⟨i, h1, h2, -⟩ <;> omega
theorem Inv.eqv {pg : Nat} {μ m : aM} (h : Inv pg μ) (e : ∀ a b, Rv a b → mI m a b = mI μ a b) (eL : ∀ a b, 27 ≤ a → a < 59 → mL m a b = mL μ a b) (eR : ∀ a b, mR m a b = mR μ a b) (hP : okP m) : Inv pg m := by
  obtain ⟨hR, hIn, hCo, hTx, hRc, hSu, hPg, hCh, hRf, hDe, h0⟩ := h
  have hpg := pg_in hPg
  unfold Rv at e
  have e44 := e 4 4 (by omega)
  have e01 := e 0 10 (by omega)
  refine ⟨fun k j => (eR k j).trans (hR k j), hIn.cg (fun a b z => e a b (by omega)), hCo.cg (fun a b z => e a b (by omega)), hTx.cg (fun a b z => e a b (by omega)), hRc.cg (fun a b z => e a b (by omega)), hSu.cg (fun a b z => e a b (by omega)), hPg.cg (fun a b z => e a b (by omega)) (by omega), hCh.cg (fun a b z => e a b (by omega)), hRf.cg (fun a b z => e a b (by omega)) hP, hDe.cg (fun a b z => e a b (by omega)) eL (fun b _ => ⟨e 71 b (by omega), e 72 b (by omega)⟩) (by omega) hRf.2.2.1, ?_⟩
  unfold Iv0 at h0 ⊢
  rw [e44, e 63 1 (by omega)]; exact h0
/-- fault and answer alone -/
theorem Inv.k0 {pg : Nat} {μ m : aM} (h : Inv pg μ) (hm : (∃ b, m = wI (wL μ 93 0 b) 67 0 0) ∨ (∃ z, m = wI μ 67 0 z)) : Inv pg m := by
  have hP : okP μ := h.2.2.2.2.2.2.2.2.1.1
  rcases hm with ⟨b, rfl⟩ | ⟨z, rfl⟩
  · exact h.eqv (fun a b z => by unfold Rv at z; rw [mI_wI, if_neg (by omega)]; rfl) (fun a b z1 z2 => by show mL (wL μ 93 0 _) a b = _; rw [mL_wL, if_neg (by omega)]) (fun _ _ => rfl) hP
  · exact h.eqv (fun a b z => by unfold Rv at z; rw [mI_wI, if_neg (by omega)]) (fun a b z1 z2 => rfl) (fun _ _ => rfl) hP
set_option maxRecDepth 100000 in
theorem inv_F : Inv 65 mF := by
  refine ⟨hR_F, ⟨rfl, by decide, by decide, fun _ => rfl, fun _ => rfl, fun j => ?_, fun j _ => ⟨rfl, rfl⟩⟩, ⟨rfl, by decide, by decide, fun _ => ⟨rfl, rfl, rfl, rfl⟩, fun j hj => ?_⟩, ⟨rfl, by decide, by decide, fun _ => rfl, fun j => ?_⟩, ⟨rfl, by decide, by decide, fun _ => rfl, fun j => ?_, fun r hr => ?_⟩, ⟨rfl, by decide, fun j hj => ?_⟩, ⟨Or.inl rfl, rfl, by decide, fun j hj => ?_⟩, ⟨fun j => ?_, fun j => ?_, fun i hi j => ?_⟩, ⟨fun j _ => ?_, fun j => ?_, fun j => ?_, fun i hi j => ?_⟩, ⟨rfl, by decide, by decide, fun i hi => ?_, fun i _ hi => ?_⟩, fun _ => rfl⟩
  · show -20 ≤ (0 : Int) ∧ (0 : Int) ≤ 0 ∧ (0 : Int) ≤ 20; omega
  · have hj : (j : Int) < 0 := hj; omega
  · show 0 ≤ (0 : Int) ∧ (0 : Int) < 65536; omega
  · exact inR_0
  · have hr : (r : Int) < 0 := hr; omega
  · have hj : (j : Int) < 0 := hj; omega
  · have hj : (j : Int) < 0 := hj; omega
  · show 0 ≤ (0 : Int) ∧ (0 : Int) < 65536; omega
  · show 0 ≤ (0 : Int) ∧ (0 : Int) < 65536; omega
  · match i, hi with
    | 0, _ => show 0 ≤ (0 : Int) ∧ (0 : Int) < 65536; omega
    | 1, _ => show 0 ≤ (0 : Int) ∧ (0 : Int) < 65536; omega
    | 2, _ => show 0 ≤ (0 : Int) ∧ (0 : Int) < 65536; omega
    | 3, _ => show 0 ≤ (0 : Int) ∧ (0 : Int) < 65536; omega
    | i + 4, hi => omega
  · show 0 ≤ (0 : Int) ∧ (0 : Int) < 65536; omega
  · show 0 ≤ (0 : Int) ∧ (0 : Int) < 64; omega
  · show 0 ≤ (0 : Int) ∧ (0 : Int) < 8; omega
  · match i, hi with
    | 0, _ => show 0 ≤ (0 : Int) ∧ (0 : Int) < 64; omega
    | 1, _ => show 0 ≤ (0 : Int) ∧ (0 : Int) < 64; omega
    | 2, _ => show 0 ≤ (0 : Int) ∧ (0 : Int) < 64; omega
    | 3, _ => show 0 ≤ (0 : Int) ∧ (0 : Int) < 64; omega
    | i + 4, hi => omega
  · have hi : (i : Int) < 0 := hi; omega
  · match i, hi with
    | 0, _ => exact ⟨rfl, rfl, fun _ => rfl, fun _ _ => ⟨rfl, rfl⟩⟩
    | 1, _ => exact ⟨rfl, rfl, fun _ => rfl, fun _ _ => ⟨rfl, rfl⟩⟩
    | 2, _ => exact ⟨rfl, rfl, fun _ => rfl, fun _ _ => ⟨rfl, rfl⟩⟩
    | 3, _ => exact ⟨rfl, rfl, fun _ => rfl, fun _ _ => ⟨rfl, rfl⟩⟩
    | i + 4, hi => omega
end
