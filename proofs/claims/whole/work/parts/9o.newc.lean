/-! a new decision: the class -/
section
theorem cl_new {μ ν : aM} {i md n x s f : Nat} {sh : Bool} {t : Nat → Int} (hi4 : i < 4) (hmd8 : md ≤ 8) (hn40 : n ≤ 40) (n1 : ∀ a b, (a < 11 ∨ 26 < a) → ¬ (a = 9 ∧ b = 1) → mI ν a b = mI μ a b) (n9 : mI ν 9 1 = 0) (nL : ∀ a b, mL ν a b = mL μ a b) (nR : ∀ a b, mR ν a b = mR μ a b) (hau : au t md n = some (false, 1, s)) (hseg : Seg t (mI ν 12) (mI ν 13) (mI ν 14) f 0 1 0 n 0 x) (hcd : ∀ l, l < md → okI (mI μ 6 l) (mI μ 7 l)) (hF : Fre μ i) (hch : ∀ p, p < n → 0 ≤ t p ∧ t p < 65536) (hc2 : ∀ j, 0 ≤ mI μ (27 + 8 * i + 2) j ∧ mI μ (27 + 8 * i + 2) j < 65536) (hst : ∀ c, 0 ≤ mI μ (27 + 8 * i + 4) c ∧ mI μ (27 + 8 * i + 4) c < 64) (hrg : ∀ j, -20 ≤ mI μ 2 j ∧ mI μ 2 j ≤ mI μ 3 j ∧ mI μ 3 j ≤ 20) {A m : aM} (hA : A = tkA (27 + 8 * i) (cn s.testBit 8) s (x + 1) sh (cF (27 + 8 * i) s ν) (cSx (27 + 8 * i) s ν) ν) (hm : m = wI (fwM (27 + 8 * i) (cn s.testBit 8) A) 0 10 ((i : Int) + 1)) :
    (∀ a b, (a < 11 ∨ 26 < a) → ¬ (a = 9 ∧ b = 1) → ¬ (a = 0 ∧ b = 10) → (a < 27 + 8 * i ∨ 35 + 8 * i ≤ a) → mI m a b = mI μ a b) ∧ mI m 9 1 = 0 ∧ mI m 0 10 = (i : Int) + 1 ∧ (∀ a b, a ≠ 15 → a ≠ 16 → (a < 27 + 8 * i ∨ 35 + 8 * i ≤ a) → mL m a b = mL μ a b) ∧ (∀ a b, mR m a b = mR μ a b) ∧ mI m (27 + 8 * i) 7 = ((cn s.testBit 8 : Nat) : Int) ∧ (∀ l, l < 8 → s.testBit l = true → mI m (27 + 8 * i + 3) (cn s.testBit l) = (l : Int)) ∧ (∀ j, 0 ≤ mI m (27 + 8 * i + 2) j ∧ mI m (27 + 8 * i + 2) j < 65536) ∧ (∀ c, 0 ≤ mI m (27 + 8 * i + 4) c ∧ mI m (27 + 8 * i + 4) c < 64) ∧
    (∃ (J L R : Nat → Int) (T : Nat → BitVec 64), Seg t J L R f 0 1 0 n 0 x ∧ okT J L R s (x + 1) ∧ TE J L R (fun l => cn s.testBit l) T (x + 1) ∧ mI m (27 + 8 * i + 1) 1 = ((wr J L R 40 x 0).length : Int) ∧ (∀ j, j < (wr J L R 40 x 0).length → mI m (27 + 8 * i + 2) j = (wr J L R 40 x 0).getD j 0) ∧ mL m (27 + 8 * i) 8 = T x ∧ (∀ c, mL m (27 + 8 * i + 5) c = ev J L R (fun l => cn s.testBit l) T sh c (x + 1) x MO) ∧ (∀ c, c < cn s.testBit 8 → mL m (27 + 8 * i + 6) c = T x ^^^ trn (T x) c ∧ mI m (27 + 8 * i + 4) c = ((wb (fun j => decide (inp (mI μ 6 (mI m (27 + 8 * i + 3) j).toNat) (mI μ 7 (mI m (27 + 8 * i + 3) j).toNat) &&& inp (mI μ 6 (mI m (27 + 8 * i + 3) c).toNat) (mI μ 7 (mI m (27 + 8 * i + 3) c).toNat) = 0)) (cn s.testBit 8) : Nat) : Int))) ∧
    (∀ μ2 : aM, (∀ j, j < cn s.testBit 8 → oU μ2 i j = (mI m (27 + 8 * i + 3) j).toNat) → (∀ b, mI μ2 70 b = mI μ 5 b ∧ mI μ2 71 b = mI μ 6 b ∧ mI μ2 72 b = mI μ 7 b ∧ mI μ2 73 b = mI μ 8 b) → (∀ w, w < 64 → mI μ2 80 (64 * i + w) = 0) → VR (27 + 8 * i) i (cn s.testBit 8) m (fvX (oWd μ2 i (cn s.testBit 8)) i (mI μ 2 0) (ln (mI μ 2 0) (mI μ 3 0)) (mI μ 2 1) (ln (mI μ 2 1) (mI μ 3 1)) (mI μ 2 2) (ln (mI μ 2 2) (mI μ 3 2)) μ2)) := by
  have hin := au_in hmd8 hau
  have h6 := cn8_6 hin.2.2.1 hin.2.2.2
  have h64 : 2 ^ (cn s.testBit 8) ≤ 64 := Nat.pow_le_pow_right (n := 2) (by omega) h6
  generalize hk : cn s.testBit 8 = k at *
  obtain ⟨t1, t2, t3⟩ := tkA_fr (D := 27 + 8 * i) (k := k) (s := s) (n := x + 1) (sh := sh) (F := cF (27 + 8 * i) s ν) (S := cSx (27 + 8 * i) s ν) (μ := ν) (by omega)
  obtain ⟨k1, k2, k3⟩ := tkM_fr (27 + 8 * i) s ν 8
  rw [← hA] at t1 t2 t3
  have eA : ∀ a b, (a < 11 ∨ 26 < a) → ¬ (a = 9 ∧ b = 1) → ¬ (a = 27 + 8 * i ∧ b = 7) → ¬ (27 + 8 * i + 1 ≤ a ∧ a ≤ 27 + 8 * i + 4) → mI A a b = mI μ a b := fun a b h1 h2 h3 h4 => by
    rw [t1 a b (by omega) (by omega) (by omega), k1 a b (by omega) (by omega), n1 a b h1 h2]
  have e3 : ∀ j, mI A (27 + 8 * i + 3) j = mI (tkM (27 + 8 * i) s ν 8) (27 + 8 * i + 3) j := fun j => t1 _ _ (by omega) (by omega) (by omega)
  have hlet : ∀ j, j < k → ∃ l, l < 8 ∧ l < md ∧ s.testBit l = true ∧ mI A (27 + 8 * i + 3) j = (l : Int) := fun j hj => by
    obtain ⟨l, l1, l2, l3⟩ := lt_8 (D := 27 + 8 * i) (μ := ν) (show j < cn s.testBit 8 by omega)
    exact ⟨l, l1, au_md hau l2, l2, (e3 j).trans l3⟩
  have hoi : ∀ j, j < k → okI (mI A 6 (mI A (27 + 8 * i + 3) j).toNat) (mI A 7 (mI A (27 + 8 * i + 3) j).toNat) := fun j hj => by
    obtain ⟨l, l1, l2, l3, l4⟩ := hlet j hj
    rw [l4, Int.toNat_natCast, eA 6 l (by omega) (by omega) (by omega) (by omega), eA 7 l (by omega) (by omega) (by omega) (by omega)]
    exact hcd l l2
  obtain ⟨v1, v2, v3⟩ := fwM_fr (D := 27 + 8 * i) (k := k) (μ := A) hoi
  have eM : ∀ a b, (a < 20 ∨ 25 < a) → a ≠ 27 + 8 * i + 7 → ¬ (a = 0 ∧ b = 10) → mI m a b = mI A a b := fun a b h1 h2 h3 => by
    rw [hm, mI_wI, if_neg h3]; exact v1 a b h1 h2
  have eML : ∀ a b, ¬ (a = 27 + 8 * i ∧ b = 9) → mL m a b = mL A a b := fun a b h => by
    rw [hm]; exact v2 a b h
  have em3 : ∀ j, mI m (27 + 8 * i + 3) j = mI (tkM (27 + 8 * i) s ν 8) (27 + 8 * i + 3) j := fun j => (eM _ _ (by omega) (by omega) (by omega)).trans (e3 j)
  obtain ⟨T, a1, a2, a3, a4, a5, a6, a7⟩ := tkA_at (D := 27 + 8 * i) (k := k) (s := s) (n := x + 1) (sh := sh) (F := cF (27 + 8 * i) s ν) (S := cSx (27 + 8 * i) s ν) (μ := ν) (by omega) (by omega) hseg h6
  rw [← hA] at a2 a3 a4 a5 a6 a7
  rw [Nat.add_sub_cancel] at a2 a3 a4
  have eW : wrM (mI ν 12) (mI ν 13) (mI ν 14) (27 + 8 * i) (x + 1) (tkM (27 + 8 * i) s ν 8) = apM (27 + 8 * i + 1) (wI (tkM (27 + 8 * i) s ν 8) (27 + 8 * i + 1) 1 0) (wr (mI ν 12) (mI ν 13) (mI ν 14) 40 x 0) := rfl
  rw [eW] at a6 a7
  have c0 : mI (wI (tkM (27 + 8 * i) s ν 8) (27 + 8 * i + 1) 1 0) (27 + 8 * i + 1) 1 = ((0 : Nat) : Int) := by rw [mI_wI, if_pos ⟨rfl, rfl⟩]; rfl
  obtain ⟨p1, p2⟩ := apM_at (27 + 8 * i + 1) (wr (mI ν 12) (mI ν 13) (mI ν 14) 40 x 0) _ 0 c0
  have pc := apM_c (27 + 8 * i + 1) (wr (mI ν 12) (mI ν 13) (mI ν 14) 40 x 0) _ 0 c0
  rw [Nat.zero_add] at pc
  have hfr : ∀ a b, (a < 11 ∨ 26 < a) → ¬ (a = 9 ∧ b = 1) → ¬ (a = 0 ∧ b = 10) → (a < 27 + 8 * i ∨ 35 + 8 * i ≤ a) → mI m a b = mI μ a b := fun a b h1 h2 h3 h4 => by
    rw [eM a b (by omega) (by omega) h3, eA a b h1 h2 (by omega) (by omega)]
  have h4c : ∀ c, mI m (27 + 8 * i + 4) c = mI A (27 + 8 * i + 4) c := fun c => eM _ _ (by omega) (by omega) (by omega)
  have hwb : ∀ (g : Nat → Bool), wb g k < 64 := fun g => Nat.lt_of_lt_of_le (wb_lt g k) h64
  refine ⟨hfr, ?_, ?_, fun a b h1 h2 h3 => ?_, fun a b => ?_, ?_, fun l h1 h2 => ?_, fun j => ?_, fun c => ?_, ⟨mI ν 12, mI ν 13, mI ν 14, T, hseg, okT_of hmd8 hau hseg, a1, ?_, fun j hj => ?_, ?_, fun c => ?_, fun c hc => ?_⟩, fun μ2 g1 g2 g3 => ?_⟩
  · rw [eM 9 1 (by omega) (by omega) (by omega), t1 9 1 (by omega) (by omega) (by omega), k1 9 1 (by omega) (by omega), n9]
  · rw [hm, mI_wI, if_pos ⟨rfl, rfl⟩]
  · rw [eML a b (by omega), t2 a b h1 h2 (by omega) (by omega) (by omega), nL]
  · rw [hm]; show mR (fwM _ _ _) a b = _; rw [v3, t3, nR]
  · rw [eM _ _ (by omega) (by omega) (by omega), t1 _ _ (by omega) (by omega) (by omega), tkM_c ((n1 _ _ (by omega) (by omega)).trans hF.1) 8, hk]
  · rw [em3]; exact tkM_at 8 l h1 h2
  · rw [eM (27 + 8 * i + 2) j (by omega) (by omega) (by omega), a7]
    refine apM_ch _ _ (fun z hz => ?_) (fun j => ?_) j
    · rw [← show_all hn40 hseg] at hz
      obtain ⟨q, -, q2, rfl⟩ := osg_mem _ _ _ hz
      exact hch q (by omega)
    · rw [mI_wI, if_neg (by omega), k1 _ _ (by omega) (by omega), n1 _ _ (by omega) (by omega)]
      exact hc2 j
  · rw [h4c]
    by_cases hc : c < k
    · rw [(a4 c hc).2]
      have := hwb (fun j => decide (inp (cF (27 + 8 * i) s ν j) (cSx (27 + 8 * i) s ν j) &&& inp (cF (27 + 8 * i) s ν c) (cSx (27 + 8 * i) s ν c) = 0))
      omega
    · rw [a5 c (by omega), n1 _ _ (by omega) (by omega)]; exact hst c
  · rw [eM _ _ (by omega) (by omega) (by omega), a6]; exact pc
  · rw [eM _ _ (by omega) (by omega) (by omega), a7]
    have := p2 j hj
    rw [Nat.zero_add] at this
    exact this
  · rw [eML _ _ (by omega), a2]
  · rw [eML _ _ (by omega), a3, nL, hF.2.2.1 c]; exact BitVec.zero_or
  · have eF : cF (27 + 8 * i) s ν = fun j => mI μ 6 (mI m (27 + 8 * i + 3) j).toNat := funext fun j => by unfold cF; rw [em3 j]; exact n1 6 _ (by omega) (by omega)
    have eS : cSx (27 + 8 * i) s ν = fun j => mI μ 7 (mI m (27 + 8 * i + 3) j).toNat := funext fun j => by unfold cSx; rw [em3 j]; exact n1 7 _ (by omega) (by omega)
    rw [eML _ _ (by omega), h4c, (a4 c hc).1, (a4 c hc).2, eF, eS]
    exact ⟨rfl, rfl⟩
  · have eV : fwM (27 + 8 * i) k A = cwX (fun j => mI A 6 (mI A (27 + 8 * i + 3) j).toNat) (fun j => mI A 7 (mI A (27 + 8 * i + 3) j).toNat) (fun j δ => decide (hz (mI A 5 (mI A (27 + 8 * i + 3) j).toNat) δ (mI A 8 (mI A (27 + 8 * i + 3) j).toNat) = 1)) (27 + 8 * i) k (mI μ 2 0) (ln (mI μ 2 0) (mI μ 3 0)) (mI μ 2 1) (ln (mI μ 2 1) (mI μ 3 1)) (mI μ 2 2) (ln (mI μ 2 2) (mI μ 3 2)) (fbM (fun j => mI A 6 (mI A (27 + 8 * i + 3) j).toNat) (fun j => mI A 7 (mI A (27 + 8 * i + 3) j).toNat) (fun j δ => decide (hz (mI A 5 (mI A (27 + 8 * i + 3) j).toNat) δ (mI A 8 (mI A (27 + 8 * i + 3) j).toNat) = 1)) A k) := by
      unfold fwM
      rw [eA 2 0 (by omega) (by omega) (by omega) (by omega), eA 2 1 (by omega) (by omega) (by omega) (by omega), eA 2 2 (by omega) (by omega) (by omega) (by omega), eA 3 0 (by omega) (by omega) (by omega) (by omega), eA 3 1 (by omega) (by omega) (by omega) (by omega), eA 3 2 (by omega) (by omega) (by omega) (by omega)]
    have hfb := fbM_fr (F := fun j => mI A 6 (mI A (27 + 8 * i + 3) j).toNat) (S := fun j => mI A 7 (mI A (27 + 8 * i + 3) j).toNat) (Hh := fun j δ => decide (hz (mI A 5 (mI A (27 + 8 * i + 3) j).toNat) δ (mI A 8 (mI A (27 + 8 * i + 3) j).toNat) = 1)) (m := A) k hoi
    have hV : VR (27 + 8 * i) i k (fwM (27 + 8 * i) k A) (fvX (oWd μ2 i k) i (mI μ 2 0) (ln (mI μ 2 0) (mI μ 3 0)) (mI μ 2 1) (ln (mI μ 2 1) (mI μ 3 1)) (mI μ 2 2) (ln (mI μ 2 2) (mI μ 3 2)) μ2) := by
      rw [eV]
      refine vr_all h6 (fun x y z x1 x2 y1 y2 z1 z2 => ⟨?_, wb_lt _ _⟩) ⟨fun w hw => ?_, fun w hw h0 => absurd (g3 w (by omega)) h0⟩
      · have r0 := hrg 0
        have r1 := hrg 1
        have r2 := hrg 2
        unfold ln at x2 y2 z2
        rw [cw_eq hoi (by omega) (by omega) (by omega)]
        refine wb_ext k (fun j hj => ?_)
        obtain ⟨l, l1, l2, l3, l4⟩ := hlet j hj
        have eU : oU μ2 i j = l := by rw [g1 j hj, em3, ← e3, l4, Int.toNat_natCast]
        obtain ⟨q1, q2, q3, q4⟩ := g2 l
        show decide _ = oHd μ2 (oU μ2 i j) x y z
        unfold oHd
        rw [eU, l4, Int.toNat_natCast, q1, q2, q3, q4, eA 5 l (by omega) (by omega) (by omega) (by omega), eA 6 l (by omega) (by omega) (by omega) (by omega), eA 7 l (by omega) (by omega) (by omega) (by omega), eA 8 l (by omega) (by omega) (by omega) (by omega)]
      · rw [hfb.2.1, t2 _ _ (by omega) (by omega) (by omega) (by omega) (by omega), nL, hF.2.1, g3 w hw]
        simp
    refine ⟨fun w hw => ?_, fun w hw h0 x hx => ?_⟩
    · rw [← hV.1 w hw, hm]; rfl
    · rw [← hV.2 w hw h0 x hx, hm, mI_wI, if_neg (by omega)]
end
