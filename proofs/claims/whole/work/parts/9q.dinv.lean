/-! a new decision keeps the invariant -/
section
theorem bI_o (b : Bool) : bI b = 0 ∨ bI b = 1 := by cases b <;> simp [bI]
theorem bI_1 (b : Bool) : decide (bI b = 1) = b := by cases b <;> rfl
theorem bI_x (a b : Bool) : (a ^^ b) = decide (¬ bI a = bI b) := by cases a <;> cases b <;> rfl
theorem dec_one {μ m m0 M μ2 : aM} {i md n x s f : Nat} {sh : Bool} {bb : BitVec 64} {J L R : Nat → Int} {T : Nat → BitVec 64} (hi4 : i < 4) (hmd8 : md ≤ 8) (hn40 : n ≤ 40) (hCo : IvCo μ) (hmd : mI μ 4 4 = (md : Int)) (hch : ∀ j, 0 ≤ mI μ 74 j ∧ mI μ 74 j < 65536) (hF : Fre μ i) (hau : au (mI μ 74) md n = some (false, 1, s))
    (c1 : ∀ a b, (a < 11 ∨ 26 < a) → ¬ (a = 9 ∧ b = 1) → ¬ (a = 0 ∧ b = 10) → (a < 27 + 8 * i ∨ 35 + 8 * i ≤ a) → mI m a b = mI μ a b) (c6 : mI m (27 + 8 * i) 7 = ((cn s.testBit 8 : Nat) : Int)) (c7 : ∀ l, l < 8 → s.testBit l = true → mI m (27 + 8 * i + 3) (cn s.testBit l) = (l : Int))
    (s1 : Seg (mI μ 74) J L R f 0 1 0 n 0 x) (s2 : okT J L R s (x + 1)) (s3 : TE J L R (fun l => cn s.testBit l) T (x + 1)) (s4 : mI m (27 + 8 * i + 1) 1 = ((wr J L R 40 x 0).length : Int)) (s5 : ∀ j, j < (wr J L R 40 x 0).length → mI m (27 + 8 * i + 2) j = (wr J L R 40 x 0).getD j 0) (s6 : mL m (27 + 8 * i) 8 = T x) (s7 : ∀ c, mL m (27 + 8 * i + 5) c = ev J L R (fun l => cn s.testBit l) T sh c (x + 1) x MO) (s8 : ∀ c, c < cn s.testBit 8 → mL m (27 + 8 * i + 6) c = T x ^^^ trn (T x) c ∧ mI m (27 + 8 * i + 4) c = ((wb (fun j => decide (inp (mI μ 6 (mI m (27 + 8 * i + 3) j).toNat) (mI μ 7 (mI m (27 + 8 * i + 3) j).toNat) &&& inp (mI μ 6 (mI m (27 + 8 * i + 3) c).toNat) (mI μ 7 (mI m (27 + 8 * i + 3) c).toNat) = 0)) (cn s.testBit 8) : Nat) : Int))
    (hm0 : m0 = wL m 93 0 bb)
    (r1 : ∀ a b, (a < 75 ∨ 88 < a) → ¬ (a = 67 ∧ (b = 0 ∨ b = 9 ∨ b = 11 ∨ b = 26 ∨ b = 27)) → mI M a b = mI m0 a b) (r5 : mI M 76 i = (n : Int)) (r6 : mI M 78 i = ((cn s.testBit 8 : Nat) : Int)) (r7 : ∀ u, u < n → mI M 75 (40 * i + u) = mI m0 74 u) (r8 : ∀ l, l < 8 → s.testBit l = true → mI M 79 (6 * i + cn s.testBit l) = (l : Int)) (t7 : Nat → Int) (ht7 : ∀ u, u < n → t7 u = mI μ 74 u)
    (r9 : ∀ u, u < 2 ^ (cn s.testBit 8) → mI M 82 (64 * i + u) = bI (gO (gEndX (gRun t7 sh (fun l => cn s.testBit l) u n 0 gS0)) 0) ∧ mI M 83 (64 * i + u) = (if sh = true then ((gSn (gRun t7 sh (fun l => cn s.testBit l) u n 0 gS0) : Nat) : Int) else ((2 ^ (cn s.testBit 8) - 1 : Nat) : Int)))
    (r10 : ∀ b, 64 * i + 2 ^ (cn s.testBit 8) ≤ b → mI M 82 b = mI m0 82 b) (r11 : ∀ a b, mL M a b = mL m0 a b) (hV : VR (27 + 8 * i) i (cn s.testBit 8) m M) : Dec M i ∧ ∀ u, u < 2 ^ (cn s.testBit 8) → 0 ≤ mI M 83 (64 * i + u) ∧ mI M 83 (64 * i + u) < 64 := by
  have hin := au_in hmd8 hau
  have h6 : cn s.testBit 8 ≤ 6 := cn8_6 hin.2.2.1 hin.2.2.2
  have h64 : 2 ^ (cn s.testBit 8) ≤ 64 := Nat.pow_le_pow_right (n := 2) (by omega) h6
  have hI0 : ∀ a b, mI m0 a b = mI m a b := fun a b => by rw [hm0]; rfl
  have hL0 : ∀ a b, a ≠ 93 → mL m0 a b = mL m a b := fun a b h => by rw [hm0, mL_wL, if_neg (by omega)]
  have eD : ∀ a b, 27 + 8 * i ≤ a → a < 35 + 8 * i → mI M a b = mI m a b := fun a b h1 h2 => by rw [r1 a b (by omega) (by omega), hI0]
  have eDL : ∀ a b, 27 + 8 * i ≤ a → a < 35 + 8 * i → mL M a b = mL m a b := fun a b h1 h2 => by rw [r11 a b, hL0 a b (by omega)]
  have e7 : ∀ a b, (70 ≤ a ∧ a ≤ 74) → mI M a b = mI μ a b := fun a b h => by rw [r1 a b (by omega) (by omega), hI0, c1 a b (by omega) (by omega) (by omega) (by omega)]
  have hlet : ∀ j, j < cn s.testBit 8 → ∃ l, l < 8 ∧ l < md ∧ s.testBit l = true ∧ cn s.testBit l = j ∧ mI m (27 + 8 * i + 3) j = (l : Int) ∧ mI M 79 (6 * i + j) = (l : Int) := fun j hj => by
    obtain ⟨l, l1, l2, rfl⟩ := cn_nth hj
    exact ⟨l, l1, au_md hau l2, l2, rfl, c7 l l1 l2, r8 l l1 l2⟩
  have hs7 : Seg t7 J L R f 0 1 0 n 0 x := Seg_txt (fun p _ hp => ht7 p hp) s1
  have hgo : ∀ u, u < 2 ^ (cn s.testBit 8) → gO (gEndX (gRun t7 sh (fun l => cn s.testBit l) u n 0 gS0)) 0 = (T x).getLsbD u ∧ ∀ c, (gSn (gRun t7 sh (fun l => cn s.testBit l) u n 0 gS0)).testBit c = (ev J L R (fun l => cn s.testBit l) T sh c (x + 1) x MO).getLsbD u := fun u hu => go_word hmd8 s2 hs7 s3 (by omega)
  have hC : ∀ w, w < 2 ^ (cn s.testBit 8) → oC M i w = bI ((T x).getLsbD w) := fun w hw => by unfold oC; rw [(r9 w hw).1, (hgo w hw).1]
  have hU : ∀ j, j < cn s.testBit 8 → oU M i j = (mI m (27 + 8 * i + 3) j).toNat ∧ oU M i j < md := fun j hj => by
    obtain ⟨l, l1, l2, l3, l4, l5, l6⟩ := hlet j hj
    unfold oU; rw [l6, l5]; exact ⟨rfl, by omega⟩
  refine ⟨⟨cn s.testBit 8, h6, (eD _ _ (by omega) (by omega)).trans c6, r6, ⟨fun w hw => ?_, fun w hw => ?_, fun w hw => ?_, fun c hc w hw => ?_, fun c hc w hw => ?_, fun c hc => ?_⟩, fun j hj => ?_, fun w hw hk y hy => ?_, ?_⟩, fun u hu => ?_⟩
  · by_cases g : w < 2 ^ (cn s.testBit 8)
    · rw [hC w g]; exact bI_o _
    · left
      unfold oC
      rw [r10 _ (by omega), hI0, c1 _ _ (by omega) (by omega) (by omega) (by omega)]; exact (hF.2.2.2 w hw).2
  · rw [eDL _ _ (by omega) (by omega), s6, hC w hw, bI_1]
  · rw [eDL _ _ (by omega) (by omega)]; exact hV.1 w hw
  · rw [eDL _ _ (by omega) (by omega), s7]
    unfold oS
    rw [(r9 w hw).2]
    cases sh with
    | true => rw [if_pos rfl, Int.toNat_natCast]; exact ((hgo w hw).2 c).symm
    | false =>
      rw [if_neg (by decide), Int.toNat_natCast, Nat.testBit_two_pow_sub_one, decide_eq_true hc]
      obtain ⟨l, l1, l2, l3, l4, l5, l6⟩ := hlet c hc
      obtain ⟨q, q1, q2⟩ := au_src hau l3
      have := ev_all (nm := fun l => cn s.testBit l) (T := T) (w := w) (by omega) s1 q (by omega) q1 (by omega) (by omega) (x + 1) MO (by omega) (MO_bit (by omega))
      rw [show (mI μ 74 q - 65).toNat = l by omega] at this
      rw [← l4]; exact this
  · have hx : w ^^^ 2 ^ c < 2 ^ (cn s.testBit 8) := Nat.xor_lt_two_pow hw (Nat.pow_lt_pow_right (by omega) hc)
    rw [eDL _ _ (by omega) (by omega), (s8 c hc).1, BitVec.getLsbD_xor, trn_bit (by omega) (by omega)]
    unfold oT
    rw [hC w hw, hC _ hx]
    exact bI_x _ _
  · refine ⟨_, (eD _ _ (by omega) (by omega)).trans (s8 c hc).2, Nat.lt_of_lt_of_le (wb_lt _ _) h64, fun j hj => ?_⟩
    rw [wb_bit, decide_eq_true hj, Bool.true_and]
    obtain ⟨u1, u2⟩ := hU j hj
    obtain ⟨u3, u4⟩ := hU c hc
    rw [← u1, ← u3]
    have k1 := hCo.2.2.2.1 (oU M i j)
    have k2 := hCo.2.2.2.1 (oU M i c)
    obtain ⟨-, ⟨o1, o2, -⟩, -, -⟩ := hCo.2.2.2.2 (oU M i j) (by omega)
    obtain ⟨-, ⟨o3, o4, -⟩, -, -⟩ := hCo.2.2.2.2 (oU M i c) (by omega)
    have hq := inp_eq (f1 := mI μ 6 (oU M i c)) (s1 := mI μ 7 (oU M i c)) (f2 := mI μ 6 (oU M i j)) (s2 := mI μ 7 (oU M i j)) o3.1 o3.2 o4.1 o4.2 o1.1 o1.2 o2.1 o2.2
    unfold oH
    rw [e7 71 _ (by omega), e7 71 _ (by omega), e7 72 _ (by omega), e7 72 _ (by omega), ← k1.2.1, ← k1.2.2.1, ← k2.2.1, ← k2.2.2.1, ← decide_not]
    exact decide_eq_decide.mpr hq
  · obtain ⟨l, l1, l2, l3, l4, l5, l6⟩ := hlet j hj
    rw [eD _ _ (by omega) (by omega), l5, l6, r1 4 4 (by omega) (by omega), hI0, c1 _ _ (by omega) (by omega) (by omega) (by omega)]
    exact ⟨rfl, by omega⟩
  · rw [eD _ _ (by omega) (by omega)]
    unfold oK at hk
    exact hV.2 w hw (of_decide_eq_true hk) y hy
  · refine ⟨J, L, R, f, x, n, hn40, r5, Seg_txt (fun p _ hp => ?_) s1, (eD _ _ (by omega) (by omega)).trans s4, fun j hj => (eD _ _ (by omega) (by omega)).trans (s5 j hj), fun p hp => ?_⟩
    · show mI M 75 (40 * i + p) = mI μ 74 p
      rw [r7 p hp, hI0, c1 _ _ (by omega) (by omega) (by omega) (by omega)]
    · rw [r7 p hp, hI0, c1 _ _ (by omega) (by omega) (by omega) (by omega)]; exact hch p
  · rw [(r9 u hu).2]
    cases sh with
    | true =>
      rw [if_pos rfl]
      have : gSn (gRun t7 true (fun l => cn s.testBit l) u n 0 gS0) < 2 ^ 6 := Nat.lt_pow_two_of_testBit _ (fun c hc => by
        rw [(hgo u hu).2 c, ev_none s2 hc _ _ _ (by omega)]; exact BitVec.getLsbD_zero)
      omega
    | false => rw [if_neg (by decide)]; have := Nat.two_pow_pos (cn s.testBit 8); omega
end
