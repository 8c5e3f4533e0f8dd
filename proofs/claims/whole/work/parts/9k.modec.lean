/-! decision: the reference -/
section
/-- the text kept -/
def cpM (m : aM) (i : Nat) : Nat → aM
  | 0 => m
  | p + 1 => wI (cpM m i p) 75 (40 * i + p) (mI m 74 p)
theorem cpM_fr (m : aM) (i : Nat) : ∀ p, (∀ a b, a ≠ 75 → mI (cpM m i p) a b = mI m a b) ∧ (∀ a b, mL (cpM m i p) a b = mL m a b) ∧ (∀ a b, mR (cpM m i p) a b = mR m a b)
  | 0 => ⟨fun _ _ _ => rfl, fun _ _ => rfl, fun _ _ => rfl⟩
  | p + 1 => by
    obtain ⟨h1, h2, h3⟩ := cpM_fr m i p
    exact ⟨fun a b g => by rw [cpM, mI_wI, if_neg (fun z => g z.1)]; exact h1 a b g, h2, h3⟩
theorem cpM_at (m : aM) (i : Nat) : ∀ p, (∀ u, u < p → mI (cpM m i p) 75 (40 * i + u) = mI m 74 u) ∧ (∀ b, (b < 40 * i ∨ 40 * i + p ≤ b) → mI (cpM m i p) 75 b = mI m 75 b)
  | 0 => ⟨fun u h => absurd h (by omega), fun _ _ => rfl⟩
  | p + 1 => by
    obtain ⟨h1, h2⟩ := cpM_at m i p
    refine ⟨fun u hu => ?_, fun b hb => ?_⟩
    · rw [cpM, mI_wI]
      by_cases e : u = p
      · rw [if_pos ⟨rfl, by rw [e]⟩, e]
      · rw [if_neg (by omega)]; exact h1 u (by omega)
    · rw [cpM, mI_wI, if_neg (by omega)]; exact h2 b (by omega)
/-- the letters used -/
def ukM (i s : Nat) (m : aM) : Nat → aM
  | 0 => m
  | l + 1 => if s.testBit l = true then wI (wI (ukM i s m l) 79 (6 * i + cn s.testBit l) (l : Int)) 78 i ((cn s.testBit l : Int) + 1) else ukM i s m l
theorem ukM_c {i s : Nat} {m : aM} (h0 : mI m 78 i = 0) : ∀ l, mI (ukM i s m l) 78 i = (cn s.testBit l : Int)
  | 0 => h0
  | l + 1 => by
    rw [ukM, cn]
    split
    · rw [mI_wI, if_pos ⟨rfl, rfl⟩]; omega
    · rw [ukM_c h0 l]; omega
theorem ukM_fr (i s : Nat) (m : aM) : ∀ l, (∀ a b, a ≠ 79 → ¬ (a = 78 ∧ b = i) → mI (ukM i s m l) a b = mI m a b) ∧ (∀ a b, mL (ukM i s m l) a b = mL m a b) ∧ (∀ a b, mR (ukM i s m l) a b = mR m a b)
  | 0 => ⟨fun _ _ _ _ => rfl, fun _ _ => rfl, fun _ _ => rfl⟩
  | l + 1 => by
    obtain ⟨h1, h2, h3⟩ := ukM_fr i s m l
    rw [ukM]
    split
    · exact ⟨fun a b g1 g2 => by rw [mI_wI, if_neg g2, mI_wI, if_neg (fun z => g1 z.1)]; exact h1 a b g1 g2, h2, h3⟩
    · exact ⟨h1, h2, h3⟩
theorem ukM_at {i s : Nat} {m : aM} : ∀ l, (∀ u, u < l → s.testBit u = true → mI (ukM i s m l) 79 (6 * i + cn s.testBit u) = (u : Int)) ∧ (∀ b, (b < 6 * i ∨ 6 * i + cn s.testBit l ≤ b) → mI (ukM i s m l) 79 b = mI m 79 b)
  | 0 => ⟨fun u h => absurd h (by omega), fun _ _ => rfl⟩
  | l + 1 => by
    obtain ⟨h1, h2⟩ := ukM_at (i := i) (s := s) (m := m) l
    rw [ukM, cn]
    refine ⟨fun u h hu => ?_, fun b hb => ?_⟩
    · by_cases e : u = l
      · subst e; rw [if_pos hu, mI_wI, if_neg (by omega), mI_wI, if_pos ⟨rfl, rfl⟩]
      · have hlt : cn s.testBit u < cn s.testBit l := cn_lt (by omega) hu
        split
        · rw [mI_wI, if_neg (by omega), mI_wI, if_neg (by omega)]; exact h1 u (by omega) hu
        · exact h1 u (by omega) hu
    · split
      · rename_i g
        rw [g, if_pos rfl] at hb
        rw [mI_wI, if_neg (by omega), mI_wI, if_neg (by omega)]; exact h2 b (by omega)
      · exact h2 b (by omega)
/-- the answers for w words are kept -/
def GK (n7 m : aM) (i w : Nat) (gv gs : Nat → Int) : Prop := (∀ a b, (a < 82 ∨ 88 < a) → ¬ (a = 67 ∧ (b = 26 ∨ b = 27)) → mI m a b = mI n7 a b) ∧ (∀ b, (b < 64 * i ∨ 64 * i + 64 ≤ b) → mI m 82 b = mI n7 82 b ∧ mI m 83 b = mI n7 83 b) ∧ (∀ u, u < w → mI m 82 (64 * i + u) = gv u ∧ mI m 83 (64 * i + u) = gs u) ∧ (∀ a b, mL m a b = mL n7 a b) ∧ (∀ a b, mR m a b = mR n7 a b) ∧ (∀ b, w ≤ b → b < 64 → mI m 82 (64 * i + b) = mI n7 82 (64 * i + b) ∧ mI m 83 (64 * i + b) = mI n7 83 (64 * i + b))
theorem GK_0 (n7 : aM) (i : Nat) (gv gs : Nat → Int) : GK n7 n7 i 0 gv gs := ⟨fun _ _ _ _ => rfl, fun _ _ => ⟨rfl, rfl⟩, fun u h => absurd h (by omega), fun _ _ => rfl, fun _ _ => rfl, fun _ _ _ => ⟨rfl, rfl⟩⟩
theorem GK_s {n7 m m3 : aM} {i w : Nat} {gv gs : Nat → Int} (hw : w < 64) (h : GK n7 m i w gv gs) (hF : FrG m m3) (h82 : ∀ b, mI m3 82 b = mI m 82 b) (h83 : ∀ b, mI m3 83 b = mI m 83 b) : GK n7 (wI (wI m3 82 (64 * i + w) (gv w)) 83 (64 * i + w) (gs w)) i (w + 1) gv gs := by
  obtain ⟨h1, h2, h3, h4, h5, h6⟩ := h
  have e2 : ∀ b, mI (wI (wI m3 82 (64 * i + w) (gv w)) 83 (64 * i + w) (gs w)) 82 b = if b = 64 * i + w then gv w else mI m 82 b := fun b => by
    rw [mI_wI, if_neg (by omega), mI_wI, h82]
    by_cases e : b = 64 * i + w
    · rw [if_pos ⟨rfl, e⟩, if_pos e]
    · rw [if_neg (fun z => e z.2), if_neg e]
  have e3 : ∀ b, mI (wI (wI m3 82 (64 * i + w) (gv w)) 83 (64 * i + w) (gs w)) 83 b = if b = 64 * i + w then gs w else mI m 83 b := fun b => by
    rw [mI_wI]
    by_cases e : b = 64 * i + w
    · rw [if_pos ⟨rfl, e⟩, if_pos e]
    · rw [if_neg (fun z => e z.2), if_neg e, mI_wI, if_neg (by omega), h83]
  refine ⟨fun a b g1 g2 => ?_, fun b hb => ?_, fun u hu => ?_, fun a b => (hF.2.1 a b).trans (h4 a b), fun a b => (hF.2.2 a b).trans (h5 a b), fun b hb1 hb2 => ?_⟩
  · rw [mI_wI, if_neg (by omega), mI_wI, if_neg (by omega), hF.1 a b (by omega) g2]; exact h1 a b g1 g2
  · rw [e2, e3, if_neg (by omega), if_neg (by omega)]; exact h2 b hb
  · rw [e2, e3]
    by_cases e : u = w
    · rw [if_pos (by omega), if_pos (by omega), e]; exact ⟨rfl, rfl⟩
    · rw [if_neg (by omega), if_neg (by omega)]; exact h3 u (by omega)
  · rw [e2, e3, if_neg (by omega), if_neg (by omega)]; exact h6 b (by omega) hb2
theorem au_ext {t t' : Nat → Int} {md : Nat} : ∀ n, (∀ p, p < n → t' p = t p) → au t' md n = au t md n
  | 0, _ => rfl
  | n + 1, h => by rw [au, au, au_ext n (fun p hp => h p (by omega)), h n (by omega)]
theorem pk3_in {u x y z : Int} (hx : -20 ≤ x ∧ x ≤ 20) (hy : -20 ≤ y ∧ y ≤ 20) (hz : -20 ≤ z ∧ z ≤ 20) : (-20 ≤ pk3 u x y z ∧ pk3 u x y z ≤ 20) ∧ (-20 ≤ sb3 u x y z ∧ sb3 u x y z ≤ 20) := by
  have h : -20 ≤ pk3 u x y z ∧ pk3 u x y z ≤ 20 := by unfold pk3; split; omega; split <;> omega
  refine ⟨h, ?_⟩
  unfold sb3; split; omega; exact h
theorem pl_eq {f : Nat → Int} {s : Nat} (hf : ∀ u, u < 8 → s.testBit u = true → f (cn s.testBit u) = (u : Int)) {l : Nat} (hl : l < 8) (hb : s.testBit l = true) : plF f (l : Int) (cn s.testBit 8) = ((cn s.testBit l : Nat) : Int) := by
  refine plF_at (hf l hl hb) _ (cn_lt hl hb) (fun j hj hfj => ?_)
  obtain ⟨u, u1, u2, u3⟩ := cn_nth hj
  rw [← u3, hf u u1 u2] at hfj
  rw [← u3, show u = l by omega]
variable {G : aG} {pg : Nat} {μ : aM}
set_option maxRecDepth 100000 in
theorem g_Mo_decision {d : Nat} (hd : 6 ≤ d) (hR : ∀ k j, mR μ k j = R0 pg k j) {i : Nat} (hi : mI μ 67 11 = (i : Int)) (hi4 : i < 4) {md : Nat} (hmd : mI μ 67 4 = (md : Int)) (hmd0 : 0 < md) (hmd8 : md ≤ 8) {n : Nat} (hn40 : n ≤ 40) (h9 : mI μ 67 9 = (n : Int)) (hch : ∀ p, p < n → 0 ≤ mI μ 74 p ∧ mI μ 74 p < 65536) {sh : Bool} (hkd : ∀ l, l < md → 0 ≤ mI μ 70 l) (hus : ∀ j, j < 24 → 0 ≤ mI μ 79 j ∧ mI μ 79 j < 8) (g1 : -20 ≤ mI μ 68 0 ∧ mI μ 68 0 ≤ mI μ 69 0 ∧ mI μ 69 0 ≤ 20) (g2 : -20 ≤ (if 1 < mI μ 67 1 then mI μ 68 1 else 0) ∧ (if 1 < mI μ 67 1 then mI μ 68 1 else 0) ≤ (if 1 < mI μ 67 1 then mI μ 69 1 else 0) ∧ (if 1 < mI μ 67 1 then mI μ 69 1 else 0) ≤ 20) (g3 : -20 ≤ (if 2 < mI μ 67 1 then mI μ 68 2 else 0) ∧ (if 2 < mI μ 67 1 then mI μ 68 2 else 0) ≤ (if 2 < mI μ 67 1 then mI μ 69 2 else 0) ∧ (if 2 < mI μ 67 1 then mI μ 69 2 else 0) ≤ 20)  : AM G false d 0 0 y_Mo_decision [aP 67, aI (bI sh)] 94 μ (Qn (fun r n9 m => n9 = 94 ∧ ((∃ q s : Nat, Flt (mI μ 74) md n q ∧ r = some (aI (-1 - (q : Int))) ∧ m = (wI (wI (wI μ 67 0 0) 67 9 0) 67 27 (s : Int))) ∨ (∃ (s : Nat) (μ2 : aM), au (mI μ 74) md n = some (false, 1, s) ∧ r = some (aI (i : Int)) ∧ GK (ukM i s (wI (cpM (wI (wI (wI (wI (wI (wI μ 67 0 0) 67 9 0) 67 27 (s : Int)) 67 11 ((i : Int) + 1)) 76 i (n : Int)) 77 i (bI sh)) i n) 78 i 0) 8) μ2 i (2 ^ (cn s.testBit 8)) (fun u => bI (gO (gEndX (gRun (fun p => mI (ukM i s (wI (cpM (wI (wI (wI (wI (wI (wI μ 67 0 0) 67 9 0) 67 27 (s : Int)) 67 11 ((i : Int) + 1)) 76 i (n : Int)) 77 i (bI sh)) i n) 78 i 0) 8) 75 (40 * i + p)) sh (fun l => cn s.testBit l) u n 0 gS0)) 0)) (fun u => if sh = true then ((gSn (gRun (fun p => mI (ukM i s (wI (cpM (wI (wI (wI (wI (wI (wI μ 67 0 0) 67 9 0) 67 27 (s : Int)) 67 11 ((i : Int) + 1)) 76 i (n : Int)) 77 i (bI sh)) i n) 78 i 0) 8) 75 (40 * i + p)) sh (fun l => cn s.testBit l) u n 0 gS0) : Nat) : Int) else ((2 ^ (cn s.testBit 8) - 1 : Nat) : Int)) ∧ m = (fvX (oWd μ2 i (cn s.testBit 8)) i (mI μ 68 0) (ln (mI μ 68 0) (mI μ 69 0)) (if 1 < mI μ 67 1 then mI μ 68 1 else 0) (ln (if 1 < mI μ 67 1 then mI μ 68 1 else 0) (if 1 < mI μ 67 1 then mI μ 69 1 else 0)) (if 2 < mI μ 67 1 then mI μ 68 2 else 0) (ln (if 2 < mI μ 67 1 then mI μ 68 2 else 0) (if 2 < mI μ 67 1 then mI μ 69 2 else 0)) μ2))))) := by
  refine am_of (n := 4) pf_Mo_decision (Nat.le_of_ble_eq_true rfl) (by intro v hv; simp only [List.mem_cons, List.not_mem_nil, or_false] at hv; rcases hv with rfl | rfl <;> first | trivial | assumption | exact in_c rfl | exact bI_in _ | (show inR _; unfold inR; omega)) rfl ?_
  have key3 : ∀ (m : Nat) (s w : Nat) (μ2 : aM), 2 ^ (cn s.testBit 8) - w = m → (au (mI μ 74) md n = some (false, 1, s) ∧ s < 256 ∧ (cn s.testBit 8) ≤ 6 ∧ 2 ^ (cn s.testBit 8) ≤ 64 ∧ w ≤ 2 ^ (cn s.testBit 8) ∧ GK (ukM i s (wI (cpM (wI (wI (wI (wI (wI (wI μ 67 0 0) 67 9 0) 67 27 (s : Int)) 67 11 ((i : Int) + 1)) 76 i (n : Int)) 77 i (bI sh)) i n) 78 i 0) 8) μ2 i w (fun u => bI (gO (gEndX (gRun (fun p => mI (ukM i s (wI (cpM (wI (wI (wI (wI (wI (wI μ 67 0 0) 67 9 0) 67 27 (s : Int)) 67 11 ((i : Int) + 1)) 76 i (n : Int)) 77 i (bI sh)) i n) 78 i 0) 8) 75 (40 * i + p)) sh (fun l => cn s.testBit l) u n 0 gS0)) 0)) (fun u => if sh = true then ((gSn (gRun (fun p => mI (ukM i s (wI (cpM (wI (wI (wI (wI (wI (wI μ 67 0 0) 67 9 0) 67 27 (s : Int)) 67 11 ((i : Int) + 1)) 76 i (n : Int)) 77 i (bI sh)) i n) 78 i 0) 8) 75 (40 * i + p)) sh (fun l => cn s.testBit l) u n 0 gS0) : Nat) : Int) else ((2 ^ (cn s.testBit 8) - 1 : Nat) : Int))) → AW G false y_Mo_decision d 0 0 (Qn (fun r n9 m => n9 = 94 ∧ ((∃ q s : Nat, Flt (mI μ 74) md n q ∧ r = some (aI (-1 - (q : Int))) ∧ m = (wI (wI (wI μ 67 0 0) 67 9 0) 67 27 (s : Int))) ∨ (∃ (s : Nat) (μ2 : aM), au (mI μ 74) md n = some (false, 1, s) ∧ r = some (aI (i : Int)) ∧ GK (ukM i s (wI (cpM (wI (wI (wI (wI (wI (wI μ 67 0 0) 67 9 0) 67 27 (s : Int)) 67 11 ((i : Int) + 1)) 76 i (n : Int)) 77 i (bI sh)) i n) 78 i 0) 8) μ2 i (2 ^ (cn s.testBit 8)) (fun u => bI (gO (gEndX (gRun (fun p => mI (ukM i s (wI (cpM (wI (wI (wI (wI (wI (wI μ 67 0 0) 67 9 0) 67 27 (s : Int)) 67 11 ((i : Int) + 1)) 76 i (n : Int)) 77 i (bI sh)) i n) 78 i 0) 8) 75 (40 * i + p)) sh (fun l => cn s.testBit l) u n 0 gS0)) 0)) (fun u => if sh = true then ((gSn (gRun (fun p => mI (ukM i s (wI (cpM (wI (wI (wI (wI (wI (wI μ 67 0 0) 67 9 0) 67 27 (s : Int)) 67 11 ((i : Int) + 1)) 76 i (n : Int)) 77 i (bI sh)) i n) 78 i 0) 8) 75 (40 * i + p)) sh (fun l => cn s.testBit l) u n 0 gS0) : Nat) : Int) else ((2 ^ (cn s.testBit 8) - 1 : Nat) : Int)) ∧ m = (fvX (oWd μ2 i (cn s.testBit 8)) i (mI μ 68 0) (ln (mI μ 68 0) (mI μ 69 0)) (if 1 < mI μ 67 1 then mI μ 68 1 else 0) (ln (if 1 < mI μ 67 1 then mI μ 68 1 else 0) (if 1 < mI μ 67 1 then mI μ 69 1 else 0)) (if 2 < mI μ 67 1 then mI μ 68 2 else 0) (ln (if 2 < mI μ 67 1 then mI μ 68 2 else 0) (if 2 < mI μ 67 1 then mI μ 69 2 else 0)) μ2))))) 191 [some (aP 67), some (aI (bI sh)), some (aI (n : Int)), some (aI (-1)), some (aI (i : Int)), some (aI (w : Int))] [] 94 μ2 := by
    intro m
    induction m using Nat.strongRecOn with | _ m ih =>
    intro s w μ2 hm hj
    have hw7 : ∀ a b, a ≠ 79 → a ≠ 78 → a ≠ 75 → a ≠ 76 → a ≠ 77 → a ≠ 67 → mI (ukM i s (wI (cpM (wI (wI (wI (wI (wI (wI μ 67 0 0) 67 9 0) 67 27 (s : Int)) 67 11 ((i : Int) + 1)) 76 i (n : Int)) 77 i (bI sh)) i n) 78 i 0) 8) a b = mI μ a b := fun a b q1 q2 q3 q4 q5 q6 => by rw [(ukM_fr i s (wI (cpM (wI (wI (wI (wI (wI (wI μ 67 0 0) 67 9 0) 67 27 (s : Int)) 67 11 ((i : Int) + 1)) 76 i (n : Int)) 77 i (bI sh)) i n) 78 i 0) 8).1 a b q1 (fun z => q2 z.1), mI_wI, if_neg (fun z => q2 z.1), (cpM_fr (wI (wI (wI (wI (wI (wI μ 67 0 0) 67 9 0) 67 27 (s : Int)) 67 11 ((i : Int) + 1)) 76 i (n : Int)) 77 i (bI sh)) i n).1 a b q3, mI_wI, if_neg (fun z => q5 z.1), mI_wI, if_neg (fun z => q4 z.1), mI_wI, if_neg (fun z => q6 z.1), mI_wI, if_neg (fun z => q6 z.1), mI_wI, if_neg (fun z => q6 z.1), mI_wI, if_neg (fun z => q6 z.1)]
    have h78 : mI (ukM i s (wI (cpM (wI (wI (wI (wI (wI (wI μ 67 0 0) 67 9 0) 67 27 (s : Int)) 67 11 ((i : Int) + 1)) 76 i (n : Int)) 77 i (bI sh)) i n) 78 i 0) 8) 78 i = ((cn s.testBit 8) : Int) := ukM_c (by rw [mI_wI, if_pos ⟨rfl, rfl⟩]) 8
    have h79 : ∀ u, u < 8 → s.testBit u = true → mI (ukM i s (wI (cpM (wI (wI (wI (wI (wI (wI μ 67 0 0) 67 9 0) 67 27 (s : Int)) 67 11 ((i : Int) + 1)) 76 i (n : Int)) 77 i (bI sh)) i n) 78 i 0) 8) 79 (6 * i + cn s.testBit u) = (u : Int) := (ukM_at 8).1
    have h76 : mI (ukM i s (wI (cpM (wI (wI (wI (wI (wI (wI μ 67 0 0) 67 9 0) 67 27 (s : Int)) 67 11 ((i : Int) + 1)) 76 i (n : Int)) 77 i (bI sh)) i n) 78 i 0) 8) 76 i = (n : Int) := by rw [(ukM_fr i s (wI (cpM (wI (wI (wI (wI (wI (wI μ 67 0 0) 67 9 0) 67 27 (s : Int)) 67 11 ((i : Int) + 1)) 76 i (n : Int)) 77 i (bI sh)) i n) 78 i 0) 8).1 _ _ (by omega) (by omega), mI_wI, if_neg (by omega), (cpM_fr (wI (wI (wI (wI (wI (wI μ 67 0 0) 67 9 0) 67 27 (s : Int)) 67 11 ((i : Int) + 1)) 76 i (n : Int)) 77 i (bI sh)) i n).1 _ _ (by omega), mI_wI, if_neg (by omega), mI_wI, if_pos ⟨rfl, rfl⟩]
    have h77 : mI (ukM i s (wI (cpM (wI (wI (wI (wI (wI (wI μ 67 0 0) 67 9 0) 67 27 (s : Int)) 67 11 ((i : Int) + 1)) 76 i (n : Int)) 77 i (bI sh)) i n) 78 i 0) 8) 77 i = bI sh := by rw [(ukM_fr i s (wI (cpM (wI (wI (wI (wI (wI (wI μ 67 0 0) 67 9 0) 67 27 (s : Int)) 67 11 ((i : Int) + 1)) 76 i (n : Int)) 77 i (bI sh)) i n) 78 i 0) 8).1 _ _ (by omega) (by omega), mI_wI, if_neg (by omega), (cpM_fr (wI (wI (wI (wI (wI (wI μ 67 0 0) 67 9 0) 67 27 (s : Int)) 67 11 ((i : Int) + 1)) 76 i (n : Int)) 77 i (bI sh)) i n).1 _ _ (by omega), mI_wI, if_pos ⟨rfl, rfl⟩]
    have h75 : ∀ p, p < n → mI (ukM i s (wI (cpM (wI (wI (wI (wI (wI (wI μ 67 0 0) 67 9 0) 67 27 (s : Int)) 67 11 ((i : Int) + 1)) 76 i (n : Int)) 77 i (bI sh)) i n) 78 i 0) 8) 75 (40 * i + p) = mI μ 74 p := fun p hp => by rw [(ukM_fr i s (wI (cpM (wI (wI (wI (wI (wI (wI μ 67 0 0) 67 9 0) 67 27 (s : Int)) 67 11 ((i : Int) + 1)) 76 i (n : Int)) 77 i (bI sh)) i n) 78 i 0) 8).1 _ _ (by omega) (by omega), mI_wI, if_neg (by omega), (cpM_at (wI (wI (wI (wI (wI (wI μ 67 0 0) 67 9 0) 67 27 (s : Int)) 67 11 ((i : Int) + 1)) 76 i (n : Int)) 77 i (bI sh)) i n).1 p hp]; rfl
    have h671 : mI (ukM i s (wI (cpM (wI (wI (wI (wI (wI (wI μ 67 0 0) 67 9 0) 67 27 (s : Int)) 67 11 ((i : Int) + 1)) 76 i (n : Int)) 77 i (bI sh)) i n) 78 i 0) 8) 67 1 = mI μ 67 1 := by rw [(ukM_fr i s (wI (cpM (wI (wI (wI (wI (wI (wI μ 67 0 0) 67 9 0) 67 27 (s : Int)) 67 11 ((i : Int) + 1)) 76 i (n : Int)) 77 i (bI sh)) i n) 78 i 0) 8).1 _ _ (by omega) (by omega), mI_wI, if_neg (by omega), (cpM_fr (wI (wI (wI (wI (wI (wI μ 67 0 0) 67 9 0) 67 27 (s : Int)) 67 11 ((i : Int) + 1)) 76 i (n : Int)) 77 i (bI sh)) i n).1 _ _ (by omega)]; rfl
    have hR7 : ∀ a b, mR (ukM i s (wI (cpM (wI (wI (wI (wI (wI (wI μ 67 0 0) 67 9 0) 67 27 (s : Int)) 67 11 ((i : Int) + 1)) 76 i (n : Int)) 77 i (bI sh)) i n) 78 i 0) 8) a b = R0 pg a b := fun a b => ((ukM_fr i s (wI (cpM (wI (wI (wI (wI (wI (wI μ 67 0 0) 67 9 0) 67 27 (s : Int)) 67 11 ((i : Int) + 1)) 76 i (n : Int)) 77 i (bI sh)) i n) 78 i 0) 8).2.2 a b).trans (((cpM_fr (wI (wI (wI (wI (wI (wI μ 67 0 0) 67 9 0) 67 27 (s : Int)) 67 11 ((i : Int) + 1)) 76 i (n : Int)) 77 i (bI sh)) i n).2.2 a b).trans (hR a b))
    have hau7 : au (fun p => mI (ukM i s (wI (cpM (wI (wI (wI (wI (wI (wI μ 67 0 0) 67 9 0) 67 27 (s : Int)) 67 11 ((i : Int) + 1)) 76 i (n : Int)) 77 i (bI sh)) i n) 78 i 0) 8) 75 (40 * i + p)) md n = some (false, 1, s) := (au_ext n (fun p hp => h75 p hp)).trans hj.1
    have hus7 : ∀ j, j < 24 → 0 ≤ mI (ukM i s (wI (cpM (wI (wI (wI (wI (wI (wI μ 67 0 0) 67 9 0) 67 27 (s : Int)) 67 11 ((i : Int) + 1)) 76 i (n : Int)) 77 i (bI sh)) i n) 78 i 0) 8) 79 j ∧ mI (ukM i s (wI (cpM (wI (wI (wI (wI (wI (wI μ 67 0 0) 67 9 0) 67 27 (s : Int)) 67 11 ((i : Int) + 1)) 76 i (n : Int)) 77 i (bI sh)) i n) 78 i 0) 8) 79 j < 8 := fun j hj24 => by
      by_cases e : 6 * i ≤ j ∧ j < 6 * i + (cn s.testBit 8)
      · obtain ⟨u, u1, u2, u3⟩ := cn_nth (show j - 6 * i < (cn s.testBit 8) by omega)
        have := h79 u u1 u2
        rw [u3, show 6 * i + (j - 6 * i) = j by omega] at this
        omega
      · rw [(ukM_at 8).2 j (by omega), mI_wI, if_neg (by omega), (cpM_fr (wI (wI (wI (wI (wI (wI μ 67 0 0) 67 9 0) 67 27 (s : Int)) 67 11 ((i : Int) + 1)) 76 i (n : Int)) 77 i (bI sh)) i n).1 _ _ (by omega)]; exact hus j hj24
    have hG := hj.2.2.2.2.2
    have hpw := hj.2.2.2.1
    have hR2 : ∀ a b, mR μ2 a b = R0 pg a b := fun a b => (hG.2.2.2.2.1 a b).trans (hR7 a b)
    have y : ∀ a b, (a < 82 ∨ 88 < a) → a ≠ 67 → mI μ2 a b = mI (ukM i s (wI (cpM (wI (wI (wI (wI (wI (wI μ 67 0 0) 67 9 0) 67 27 (s : Int)) 67 11 ((i : Int) + 1)) 76 i (n : Int)) 77 i (bI sh)) i n) 78 i 0) 8) a b := fun a b q1 q2 => hG.1 a b q1 (fun z => q2 z.1)
    have e78 : mI μ2 78 i = ((cn s.testBit 8) : Int) := (y _ _ (by omega) (by omega)).trans h78
    have eT : (fun p => mI μ2 75 (40 * i + p)) = (fun p => mI (ukM i s (wI (cpM (wI (wI (wI (wI (wI (wI μ 67 0 0) 67 9 0) 67 27 (s : Int)) 67 11 ((i : Int) + 1)) 76 i (n : Int)) 77 i (bI sh)) i n) 78 i 0) 8) 75 (40 * i + p)) := funext fun p => y _ _ (by omega) (by omega)
    have eU : (fun j => mI μ2 79 (6 * i + j)) = (fun j => mI (ukM i s (wI (cpM (wI (wI (wI (wI (wI (wI μ 67 0 0) 67 9 0) 67 27 (s : Int)) 67 11 ((i : Int) + 1)) 76 i (n : Int)) 77 i (bI sh)) i n) 78 i 0) 8) 79 (6 * i + j)) := funext fun j => y _ _ (by omega) (by omega)
    refine aw_iload d_Mo_decision_191 rfl ?_
    refine aw_iconst d_Mo_decision_193 (in_c rfl) ?_
    refine aw_aload_n d_Mo_decision_194 rfl rfl ?_
    refine aw_getR fd_Mo_many lk_Mo_41 (by omega) rfl d_Mo_decision_195 (hR2 _ _) ?_
    refine aw_iload d_Mo_decision_198 rfl ?_
    refine aw_iald (n := i) (by omega) rfl rfl (by omega) d_Mo_decision_200 ?_
    refine aw_tv (v' := ((cn s.testBit 8) : Int)) e78 ?_
    refine aw_ishl (a := 1) (k0 := (cn s.testBit 8)) rfl rfl (by omega) (by omega) d_Mo_decision_201 ?_
    refine aw_tv (v' := ((2 ^ (cn s.testBit 8) : Nat) : Int)) (by rw [Nat.one_mul]) ?_
    refine aw_icmp_ge (tgt := 267) d_Mo_decision_202 rfl (fun h202 => ?_) (fun h202 => ?_)
    · refine aw_aload_n d_Mo_decision_267 rfl rfl ?_
      refine aw_iload d_Mo_decision_268 rfl ?_
      have e67 : mI μ2 67 1 = mI μ 67 1 := (hG.1 _ _ (by omega) (by omega)).trans h671
      have x68 : ∀ b, mI μ2 68 b = mI μ 68 b := fun b => (y _ _ (by omega) (by omega)).trans (hw7 _ _ (by omega) (by omega) (by omega) (by omega) (by omega) (by omega))
      have x69 : ∀ b, mI μ2 69 b = mI μ 69 b := fun b => (y _ _ (by omega) (by omega)).trans (hw7 _ _ (by omega) (by omega) (by omega) (by omega) (by omega) (by omega))
      have hok : ∀ x y' z : Int, (-20 ≤ x ∧ x ≤ 20) → (-20 ≤ y' ∧ y' ≤ 20) → (-20 ≤ z ∧ z ≤ 20) → ∀ j, j < (cn s.testBit 8) → okM μ2 (oU μ2 i j) x y' z := fun x y' z hx hy hz j hjk => by
        obtain ⟨u, u1, u2, u3⟩ := cn_nth hjk
        have hu : oU μ2 i j = u := by unfold oU; rw [y _ _ (by omega) (by omega), ← u3, h79 u u1 u2]; rfl
        rw [hu]
        exact ⟨u1, (pk3_in hx hy hz).1, (pk3_in hx hy hz).2, by rw [y _ _ (by omega) (by omega), hw7 _ _ (by omega) (by omega) (by omega) (by omega) (by omega) (by omega)]; exact hkd u (au_md hj.1 u2)⟩
      refine aw_ve (as := [_]) rfl cv_Mo_155 (by omega) rfl rfl d_Mo_decision_270 (Nat.le_of_ble_eq_true rfl) (d' := d - 1) (by omega) (m_Mo_findVectors (μ := μ2) (i := i) (k := (cn s.testBit 8)) (by omega) hR2 hi4 e78 hj.2.2.1 (fun j h6 => by rw [y _ _ (by omega) (by omega)]; exact hus7 _ (by omega)) ((y _ _ (by omega) (by omega)).trans (hw7 _ _ (by omega) (by omega) (by omega) (by omega) (by omega) (by omega))) ((y _ _ (by omega) (by omega)).trans (hw7 _ _ (by omega) (by omega) (by omega) (by omega) (by omega) (by omega))) (e3 := by rw [e67, x68]) (e4 := by rw [e67, x69]) (e5 := by rw [e67, x68]) (e6 := by rw [e67, x69]) g1 g2 g3 hok) ?_
      refine aw_iload d_Mo_decision_273 rfl ?_
      exact aw_iret d_Mo_decision_275 rfl ⟨rfl, Or.inr ⟨s, μ2, hj.1, rfl, by have := hG; rw [show w = 2 ^ (cn s.testBit 8) by omega] at this; exact this, rfl⟩⟩
    · refine aw_aload_n d_Mo_decision_205 rfl rfl ?_
      refine aw_getR fd_Mo_comes lk_Mo_53 (by omega) rfl d_Mo_decision_206 (hR2 _ _) ?_
      refine aw_bipush (z := 64) d_Mo_decision_209 (in_c rfl) rfl ?_
      refine aw_iload d_Mo_decision_211 rfl ?_
      refine aw_imul d_Mo_decision_213 (by unfold inR; omega) ?_
      refine aw_iload d_Mo_decision_214 rfl ?_
      refine aw_iadd d_Mo_decision_216 (by unfold inR; omega) ?_
      refine aw_aload_n d_Mo_decision_217 rfl rfl ?_
      refine aw_iload d_Mo_decision_218 rfl ?_
      refine aw_iload d_Mo_decision_220 rfl ?_
      have hgo := m_Mo_go (G := G) (pg := pg) (μ := μ2) (d := d - 1) (i := i) (n := n) (k := (cn s.testBit 8)) (w := w) (sh := sh) (md := md) (S := s) (nm := (fun l => cn s.testBit l)) (by omega) hR2 hi4 ((y _ _ (by omega) (by omega)).trans h76) hn40 e78 hj.2.2.1 (by omega) ((y _ _ (by omega) (by omega)).trans h77) hmd8 (by rw [eT]; exact hau7) (fun l hl hb => by rw [eU]; exact ⟨pl_eq h79 hl hb, Nat.lt_of_lt_of_le (cn_lt hl hb) hj.2.2.1⟩)
      rw [eT] at hgo
      refine aw_vn (as := [_, _]) rfl cv_Mo_152 (by omega) rfl rfl d_Mo_decision_222 (Nat.le_of_ble_eq_true rfl) (d' := d - 1) (by omega) hgo ?_
      rintro v n1 μ3 ⟨rfl, rfl, hF3, hS3⟩
      have hR3 : ∀ a b, mR μ3 a b = R0 pg a b := fun a b => (hF3.2.2 a b).trans (hR2 a b)
      have h82 : ∀ b, mI μ3 82 b = mI μ2 82 b := fun b => hF3.1 _ _ (by omega) (by omega)
      have h83 : ∀ b, mI μ3 83 b = mI μ2 83 b := fun b => hF3.1 _ _ (by omega) (by omega)
      refine aw_pc (pc' := 225) rfl ?_
      refine aw_zast (n := 64 * i + w) (by omega) rfl (by omega) (by omega) (bI_01 _) d_Mo_decision_225 ?_
      refine aw_aload_n d_Mo_decision_226 rfl rfl ?_
      refine aw_getR fd_Mo_sees lk_Mo_56 (by omega) rfl d_Mo_decision_227 (hR3 _ _) ?_
      refine aw_bipush (z := 64) d_Mo_decision_230 (in_c rfl) rfl ?_
      refine aw_iload d_Mo_decision_232 rfl ?_
      refine aw_imul d_Mo_decision_234 (by unfold inR; omega) ?_
      refine aw_iload d_Mo_decision_235 rfl ?_
      refine aw_iadd d_Mo_decision_237 (by unfold inR; omega) ?_
      refine aw_iload_n d_Mo_decision_238 rfl rfl ?_
      refine aw_if_eq (tgt := 249) d_Mo_decision_239 rfl (fun h239 => ?_) (fun h239 => ?_)
      · replace h239 := bz h239
        refine aw_iconst d_Mo_decision_249 (in_c rfl) ?_
        refine aw_aload_n d_Mo_decision_250 rfl rfl ?_
        refine aw_getR fd_Mo_many lk_Mo_41 (by omega) rfl d_Mo_decision_251 (hR3 _ _) ?_
        refine aw_iload d_Mo_decision_254 rfl ?_
        refine aw_iald (n := i) (by omega) rfl rfl (by omega) d_Mo_decision_256 ?_
        refine aw_tv (v' := ((cn s.testBit 8) : Int)) (by rw [mI_wI, if_neg (by omega), hF3.1 _ _ (by omega) (by omega)]; exact e78) ?_
        refine aw_ishl (a := 1) (k0 := (cn s.testBit 8)) rfl rfl (by omega) (by omega) d_Mo_decision_257 ?_
        refine aw_tv (v' := ((2 ^ (cn s.testBit 8) : Nat) : Int)) (by rw [Nat.one_mul]) ?_
        refine aw_iconst d_Mo_decision_258 (in_c rfl) ?_
        refine aw_isub d_Mo_decision_259 (by unfold inR; omega) ?_
        have hp1 : 0 < 2 ^ (cn s.testBit 8) := Nat.pow_pos (by omega)
        refine aw_tv (v' := ((fun u => if sh = true then ((gSn (gRun (fun p => mI (ukM i s (wI (cpM (wI (wI (wI (wI (wI (wI μ 67 0 0) 67 9 0) 67 27 (s : Int)) 67 11 ((i : Int) + 1)) 76 i (n : Int)) 77 i (bI sh)) i n) 78 i 0) 8) 75 (40 * i + p)) sh (fun l => cn s.testBit l) u n 0 gS0) : Nat) : Int) else ((2 ^ (cn s.testBit 8) - 1 : Nat) : Int)) w)) (by show _ = (if sh = true then _ else _); rw [if_neg (by rw [h239]; decide)]; omega) ?_
        refine aw_iast (n := 64 * i + w) (by omega) rfl (by omega) (by omega) d_Mo_decision_260 ?_
        refine aw_iinc (lst' := [_, _, _, _, _, some (aI ((w + 1 : Nat) : Int))]) d_Mo_decision_261 (Nat.le_of_ble_eq_true rfl) rfl (by unfold inR; omega) rfl ?_
        refine aw_goto (tgt := 191) d_Mo_decision_264 rfl ?_
        exact ih (2 ^ (cn s.testBit 8) - (w + 1)) (by omega) s (w + 1) _ rfl ⟨hj.1, hj.2.1, hj.2.2.1, hj.2.2.2.1, by omega, GK_s (by omega) hG hF3 (fun b => h82 b) (fun b => h83 b)⟩
      · replace h239 := bn h239
        refine aw_aload_n d_Mo_decision_242 rfl rfl ?_
        refine aw_getI fd_Mo_seen lk_Mo_103 (by omega) rfl d_Mo_decision_243 ?_
        refine aw_tv (v' := ((fun u => if sh = true then ((gSn (gRun (fun p => mI (ukM i s (wI (cpM (wI (wI (wI (wI (wI (wI μ 67 0 0) 67 9 0) 67 27 (s : Int)) 67 11 ((i : Int) + 1)) 76 i (n : Int)) 77 i (bI sh)) i n) 78 i 0) 8) 75 (40 * i + p)) sh (fun l => cn s.testBit l) u n 0 gS0) : Nat) : Int) else ((2 ^ (cn s.testBit 8) - 1 : Nat) : Int)) w)) (by rw [mI_wI, if_neg (by omega), hS3]; show _ = (if sh = true then _ else _); rw [if_pos h239]) ?_
        refine aw_goto (tgt := 260) d_Mo_decision_246 rfl ?_
        refine aw_iast (n := 64 * i + w) (by omega) rfl (by omega) (by omega) d_Mo_decision_260 ?_
        refine aw_iinc (lst' := [_, _, _, _, _, some (aI ((w + 1 : Nat) : Int))]) d_Mo_decision_261 (Nat.le_of_ble_eq_true rfl) rfl (by unfold inR; omega) rfl ?_
        refine aw_goto (tgt := 191) d_Mo_decision_264 rfl ?_
        exact ih (2 ^ (cn s.testBit 8) - (w + 1)) (by omega) s (w + 1) _ rfl ⟨hj.1, hj.2.1, hj.2.2.1, hj.2.2.2.1, by omega, GK_s (by omega) hG hF3 (fun b => h82 b) (fun b => h83 b)⟩
  have key2 : ∀ (m : Nat) (s l : Nat), 8 - l = m → (au (mI μ 74) md n = some (false, 1, s) ∧ s < 256 ∧ (cn s.testBit 8) ≤ 6 ∧ 2 ^ (cn s.testBit 8) ≤ 64 ∧ l ≤ 8) → AW G false y_Mo_decision d 0 0 (Qn (fun r n9 m => n9 = 94 ∧ ((∃ q s : Nat, Flt (mI μ 74) md n q ∧ r = some (aI (-1 - (q : Int))) ∧ m = (wI (wI (wI μ 67 0 0) 67 9 0) 67 27 (s : Int))) ∨ (∃ (s : Nat) (μ2 : aM), au (mI μ 74) md n = some (false, 1, s) ∧ r = some (aI (i : Int)) ∧ GK (ukM i s (wI (cpM (wI (wI (wI (wI (wI (wI μ 67 0 0) 67 9 0) 67 27 (s : Int)) 67 11 ((i : Int) + 1)) 76 i (n : Int)) 77 i (bI sh)) i n) 78 i 0) 8) μ2 i (2 ^ (cn s.testBit 8)) (fun u => bI (gO (gEndX (gRun (fun p => mI (ukM i s (wI (cpM (wI (wI (wI (wI (wI (wI μ 67 0 0) 67 9 0) 67 27 (s : Int)) 67 11 ((i : Int) + 1)) 76 i (n : Int)) 77 i (bI sh)) i n) 78 i 0) 8) 75 (40 * i + p)) sh (fun l => cn s.testBit l) u n 0 gS0)) 0)) (fun u => if sh = true then ((gSn (gRun (fun p => mI (ukM i s (wI (cpM (wI (wI (wI (wI (wI (wI μ 67 0 0) 67 9 0) 67 27 (s : Int)) 67 11 ((i : Int) + 1)) 76 i (n : Int)) 77 i (bI sh)) i n) 78 i 0) 8) 75 (40 * i + p)) sh (fun l => cn s.testBit l) u n 0 gS0) : Nat) : Int) else ((2 ^ (cn s.testBit 8) - 1 : Nat) : Int)) ∧ m = (fvX (oWd μ2 i (cn s.testBit 8)) i (mI μ 68 0) (ln (mI μ 68 0) (mI μ 69 0)) (if 1 < mI μ 67 1 then mI μ 68 1 else 0) (ln (if 1 < mI μ 67 1 then mI μ 68 1 else 0) (if 1 < mI μ 67 1 then mI μ 69 1 else 0)) (if 2 < mI μ 67 1 then mI μ 68 2 else 0) (ln (if 2 < mI μ 67 1 then mI μ 68 2 else 0) (if 2 < mI μ 67 1 then mI μ 69 2 else 0)) μ2))))) 132 [some (aP 67), some (aI (bI sh)), some (aI (n : Int)), some (aI (-1)), some (aI (i : Int)), some (aI (l : Int))] [] 94 (ukM i s (wI (cpM (wI (wI (wI (wI (wI (wI μ 67 0 0) 67 9 0) 67 27 (s : Int)) 67 11 ((i : Int) + 1)) 76 i (n : Int)) 77 i (bI sh)) i n) 78 i 0) l) := by
    intro m
    induction m using Nat.strongRecOn with | _ m ih =>
    intro s l hm hj
    have hcl : mI (ukM i s (wI (cpM (wI (wI (wI (wI (wI (wI μ 67 0 0) 67 9 0) 67 27 (s : Int)) 67 11 ((i : Int) + 1)) 76 i (n : Int)) 77 i (bI sh)) i n) 78 i 0) l) 78 i = (cn s.testBit l : Int) := ukM_c (by rw [mI_wI, if_pos ⟨rfl, rfl⟩]) l
    have hRl : ∀ a b, mR (ukM i s (wI (cpM (wI (wI (wI (wI (wI (wI μ 67 0 0) 67 9 0) 67 27 (s : Int)) 67 11 ((i : Int) + 1)) 76 i (n : Int)) 77 i (bI sh)) i n) 78 i 0) l) a b = R0 pg a b := fun a b => ((ukM_fr i s (wI (cpM (wI (wI (wI (wI (wI (wI μ 67 0 0) 67 9 0) 67 27 (s : Int)) 67 11 ((i : Int) + 1)) 76 i (n : Int)) 77 i (bI sh)) i n) 78 i 0) l).2.2 a b).trans (((cpM_fr (wI (wI (wI (wI (wI (wI μ 67 0 0) 67 9 0) 67 27 (s : Int)) 67 11 ((i : Int) + 1)) 76 i (n : Int)) 77 i (bI sh)) i n).2.2 a b).trans (hR a b))
    have h27 : mI (ukM i s (wI (cpM (wI (wI (wI (wI (wI (wI μ 67 0 0) 67 9 0) 67 27 (s : Int)) 67 11 ((i : Int) + 1)) 76 i (n : Int)) 77 i (bI sh)) i n) 78 i 0) l) 67 27 = (s : Int) := by rw [(ukM_fr i s (wI (cpM (wI (wI (wI (wI (wI (wI μ 67 0 0) 67 9 0) 67 27 (s : Int)) 67 11 ((i : Int) + 1)) 76 i (n : Int)) 77 i (bI sh)) i n) 78 i 0) l).1 _ _ (by omega) (by omega), mI_wI, if_neg (by omega), (cpM_fr (wI (wI (wI (wI (wI (wI μ 67 0 0) 67 9 0) 67 27 (s : Int)) 67 11 ((i : Int) + 1)) 76 i (n : Int)) 77 i (bI sh)) i n).1 _ _ (by omega)]; rfl
    refine aw_iload d_Mo_decision_132 rfl ?_
    refine aw_bipush (z := 8) d_Mo_decision_134 (in_c rfl) rfl ?_
    refine aw_icmp_ge (tgt := 188) d_Mo_decision_136 rfl (fun h136 => ?_) (fun h136 => ?_)
    · refine aw_iconst d_Mo_decision_188 (in_c rfl) ?_
      refine aw_istore (lst' := [_, _, _, _, _, _]) d_Mo_decision_189 (Nat.le_of_ble_eq_true rfl) rfl ?_
      exact key3 _ s 0 _ rfl ⟨hj.1, hj.2.1, hj.2.2.1, hj.2.2.2.1, Nat.zero_le _, by rw [show l = 8 by omega]; exact GK_0 _ _ _ _⟩
    · refine aw_aload_n d_Mo_decision_139 rfl rfl ?_
      refine aw_getI fd_Mo_seen lk_Mo_103 (by omega) rfl d_Mo_decision_140 ?_
      refine aw_tv (v' := (s : Int)) h27 ?_
      refine aw_iload d_Mo_decision_143 rfl ?_
      refine aw_se (as := [_, _]) rfl cs_Mo_134 d_Mo_decision_145 (Nat.le_of_ble_eq_true rfl) (d' := d - 1) (by omega) (m_Mo_isIn (by omega) (by omega) (by omega)) ?_
      refine aw_if_eq (tgt := 182) d_Mo_decision_148 rfl (fun h148 => ?_) (fun h148 => ?_)
      · replace h148 := ite_z h148
        refine aw_mm (μ' := (ukM i s (wI (cpM (wI (wI (wI (wI (wI (wI μ 67 0 0) 67 9 0) 67 27 (s : Int)) 67 11 ((i : Int) + 1)) 76 i (n : Int)) 77 i (bI sh)) i n) 78 i 0) (l + 1))) (by rw [ukM, if_neg h148]) ?_
        refine aw_iinc (lst' := [_, _, _, _, _, some (aI ((l + 1 : Nat) : Int))]) d_Mo_decision_182 (Nat.le_of_ble_eq_true rfl) rfl (by unfold inR; omega) rfl ?_
        refine aw_goto (tgt := 132) d_Mo_decision_185 rfl ?_
        exact ih (8 - (l + 1)) (by omega) s (l + 1) rfl ⟨hj.1, hj.2.1, hj.2.2.1, hj.2.2.2.1, by omega⟩
      · replace h148 := ite_n h148
        refine aw_aload_n d_Mo_decision_151 rfl rfl ?_
        have hc6 : cn s.testBit l < 6 := Nat.lt_of_lt_of_le (cn_lt (show l < 8 by omega) h148) hj.2.2.1
        refine aw_getR fd_Mo_uses lk_Mo_44 (by omega) rfl d_Mo_decision_152 (hRl _ _) ?_
        refine aw_bipush (z := 6) d_Mo_decision_155 (in_c rfl) rfl ?_
        refine aw_iload d_Mo_decision_157 rfl ?_
        refine aw_imul d_Mo_decision_159 (by unfold inR; omega) ?_
        refine aw_aload_n d_Mo_decision_160 rfl rfl ?_
        refine aw_getR fd_Mo_many lk_Mo_41 (by omega) rfl d_Mo_decision_161 (hRl _ _) ?_
        refine aw_iload d_Mo_decision_164 rfl ?_
        refine aw_iald (n := i) (by omega) rfl rfl (by omega) d_Mo_decision_166 ?_
        refine aw_tv (v' := (cn s.testBit l : Int)) hcl ?_
        refine aw_iadd d_Mo_decision_167 (by unfold inR; omega) ?_
        refine aw_iload d_Mo_decision_168 rfl ?_
        refine aw_pc (pc' := 170) rfl ?_
        refine aw_iast (n := 6 * i + cn s.testBit l) (by omega) rfl (by omega) (by omega) d_Mo_decision_170 ?_
        refine aw_aload_n d_Mo_decision_171 rfl rfl ?_
        refine aw_getR fd_Mo_many lk_Mo_41 (by omega) rfl d_Mo_decision_172 (hRl _ _) ?_
        refine aw_iload d_Mo_decision_175 rfl ?_
        refine aw_dup2 d_Mo_decision_177 rfl rfl ?_
        refine aw_iald (n := i) (by omega) rfl rfl (by omega) d_Mo_decision_178 ?_
        refine aw_tv (v' := (cn s.testBit l : Int)) (by rw [mI_wI, if_neg (by omega)]; exact hcl) ?_
        refine aw_iconst d_Mo_decision_179 (in_c rfl) ?_
        refine aw_iadd d_Mo_decision_180 (by unfold inR; omega) ?_
        refine aw_iast (n := i) (by omega) rfl rfl (by omega) d_Mo_decision_181 ?_
        refine aw_mm (μ' := (ukM i s (wI (cpM (wI (wI (wI (wI (wI (wI μ 67 0 0) 67 9 0) 67 27 (s : Int)) 67 11 ((i : Int) + 1)) 76 i (n : Int)) 77 i (bI sh)) i n) 78 i 0) (l + 1))) (by rw [ukM, if_pos h148]) ?_
        refine aw_iinc (lst' := [_, _, _, _, _, some (aI ((l + 1 : Nat) : Int))]) d_Mo_decision_182 (Nat.le_of_ble_eq_true rfl) rfl (by unfold inR; omega) rfl ?_
        refine aw_goto (tgt := 132) d_Mo_decision_185 rfl ?_
        exact ih (8 - (l + 1)) (by omega) s (l + 1) rfl ⟨hj.1, hj.2.1, hj.2.2.1, hj.2.2.2.1, by omega⟩
  have key1 : ∀ (m : Nat) (s p : Nat), n - p = m → (au (mI μ 74) md n = some (false, 1, s) ∧ s < 256 ∧ (cn s.testBit 8) ≤ 6 ∧ 2 ^ (cn s.testBit 8) ≤ 64 ∧ p ≤ n) → AW G false y_Mo_decision d 0 0 (Qn (fun r n9 m => n9 = 94 ∧ ((∃ q s : Nat, Flt (mI μ 74) md n q ∧ r = some (aI (-1 - (q : Int))) ∧ m = (wI (wI (wI μ 67 0 0) 67 9 0) 67 27 (s : Int))) ∨ (∃ (s : Nat) (μ2 : aM), au (mI μ 74) md n = some (false, 1, s) ∧ r = some (aI (i : Int)) ∧ GK (ukM i s (wI (cpM (wI (wI (wI (wI (wI (wI μ 67 0 0) 67 9 0) 67 27 (s : Int)) 67 11 ((i : Int) + 1)) 76 i (n : Int)) 77 i (bI sh)) i n) 78 i 0) 8) μ2 i (2 ^ (cn s.testBit 8)) (fun u => bI (gO (gEndX (gRun (fun p => mI (ukM i s (wI (cpM (wI (wI (wI (wI (wI (wI μ 67 0 0) 67 9 0) 67 27 (s : Int)) 67 11 ((i : Int) + 1)) 76 i (n : Int)) 77 i (bI sh)) i n) 78 i 0) 8) 75 (40 * i + p)) sh (fun l => cn s.testBit l) u n 0 gS0)) 0)) (fun u => if sh = true then ((gSn (gRun (fun p => mI (ukM i s (wI (cpM (wI (wI (wI (wI (wI (wI μ 67 0 0) 67 9 0) 67 27 (s : Int)) 67 11 ((i : Int) + 1)) 76 i (n : Int)) 77 i (bI sh)) i n) 78 i 0) 8) 75 (40 * i + p)) sh (fun l => cn s.testBit l) u n 0 gS0) : Nat) : Int) else ((2 ^ (cn s.testBit 8) - 1 : Nat) : Int)) ∧ m = (fvX (oWd μ2 i (cn s.testBit 8)) i (mI μ 68 0) (ln (mI μ 68 0) (mI μ 69 0)) (if 1 < mI μ 67 1 then mI μ 68 1 else 0) (ln (if 1 < mI μ 67 1 then mI μ 68 1 else 0) (if 1 < mI μ 67 1 then mI μ 69 1 else 0)) (if 2 < mI μ 67 1 then mI μ 68 2 else 0) (ln (if 2 < mI μ 67 1 then mI μ 68 2 else 0) (if 2 < mI μ 67 1 then mI μ 69 2 else 0)) μ2))))) 89 [some (aP 67), some (aI (bI sh)), some (aI (n : Int)), some (aI (-1)), some (aI (i : Int)), some (aI (p : Int))] [] 94 (cpM (wI (wI (wI (wI (wI (wI μ 67 0 0) 67 9 0) 67 27 (s : Int)) 67 11 ((i : Int) + 1)) 76 i (n : Int)) 77 i (bI sh)) i p) := by
    intro m
    induction m using Nat.strongRecOn with | _ m ih =>
    intro s p hm hj
    have hRp : ∀ a b, mR (cpM (wI (wI (wI (wI (wI (wI μ 67 0 0) 67 9 0) 67 27 (s : Int)) 67 11 ((i : Int) + 1)) 76 i (n : Int)) 77 i (bI sh)) i p) a b = R0 pg a b := fun a b => ((cpM_fr (wI (wI (wI (wI (wI (wI μ 67 0 0) 67 9 0) 67 27 (s : Int)) 67 11 ((i : Int) + 1)) 76 i (n : Int)) 77 i (bI sh)) i p).2.2 a b).trans (hR a b)
    refine aw_iload d_Mo_decision_89 rfl ?_
    refine aw_iload_n d_Mo_decision_91 rfl rfl ?_
    refine aw_icmp_ge (tgt := 121) d_Mo_decision_92 rfl (fun h92 => ?_) (fun h92 => ?_)
    · refine aw_aload_n d_Mo_decision_121 rfl rfl ?_
      refine aw_getR fd_Mo_many lk_Mo_41 (by omega) rfl d_Mo_decision_122 (hRp _ _) ?_
      refine aw_iload d_Mo_decision_125 rfl ?_
      refine aw_iconst d_Mo_decision_127 (in_c rfl) ?_
      refine aw_iast (n := i) (by omega) rfl rfl (by omega) d_Mo_decision_128 ?_
      refine aw_iconst d_Mo_decision_129 (in_c rfl) ?_
      refine aw_istore (lst' := [_, _, _, _, _, _]) d_Mo_decision_130 (Nat.le_of_ble_eq_true rfl) rfl ?_
      refine aw_mm (μ' := (ukM i s (wI (cpM (wI (wI (wI (wI (wI (wI μ 67 0 0) 67 9 0) 67 27 (s : Int)) 67 11 ((i : Int) + 1)) 76 i (n : Int)) 77 i (bI sh)) i n) 78 i 0) 0)) (by rw [show p = n by omega]; rfl) ?_
      exact key2 (8 - 0) s 0 rfl ⟨hj.1, hj.2.1, hj.2.2.1, hj.2.2.2.1, Nat.zero_le _⟩
    · refine aw_aload_n d_Mo_decision_95 rfl rfl ?_
      refine aw_getR fd_Mo_signs lk_Mo_31 (by omega) rfl d_Mo_decision_96 (hRp _ _) ?_
      refine aw_bipush (z := 40) d_Mo_decision_99 (in_c rfl) rfl ?_
      refine aw_iload d_Mo_decision_101 rfl ?_
      refine aw_imul d_Mo_decision_103 (by unfold inR; omega) ?_
      refine aw_iload d_Mo_decision_104 rfl ?_
      refine aw_iadd d_Mo_decision_106 (by unfold inR; omega) ?_
      refine aw_aload_n d_Mo_decision_107 rfl rfl ?_
      refine aw_getR fd_Mo_text lk_Mo_28 (by omega) rfl d_Mo_decision_108 (hRp _ _) ?_
      refine aw_iload d_Mo_decision_111 rfl ?_
      refine aw_iald (n := p) (by omega) rfl rfl (by omega) d_Mo_decision_113 ?_
      refine aw_tv (v' := (mI (wI (wI (wI (wI (wI (wI μ 67 0 0) 67 9 0) 67 27 (s : Int)) 67 11 ((i : Int) + 1)) 76 i (n : Int)) 77 i (bI sh)) 74 p)) ((cpM_fr (wI (wI (wI (wI (wI (wI μ 67 0 0) 67 9 0) 67 27 (s : Int)) 67 11 ((i : Int) + 1)) 76 i (n : Int)) 77 i (bI sh)) i p).1 _ _ (by omega)) ?_
      refine aw_pc (pc' := 114) rfl ?_
      refine aw_iast (n := 40 * i + p) (by omega) rfl (by omega) (by omega) d_Mo_decision_114 ?_
      refine aw_mm (μ' := (cpM (wI (wI (wI (wI (wI (wI μ 67 0 0) 67 9 0) 67 27 (s : Int)) 67 11 ((i : Int) + 1)) 76 i (n : Int)) 77 i (bI sh)) i (p + 1))) rfl ?_
      refine aw_iinc (lst' := [_, _, _, _, _, some (aI ((p + 1 : Nat) : Int))]) d_Mo_decision_115 (Nat.le_of_ble_eq_true rfl) rfl (by unfold inR; omega) rfl ?_
      refine aw_goto (tgt := 89) d_Mo_decision_118 rfl ?_
      exact ih (n - (p + 1)) (by omega) s (p + 1) rfl ⟨hj.1, hj.2.1, hj.2.2.1, hj.2.2.2.1, by omega⟩
  refine aw_aload_n d_Mo_decision_0 rfl rfl ?_
  refine aw_aload_n d_Mo_decision_1 rfl rfl ?_
  refine aw_getI fd_Mo_decisions lk_Mo_146 (by omega) rfl d_Mo_decision_2 ?_
  refine aw_tv (v' := (i : Int)) hi ?_
  refine aw_iconst d_Mo_decision_5 (in_c rfl) ?_
  refine aw_icmp_eq (tgt := 16) d_Mo_decision_6 rfl (fun h6 => absurd h6 (by omega)) (fun h6 => ?_)
  refine aw_aload_n d_Mo_decision_9 rfl rfl ?_
  refine aw_getI fd_Mo_made lk_Mo_93 (by omega) rfl d_Mo_decision_10 ?_
  refine aw_tv (v' := (md : Int)) hmd ?_
  refine aw_if_ne (tgt := 20) d_Mo_decision_13 rfl (fun h13 => ?_) (fun h13 => absurd h13 (by omega))
  refine aw_iconst d_Mo_decision_20 (in_c rfl) ?_
  refine aw_iconst d_Mo_decision_21 (in_c rfl) ?_
  refine aw_ve (as := [_, _]) rfl cv_Mo_96 (by omega) rfl rfl d_Mo_decision_22 (Nat.le_of_ble_eq_true rfl) (d' := d - 1) (by omega) (m_Mo_refused_0 (by omega)) ?_
  refine aw_pc (pc' := 25) rfl ?_
  refine aw_if_eq (tgt := 30) d_Mo_decision_25 rfl (fun h25 => ?_) (fun h25 => absurd rfl h25)
  refine aw_aload_n d_Mo_decision_30 rfl rfl ?_
  refine aw_getI fd_Mo_typed lk_Mo_100 (by omega) rfl d_Mo_decision_31 ?_
  refine aw_tv (v' := (n : Int)) (by exact h9) ?_
  refine aw_istore_n (lst' := [_, _, _, _, _, _]) d_Mo_decision_34 rfl (Nat.le_of_ble_eq_true rfl) rfl ?_
  refine aw_aload_n d_Mo_decision_35 rfl rfl ?_
  refine aw_iconst d_Mo_decision_36 (in_c rfl) ?_
  refine aw_putI fd_Mo_typed lk_Mo_100 (by omega) rfl d_Mo_decision_37 (Or.inl rfl) ?_
  refine aw_aload_n d_Mo_decision_40 rfl rfl ?_
  refine aw_iload_n d_Mo_decision_41 rfl rfl ?_
  refine aw_vn (as := [_]) rfl cv_Mo_149 (by omega) rfl rfl d_Mo_decision_42 (Nat.le_of_ble_eq_true rfl) (d' := d - 1) (by omega) (m_Mo_faultOf (μ := wI (wI μ 67 0 0) 67 9 0) (n := n) (md := md) (by omega) (fun a b => hR a b) hn40 (by exact hmd) hmd8 (by exact hch)) ?_
  rintro v n1 μ1 ⟨rfl, hP⟩
  obtain ⟨z, rfl, hz0⟩ : ∃ z : Int, v = some (aI z) ∧ ((∃ q s : Nat, Flt (mI μ 74) md n q ∧ z = (q : Int) ∧ μ1 = (wI (wI (wI μ 67 0 0) 67 9 0) 67 27 (s : Int))) ∨ (z = -1 ∧ ∃ s : Nat, au (mI μ 74) md n = some (false, 1, s) ∧ μ1 = (wI (wI (wI μ 67 0 0) 67 9 0) 67 27 (s : Int)))) := by
    rcases hP with ⟨q, s, h1, h2, h3⟩ | ⟨s, h1, h2, h3⟩
    · exact ⟨_, h2, Or.inl ⟨q, s, h1, rfl, h3⟩⟩
    · exact ⟨_, h2, Or.inr ⟨rfl, s, h1, h3⟩⟩
  have hzi : -1 ≤ z ∧ z ≤ 40 := by
    rcases hz0 with ⟨q, s, h1, h2, -⟩ | ⟨h1, -⟩
    · have := Flt_le h1; omega
    · omega
  refine aw_istore_n (lst' := [_, _, _, _, _, _]) d_Mo_decision_45 rfl (Nat.le_of_ble_eq_true rfl) rfl ?_
  refine aw_iload_n d_Mo_decision_46 rfl rfl ?_
  refine aw_pc (pc' := 47) rfl ?_
  refine aw_if_lt (tgt := 54) d_Mo_decision_47 rfl (fun h47 => ?_) (fun h47 => ?_)
  · refine aw_aload_n d_Mo_decision_54 rfl rfl ?_
    obtain ⟨rfl, s, hau, rfl⟩ := hz0.resolve_left (fun ⟨q, _, _, h9, _⟩ => by omega)
    have hin := au_in hmd8 hau
    have hs8 : s < 256 := hin.2.2.1
    have h6k : (cn s.testBit 8) ≤ 6 := cn8_6 hs8 hin.2.2.2
    have hpw : 2 ^ (cn s.testBit 8) ≤ 64 := Nat.pow_le_pow_right (n := 2) (by omega) h6k
    refine aw_getI fd_Mo_decisions lk_Mo_146 (by omega) rfl d_Mo_decision_55 ?_
    refine aw_tv (v' := (i : Int)) (by exact hi) ?_
    refine aw_istore (lst' := [_, _, _, _, _, _]) d_Mo_decision_58 (Nat.le_of_ble_eq_true rfl) rfl ?_
    refine aw_aload_n d_Mo_decision_60 rfl rfl ?_
    refine aw_dup d_Mo_decision_61 rfl ?_
    refine aw_getI fd_Mo_decisions lk_Mo_146 (by omega) rfl d_Mo_decision_62 ?_
    refine aw_tv (v' := (i : Int)) (by exact hi) ?_
    refine aw_iconst d_Mo_decision_65 (in_c rfl) ?_
    refine aw_iadd d_Mo_decision_66 (by unfold inR; omega) ?_
    refine aw_putI fd_Mo_decisions lk_Mo_146 (by omega) rfl d_Mo_decision_67 (Or.inl rfl) ?_
    refine aw_aload_n d_Mo_decision_70 rfl rfl ?_
    refine aw_getR fd_Mo_length lk_Mo_34 (by omega) rfl d_Mo_decision_71 (hR _ _) ?_
    refine aw_pc (pc' := 74) rfl ?_
    refine aw_iload d_Mo_decision_74 rfl ?_
    refine aw_iload_n d_Mo_decision_76 rfl rfl ?_
    refine aw_iast (n := i) (by omega) rfl rfl (by omega) d_Mo_decision_77 ?_
    refine aw_aload_n d_Mo_decision_78 rfl rfl ?_
    refine aw_getR fd_Mo_isShort lk_Mo_37 (by omega) rfl d_Mo_decision_79 (hR _ _) ?_
    refine aw_iload d_Mo_decision_82 rfl ?_
    refine aw_iload_n d_Mo_decision_84 rfl rfl ?_
    refine aw_zast (n := i) (by omega) rfl rfl (by omega) (bI_01 _) d_Mo_decision_85 ?_
    refine aw_iconst d_Mo_decision_86 (in_c rfl) ?_
    refine aw_istore (lst' := [_, _, _, _, _, _]) d_Mo_decision_87 (Nat.le_of_ble_eq_true rfl) rfl ?_
    refine aw_mm (μ' := (cpM (wI (wI (wI (wI (wI (wI μ 67 0 0) 67 9 0) 67 27 (s : Int)) 67 11 ((i : Int) + 1)) 76 i (n : Int)) 77 i (bI sh)) i 0)) rfl ?_
    exact key1 (n - 0) s 0 rfl ⟨hau, hs8, h6k, hpw, Nat.zero_le _⟩
  · refine aw_iconst d_Mo_decision_50 (in_c rfl) ?_
    refine aw_iload_n d_Mo_decision_51 rfl rfl ?_
    refine aw_isub d_Mo_decision_52 (by clear hz0; unfold inR; omega) ?_
    exact aw_iret d_Mo_decision_53 rfl ⟨rfl, Or.inl (by obtain ⟨q, s, a1, a2, a3⟩ := hz0.resolve_right (fun g => by have := g.1; omega); exact ⟨q, s, a1, by rw [a2], a3⟩)⟩
end
