/-! pure lemmas: least is alike -/
section
/-! the class: Fewest -/
def shO (m : aM) (N : Nat) (S : BitVec 64) (c : Nat) : Bool := (sF (fun w => S.getLsbD w && decide (¬ (mL m 62 (16 * c + w) &&& S) = 0)) (N - 0) 0).isSome
def shA (m : aM) (k N : Nat) (S : BitVec 64) : Bool := (sF (fun c => decide (¬ ush (mI m 61 4) c % 2 = 0) && !shO m N S c) (k - 0) 0).isNone
/-- the memory after w words of findPartners -/
def fpM (D k c : Nat) (q : Int) (m : aM) : Nat → aM
  | 0 => m
  | w + 1 => if ptF m D k c q w = 0 then wL (fpM D k c q m w) 62 (16 * c + w) (ptF m D k c q w) else wI (wL (fpM D k c q m w) 62 (16 * c + w) (ptF m D k c q w)) 61 4 ((((mI (fpM D k c q m w) 61 4).toNat ||| 2 ^ c : Nat)) : Int)
/-- the memory of count after c conditions -/
def feM (μ : aM) (D k : Nat) (q : Int) : Nat → aM
  | 0 => wI (wL (wI (wI μ 61 1 (k : Int)) 61 2 ((2 ^ k : Nat) : Int)) 61 3 (mL μ D 9)) 61 4 0
  | c + 1 => fpM D k c q (feM μ D k q c) (2 ^ k)
/-- all but the fields and the row of Fewest is as it was -/
def FrF (μ m : aM) : Prop := (∀ a b, a ≠ 61 → mI m a b = mI μ a b) ∧ (∀ a b, a ≠ 61 → a ≠ 62 → mL m a b = mL μ a b) ∧ (∀ a b, mR m a b = mR μ a b)
theorem FrF.trans {μ m l : aM} (h : FrF μ m) (g : FrF m l) : FrF μ l := ⟨fun a b h1 => (g.1 a b h1).trans (h.1 a b h1), fun a b h1 h2 => (g.2.1 a b h1 h2).trans (h.2.1 a b h1 h2), fun a b => (g.2.2 a b).trans (h.2.2 a b)⟩
theorem fpM_fr (D k c : Nat) (q : Int) (m : aM) : ∀ w, FrF m (fpM D k c q m w)
  | 0 => ⟨fun _ _ _ => rfl, fun _ _ _ _ => rfl, fun _ _ => rfl⟩
  | w + 1 => by
    refine (fpM_fr D k c q m w).trans ?_
    rw [fpM]
    split
    · exact ⟨fun a b _ => rfl, fun a b h1 h2 => by rw [mL_wL, if_neg (fun z => h2 z.1)], fun _ _ => rfl⟩
    · exact ⟨fun a b h => by rw [mI_wI, if_neg (fun z => h z.1)]; rfl, fun a b h1 h2 => by rw [mL_wI, mL_wL, if_neg (fun z => h2 z.1)], fun _ _ => rfl⟩
/-- the fields of Fewest, but for what was found -/
theorem fpM_in (D k c : Nat) (q : Int) (m : aM) : ∀ w, (∀ b, b ≠ 4 → mI (fpM D k c q m w) 61 b = mI m 61 b) ∧ (∀ b, mL (fpM D k c q m w) 61 b = mL m 61 b)
  | 0 => ⟨fun _ _ => rfl, fun _ => rfl⟩
  | w + 1 => by
    obtain ⟨h1, h2⟩ := fpM_in D k c q m w
    rw [fpM]
    split
    · exact ⟨fun b hb => h1 b hb, fun b => by rw [mL_wL, if_neg (by omega)]; exact h2 b⟩
    · exact ⟨fun b hb => by rw [mI_wI, if_neg (by omega)]; exact h1 b hb, fun b => by rw [mL_wI, mL_wL, if_neg (by omega)]; exact h2 b⟩
theorem feM_fr (μ : aM) (D k : Nat) (q : Int) : ∀ c, FrF μ (feM μ D k q c)
  | 0 => ⟨fun a b h => by rw [feM, mI_wI, if_neg (fun z => h z.1), mI_wL, mI_wI, if_neg (fun z => h z.1), mI_wI, if_neg (fun z => h z.1)], fun a b h1 h2 => by rw [feM, mL_wI, mL_wL, if_neg (fun z => h1 z.1)]; rfl, fun _ _ => rfl⟩
  | c + 1 => (feM_fr μ D k q c).trans (fpM_fr _ _ _ _ _ _)
theorem feM_in (μ : aM) (D k : Nat) (q : Int) : ∀ c, mI (feM μ D k q c) 61 1 = (k : Int) ∧ mI (feM μ D k q c) 61 2 = ((2 ^ k : Nat) : Int) ∧ mL (feM μ D k q c) 61 3 = mL μ D 9
  | 0 => ⟨rfl, rfl, rfl⟩
  | c + 1 => by
    obtain ⟨h1, h2, h3⟩ := feM_in μ D k q c
    obtain ⟨g1, g2⟩ := fpM_in D k c q (feM μ D k q c) (2 ^ k)
    exact ⟨(g1 1 (by omega)).trans h1, (g1 2 (by omega)).trans h2, (g2 3).trans h3⟩
/-- the partners don't look at Fewest -/
theorem ptF_fr {μ m : aM} (h : FrF μ m) {D : Nat} (hD : D + 7 < 61) (k c : Nat) (q : Int) (w : Nat) : ptF m D k c q w = ptF μ D k c q w := by
  have e8 : mL m D 8 = mL μ D 8 := h.2.1 _ _ (by omega) (by omega)
  have e9 : mL m D 9 = mL μ D 9 := h.2.1 _ _ (by omega) (by omega)
  have e5 : ∀ j, mL m (D + 5) j = mL μ (D + 5) j := fun j => h.2.1 _ _ (by omega) (by omega)
  have e6 : ∀ j, mL m (D + 6) j = mL μ (D + 6) j := fun j => h.2.1 _ _ (by omega) (by omega)
  have e4 : ∀ j, mI m (D + 4) j = mI μ (D + 4) j := fun j => h.1 _ _ (by omega)
  have eA : abF m D c q = abF μ D c q := by unfold abF; rw [e9, e5, e6]
  have eH : hdF m D c q = hdF μ D c q := by unfold hdF; rw [e4]
  have eP : ∀ j, pfF m D c q w j = pfF μ D c q w j := fun j => by
    induction j with
    | zero => rw [pfF, pfF, eA, e8]
    | succ j ih => rw [pfF, pfF, eH, e5, ih]
  unfold ptF
  rw [eA, eP]
theorem or_lt16 {a c : Nat} (ha : a < 16) (hc : c < 4) : a ||| 2 ^ c < 16 := by
  have h : 2 ^ c < 2 ^ 4 := Nat.pow_lt_pow_right (by omega) hc
  exact Nat.or_lt_two_pow (n := 4) (by omega) h
/-- what findPartners leaves -/
theorem fpM_has {D k c : Nat} {q : Int} {m : aM} {s : Nat} (hs : mI m 61 4 = (s : Int)) (hs16 : s < 16) (hc : c < 4) : ∀ w, w ≤ 16 →
    (∀ u, u < w → mL (fpM D k c q m w) 62 (16 * c + u) = ptF m D k c q u) ∧ (∀ b, (b < 16 * c ∨ 16 * c + 16 ≤ b) → mL (fpM D k c q m w) 62 b = mL m 62 b) ∧ ∃ t : Nat, mI (fpM D k c q m w) 61 4 = (t : Int) ∧ t < 16 ∧ ∀ j, (t.testBit j = true ↔ s.testBit j = true ∨ (j = c ∧ ∃ u, u < w ∧ ptF m D k c q u ≠ 0))
  | 0, _ => ⟨fun u hu => absurd hu (by omega), fun b _ => rfl, s, hs, hs16, fun j => ⟨Or.inl, fun z => z.elim id (fun ⟨_, u, hu, _⟩ => absurd hu (by omega))⟩⟩
  | w + 1, hw => by
    obtain ⟨h1, h2, t, h3, h4, h5⟩ := fpM_has hs hs16 hc w (by omega) (D := D) (k := k) (q := q)
    rw [fpM]
    have hrow : ∀ u, u < w + 1 → mL (wL (fpM D k c q m w) 62 (16 * c + w) (ptF m D k c q w)) 62 (16 * c + u) = ptF m D k c q u := fun u hu => by
      rw [mL_wL]
      by_cases e : u = w
      · rw [if_pos ⟨rfl, by rw [e]⟩, e]
      · rw [if_neg (by omega)]; exact h1 u (by omega)
    have hoff : ∀ b, (b < 16 * c ∨ 16 * c + 16 ≤ b) → mL (wL (fpM D k c q m w) 62 (16 * c + w) (ptF m D k c q w)) 62 b = mL m 62 b := fun b hb => by
      rw [mL_wL, if_neg (by omega)]; exact h2 b hb
    by_cases g : ptF m D k c q w = 0
    · rw [if_pos g]
      refine ⟨hrow, hoff, t, h3, h4, fun j => (h5 j).trans ?_⟩
      constructor
      · rintro (z | ⟨z, u, a, b⟩)
        · exact Or.inl z
        · exact Or.inr ⟨z, u, by omega, b⟩
      · rintro (z | ⟨z, u, a, b⟩)
        · exact Or.inl z
        · refine Or.inr ⟨z, u, ?_, b⟩
          by_cases e : u = w
          · rw [e] at b; exact absurd g b
          · omega
    · rw [if_neg g]
      refine ⟨hrow, hoff, t ||| 2 ^ c, ?_, or_lt16 h4 hc, fun j => ?_⟩
      · rw [mI_wI, if_pos ⟨rfl, rfl⟩, h3]; rfl
      · rw [Nat.testBit_or, Bool.or_eq_true, h5 j]
        constructor
        · rintro ((z | ⟨z, u, a, b⟩) | z)
          · exact Or.inl z
          · exact Or.inr ⟨z, u, by omega, b⟩
          · refine Or.inr ⟨?_, w, by omega, g⟩
            by_cases e : c = j
            · exact e.symm
            · rw [Nat.testBit_two_pow_of_ne e] at z; exact absurd z (by decide)
        · rintro (z | ⟨z, u, a, b⟩)
          · exact Or.inl (Or.inl z)
          · right; rw [z]; exact Nat.testBit_two_pow_self
theorem feM_has {μ : aM} {D k : Nat} {q : Int} (hD : D + 7 < 61) (h4 : k ≤ 4) : ∀ c, c ≤ k → (∀ j, j < c → ∀ u, u < 2 ^ k → mL (feM μ D k q c) 62 (16 * j + u) = ptF μ D k j q u) ∧ ∃ t : Nat, mI (feM μ D k q c) 61 4 = (t : Int) ∧ t < 16 ∧ ∀ j, (t.testBit j = true ↔ j < c ∧ ∃ u, u < 2 ^ k ∧ ptF μ D k j q u ≠ 0)
  | 0, _ => ⟨fun j hj => absurd hj (by omega), 0, rfl, by omega, fun j => by rw [Nat.zero_testBit]; exact ⟨fun z => absurd z (by decide), fun z => absurd z.1 (by omega)⟩⟩
  | c + 1, hc => by
    have hp : 2 ^ k ≤ 2 ^ 4 := Nat.pow_le_pow_right (by omega) h4
    obtain ⟨h1, s, h2, h3, h5⟩ := feM_has hD h4 c (by omega) (μ := μ) (q := q)
    obtain ⟨g1, g2, t, g3, g4, g5⟩ := fpM_has (D := D) (k := k) (c := c) (q := q) h2 h3 (by omega) (2 ^ k) (by omega)
    have ep : ∀ j u, ptF (feM μ D k q c) D k j q u = ptF μ D k j q u := fun j u => ptF_fr (feM_fr μ D k q c) hD k j q u
    refine ⟨fun j hj u hu => ?_, t, g3, g4, fun j => (g5 j).trans ?_⟩
    · rw [feM]
      by_cases e : j = c
      · rw [e, g1 u hu, ep]
      · rw [g2 _ (by omega)]; exact h1 j (by omega) u hu
    · rw [h5 j]
      constructor
      · rintro (⟨a, b⟩ | ⟨a, u, b, e⟩)
        · exact ⟨by omega, b⟩
        · rw [ep] at e; rw [a]; exact ⟨by omega, u, b, e⟩
      · rintro ⟨a, u, b, e⟩
        by_cases z : j = c
        · right; refine ⟨z, u, b, ?_⟩; rw [ep, ← z]; exact e
        · left; exact ⟨by omega, u, b, e⟩
/-! the reference: least -/
def lpM (μ : aM) (i k c : Nat) (q : Int) (m : aM) : Nat → aM
  | 0 => m
  | v + 1 => wI (lpM μ i k c q m v) 90 (16 * c + v) ((wb (oW μ i k c q v) (2 ^ k) : Nat) : Int)
def leM (μ : aM) (i k : Nat) (q : Int) : Nat → aM
  | 0 => wI μ 67 0 0
  | c + 1 => lpM μ i k c q (leM μ i k q c) (2 ^ k)
def oEn (m : aM) (k N s : Nat) : Bool := allB (fun c => anyB (fun w => s.testBit w && decide (¬ ((mI m 90 (16 * c + w)).toNat &&& s) = 0)) N || !anyB (fun w => decide (¬ mI m 90 (16 * c + w) = 0)) N) k
def FrL (μ m : aM) : Prop := (∀ a b, a ≠ 90 → mI m a b = mI μ a b) ∧ (∀ a b, mL m a b = mL μ a b) ∧ (∀ a b, mR m a b = mR μ a b)
theorem FrL.trans {μ m l : aM} (h : FrL μ m) (g : FrL m l) : FrL μ l := ⟨fun a b h1 => (g.1 a b h1).trans (h.1 a b h1), fun a b => (g.2.1 a b).trans (h.2.1 a b), fun a b => (g.2.2 a b).trans (h.2.2 a b)⟩
theorem FrL_w (m : aM) (b : Nat) (z : Int) : FrL m (wI m 90 b z) := ⟨fun a j h => by rw [mI_wI, if_neg (fun z => h z.1)], fun _ _ => rfl, fun _ _ => rfl⟩
theorem lpM_fr (μ : aM) (i k c : Nat) (q : Int) (m : aM) : ∀ v, FrL m (lpM μ i k c q m v)
  | 0 => ⟨fun _ _ _ => rfl, fun _ _ => rfl, fun _ _ => rfl⟩
  | v + 1 => (lpM_fr μ i k c q m v).trans (FrL_w _ _ _)
theorem leM_fr (μ : aM) (i k : Nat) (q : Int) : ∀ c, FrL (wI μ 67 0 0) (leM μ i k q c)
  | 0 => ⟨fun _ _ _ => rfl, fun _ _ => rfl, fun _ _ => rfl⟩
  | c + 1 => (leM_fr μ i k q c).trans (lpM_fr _ _ _ _ _ _ _)
theorem lpM_has (μ : aM) (i k c : Nat) (q : Int) (m : aM) : ∀ v, v ≤ 16 → (∀ u, u < v → mI (lpM μ i k c q m v) 90 (16 * c + u) = ((wb (oW μ i k c q u) (2 ^ k) : Nat) : Int)) ∧ (∀ b, (b < 16 * c ∨ 16 * c + 16 ≤ b) → mI (lpM μ i k c q m v) 90 b = mI m 90 b)
  | 0, _ => ⟨fun u hu => absurd hu (by omega), fun _ _ => rfl⟩
  | v + 1, hv => by
    obtain ⟨h1, h2⟩ := lpM_has μ i k c q m v (by omega)
    refine ⟨fun u hu => ?_, fun b hb => ?_⟩
    · rw [lpM, mI_wI]
      by_cases e : u = v
      · rw [if_pos ⟨rfl, by rw [e]⟩, e]
      · rw [if_neg (by omega)]; exact h1 u (by omega)
    · rw [lpM, mI_wI, if_neg (by omega)]; exact h2 b hb
theorem leM_has (μ : aM) {i k : Nat} (q : Int) (h4 : k ≤ 4) : ∀ c, c ≤ k → ∀ j, j < c → ∀ u, u < 2 ^ k → mI (leM μ i k q c) 90 (16 * j + u) = ((wb (oW μ i k j q u) (2 ^ k) : Nat) : Int)
  | 0, _, j, hj => absurd hj (by omega)
  | c + 1, hc, j, hj => fun u hu => by
    have hp : 2 ^ k ≤ 2 ^ 4 := Nat.pow_le_pow_right (by omega) h4
    obtain ⟨h1, h2⟩ := lpM_has μ i k c q (leM μ i k q c) (2 ^ k) (by omega)
    rw [leM]
    by_cases e : j = c
    · rw [e]; exact h1 u hu
    · rw [h2 _ (by omega)]; exact leM_has μ q h4 c (by omega) j (by omega) u hu
theorem bv_ne {b : BitVec 64} : b ≠ 0 ↔ ∃ w, w < 64 ∧ b.getLsbD w = true := by
  constructor
  · intro h
    apply Classical.byContradiction
    intro g
    refine h (BitVec.eq_of_getLsbD_eq fun w hw => ?_)
    cases hb : b.getLsbD w with
    | false => exact BitVec.getLsbD_zero.symm
    | true => exact absurd ⟨w, hw, hb⟩ g
  · rintro ⟨w, hw, hb⟩ rfl
    rw [show (0 : BitVec 64).getLsbD w = false from BitVec.getLsbD_zero] at hb
    exact absurd hb (by decide)
theorem nat_ne {a : Nat} : a ≠ 0 ↔ ∃ w, a.testBit w = true := by
  constructor
  · intro h
    exact Nat.exists_testBit_of_ne_zero h
  · rintro ⟨w, hw⟩ rfl
    rw [Nat.zero_testBit] at hw; exact absurd hw (by decide)
/-- least answers alike, μ' being the memory after the class's call -/
theorem least_eq {μ μ' : aM} {i k : Nat} {q : Int} (h : DW μ i k) (hi : i < 4) (h4 : k ≤ 4) (hq0 : 0 ≤ q) (hq2 : q ≤ 2) (hW : ∀ c, oW μ' i k c q = oW μ i k c q) :
    bst (oEn (leM μ' i k q k) k (2 ^ k)) (2 ^ 2 ^ k) = fw (mL μ (27 + 8 * i) 9) (2 ^ k) (shA (feM μ (27 + 8 * i) k q k) k (2 ^ k)) := by
  have hp : 2 ^ k ≤ 2 ^ 4 := Nat.pow_le_pow_right (by omega) h4
  obtain ⟨f1, t, f2, f3, f4⟩ := feM_has (μ := μ) (D := 27 + 8 * i) (q := q) (by omega) h4 k (Nat.le_refl _)
  have l1 := leM_has μ' (i := i) q h4 k (Nat.le_refl _)
  have pt : ∀ c, c < k → ∀ v, v < 2 ^ k → ∀ w, (ptF μ (27 + 8 * i) k c q v).getLsbD w = (decide (w < 2 ^ k) && oW μ i k c q v w) := fun c hc v hv w => by
    by_cases g : w < 2 ^ k
    · rw [pt_eq h (by omega) hc hq0 hq2 hv g, decide_eq_true g, Bool.true_and]
    · rw [pt_hi h (by omega) hc (by omega) (by omega), decide_eq_false g, Bool.false_and]
  have ptn : ∀ c, c < k → ∀ v, v < 2 ^ k → (ptF μ (27 + 8 * i) k c q v ≠ 0 ↔ ∃ w, w < 2 ^ k ∧ oW μ i k c q v w = true) := fun c hc v hv => by
    rw [bv_ne]
    constructor
    · rintro ⟨w, -, hb⟩
      rw [pt c hc v hv, Bool.and_eq_true, decide_eq_true_iff] at hb
      exact ⟨w, hb⟩
    · rintro ⟨w, a, b⟩
      exact ⟨w, by omega, by rw [pt c hc v hv, decide_eq_true a, b]; rfl⟩
  refine least_abs (Gd := fun T => ∀ c, c < k → (∃ v, v < 2 ^ k ∧ ∃ w, w < 2 ^ k ∧ oW μ i k c q v w = true) → ∃ v, v < 2 ^ k ∧ T v = true ∧ ∃ w, w < 2 ^ k ∧ T w = true ∧ oW μ i k c q v w = true) (by omega) ?_ ?_ ?_ ?_ ?_
  · intro T T' e hT c hc hx
    obtain ⟨v, a, b, w, a', b', o⟩ := hT c hc hx
    exact ⟨v, a, (e v a) ▸ b, w, a', (e w a') ▸ b', o⟩
  · intro S
    have hO : ∀ c, c < k → (shO (feM μ (27 + 8 * i) k q k) (2 ^ k) S c = true ↔ ∃ v, v < 2 ^ k ∧ S.getLsbD v = true ∧ ∃ w, w < 2 ^ k ∧ S.getLsbD w = true ∧ oW μ i k c q v w = true) := fun c hc => by
      unfold shO
      rw [sF_is]
      constructor
      · rintro ⟨v, -, a, b⟩
        have hv : v < 2 ^ k := by omega
        rw [Bool.and_eq_true, decide_eq_true_iff, f1 c hc v hv] at b
        obtain ⟨w, -, hw⟩ := bv_ne.mp b.2
        rw [BitVec.getLsbD_and, pt c hc v hv, Bool.and_eq_true, Bool.and_eq_true, decide_eq_true_iff] at hw
        exact ⟨v, hv, b.1, w, hw.1.1, hw.2, hw.1.2⟩
      · rintro ⟨v, a, b, w, a', b', o⟩
        refine ⟨v, by omega, by omega, ?_⟩
        rw [Bool.and_eq_true, decide_eq_true_iff, f1 c hc v a]
        refine ⟨b, bv_ne.mpr ⟨w, by omega, ?_⟩⟩
        rw [BitVec.getLsbD_and, pt c hc v a, decide_eq_true a', o, b']; rfl
    have hsol : ∀ c, c < k → (decide (¬ ush (mI (feM μ (27 + 8 * i) k q k) 61 4) c % 2 = 0) = true ↔ ∃ v, v < 2 ^ k ∧ ∃ w, w < 2 ^ k ∧ oW μ i k c q v w = true) := fun c hc => by
      rw [f2, hd_2 t (by omega) c (by omega), f4 c]
      constructor
      · rintro ⟨-, v, a, b⟩; exact ⟨v, a, (ptn c hc v a).mp b⟩
      · rintro ⟨v, a, b⟩; exact ⟨hc, v, a, (ptn c hc v a).mpr b⟩
    unfold shA
    rw [Option.isNone_iff_eq_none, sF_no]
    constructor
    · intro hn c hc hx
      have := hn c (by omega) (by omega)
      rw [(hsol c hc).mpr hx, Bool.true_and] at this
      exact (hO c hc).mp (by cases hb : shO (feM μ (27 + 8 * i) k q k) (2 ^ k) S c with
        | true => rfl
        | false => rw [hb] at this; exact absurd this (by decide))
    · intro hn c _ hc'
      have hc : c < k := by omega
      cases hb : decide (¬ ush (mI (feM μ (27 + 8 * i) k q k) 61 4) c % 2 = 0) with
      | false => rfl
      | true => rw [(hO c hc).mpr (hn c hc ((hsol c hc).mp hb))]; rfl
  · intro s hs
    unfold oEn
    rw [allB_iff]
    have wbt : ∀ c, c < k → ∀ v, v < 2 ^ k → ∀ w, (wb (oW μ i k c q v) (2 ^ k)).testBit w = (decide (w < 2 ^ k) && oW μ i k c q v w) := fun c _ v _ w => wb_bit _ _ _
    have hS : ∀ c, c < k → (anyB (fun w => s.testBit w && decide (¬ ((mI (leM μ' i k q k) 90 (16 * c + w)).toNat &&& s) = 0)) (2 ^ k) = true ↔ ∃ v, v < 2 ^ k ∧ s.testBit v = true ∧ ∃ w, w < 2 ^ k ∧ s.testBit w = true ∧ oW μ i k c q v w = true) := fun c hc => by
      rw [anyB_iff]
      constructor
      · rintro ⟨v, a, b⟩
        rw [Bool.and_eq_true, decide_eq_true_iff, l1 c hc v a, hW, Int.toNat_natCast] at b
        obtain ⟨w, hw⟩ := nat_ne.mp b.2
        rw [Nat.testBit_and, wbt c hc v a, Bool.and_eq_true, Bool.and_eq_true, decide_eq_true_iff] at hw
        exact ⟨v, a, b.1, w, hw.1.1, hw.2, hw.1.2⟩
      · rintro ⟨v, a, b, w, a', b', o⟩
        refine ⟨v, a, ?_⟩
        rw [Bool.and_eq_true, decide_eq_true_iff, l1 c hc v a, hW, Int.toNat_natCast]
        refine ⟨b, nat_ne.mpr ⟨w, ?_⟩⟩
        rw [Nat.testBit_and, wbt c hc v a, decide_eq_true a', o, b']; rfl
    have hA : ∀ c, c < k → (anyB (fun w => decide (¬ mI (leM μ' i k q k) 90 (16 * c + w) = 0)) (2 ^ k) = true ↔ ∃ v, v < 2 ^ k ∧ ∃ w, w < 2 ^ k ∧ oW μ i k c q v w = true) := fun c hc => by
      rw [anyB_iff]
      constructor
      · rintro ⟨v, a, b⟩
        rw [decide_eq_true_iff, l1 c hc v a, hW] at b
        obtain ⟨w, hw⟩ := nat_ne.mp (show wb (oW μ i k c q v) (2 ^ k) ≠ 0 by omega)
        rw [wbt c hc v a, Bool.and_eq_true, decide_eq_true_iff] at hw
        exact ⟨v, a, w, hw⟩
      · rintro ⟨v, a, w, a', o⟩
        refine ⟨v, a, ?_⟩
        rw [decide_eq_true_iff, l1 c hc v a, hW]
        have : wb (oW μ i k c q v) (2 ^ k) ≠ 0 := nat_ne.mpr ⟨w, by rw [wbt c hc v a, decide_eq_true a', o]; rfl⟩
        omega
    constructor
    · intro hn c hc hx
      have := hn c hc
      rw [Bool.or_eq_true] at this
      rcases this with z | z
      · exact (hS c hc).mp z
      · rw [(hA c hc).mpr hx] at z; exact absurd z (by decide)
    · intro hn c hc
      rw [Bool.or_eq_true]
      cases hb : anyB (fun w => decide (¬ mI (leM μ' i k q k) 90 (16 * c + w) = 0)) (2 ^ k) with
      | false => exact Or.inr rfl
      | true => exact Or.inl ((hS c hc).mpr (hn c hc ((hA c hc).mp hb)))
  · intro T hT c hc hx
    obtain ⟨v, a, b, w, a', b', o⟩ := hT c hc hx
    have ho := o
    unfold oW oQ at ho
    simp only [Bool.and_eq_true] at ho
    have kv : (mL μ (27 + 8 * i) 9).getLsbD v = true := by rw [h.2.2.1 v (by omega), decide_eq_true a, ho.1.1.1.1.1]; rfl
    have kw : (mL μ (27 + 8 * i) 9).getLsbD w = true := by rw [h.2.2.1 w (by omega), decide_eq_true a', ho.1.1.1.1.2]; rfl
    exact ⟨v, a, by show (_ && _) = true; rw [b, kv]; rfl, w, a', by show (_ && _) = true; rw [b', kw]; rfl, o⟩
  · intro c hc hx
    obtain ⟨v, a, w, a', o⟩ := hx
    exact ⟨v, a, rfl, w, a', rfl, o⟩
end
