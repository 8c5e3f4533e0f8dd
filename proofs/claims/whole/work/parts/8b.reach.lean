/-! pure lemmas: truths and what is reached -/
section
variable {t J L R : Nat → Int} {nm : Nat → Nat} {T : Nat → BitVec 64} {sh : Bool}
theorem Seg_wf : ∀ {f v d a b c x : Nat}, Seg t J L R f v d a b c x → ∀ y, c ≤ y → y ≤ x → (0 ≤ J y ∧ J y ≤ 4) ∧ (J y = 4 → 0 ≤ L y ∧ L y < 8) ∧ (J y < 4 → 0 ≤ L y ∧ L y < (y : Int)) ∧ (J y < 3 → 0 ≤ R y ∧ R y < (y : Int))
  | 0, _, _, _, _, _, _, h => h.elim
  | f + 1, v, d, a, b, c, x, h => by
    intro z z1 z2
    rcases h with ⟨h1, h⟩ | ⟨h1, e, l, y, h2, h3, h4, h5, h6, h7, h8⟩ | ⟨h1, h2, y, h3, h4, h5, h⟩ | ⟨h1, h2, h0, e, h3, h4, h⟩ | ⟨h1, h2, h3, h4, h5, h6, h7⟩
    · exact Seg_wf h z z1 z2
    · have b1 := Seg_b h6; have b2 := Seg_b h8
      by_cases g1 : z ≤ l
      · exact Seg_wf h6 z z1 g1
      · by_cases g2 : z ≤ y
        · exact Seg_wf h8 z (by omega) g2
        · have : z = x := by omega
          subst this
          rw [h3, h4, h5]
          exact ⟨⟨by omega, by omega⟩, fun q => by omega, fun q => ⟨by omega, by omega⟩, fun q => ⟨by omega, by omega⟩⟩
    · have b1 := Seg_b h
      by_cases g2 : z ≤ y
      · exact Seg_wf h z z1 g2
      · have : z = x := by omega
        subst this
        rw [h4, h5]
        exact ⟨⟨by omega, by omega⟩, fun q => by omega, fun q => ⟨by omega, by omega⟩, fun q => by omega⟩
    · exact Seg_wf h z z1 z2
    · have : z = x := by omega
      subst this
      rw [h4, h7]
      exact ⟨⟨by omega, by omega⟩, fun q => ⟨by omega, by omega⟩, fun q => by omega, fun q => by omega⟩
/-! the truths -/
def trV (J L R : Nat → Int) (nm : Nat → Nat) (m : aM) (x : Nat) : BitVec 64 :=
  if J x = 4 then tW (nm (L x).toNat) else if J x = 3 then mL m 15 (L x).toNat ^^^ MO else if J x = 2 then mL m 15 (L x).toNat &&& mL m 15 (R x).toNat else if J x = 1 then mL m 15 (L x).toNat ^^^ mL m 15 (R x).toNat else mL m 15 (L x).toNat ||| mL m 15 (R x).toNat
/-- the memory after x nodes of findTruths -/
def ftM (J L R : Nat → Int) (nm : Nat → Nat) (m : aM) : Nat → aM
  | 0 => m
  | x + 1 => wL (ftM J L R nm m x) 15 x (trV J L R nm (ftM J L R nm m x) x)
theorem ftM_fr (m : aM) : ∀ x, (∀ a b, mI (ftM J L R nm m x) a b = mI m a b) ∧ (∀ a b, a ≠ 15 → mL (ftM J L R nm m x) a b = mL m a b) ∧ (∀ a b, mR (ftM J L R nm m x) a b = mR m a b)
  | 0 => ⟨fun _ _ => rfl, fun _ _ _ => rfl, fun _ _ => rfl⟩
  | x + 1 => by
    obtain ⟨h1, h2, h3⟩ := ftM_fr m x
    exact ⟨h1, fun a b h => by rw [ftM, mL_wL, if_neg (fun z => h z.1)]; exact h2 a b h, h3⟩
theorem ftM_st (m : aM) {y : Nat} : ∀ x, y < x → mL (ftM J L R nm m x) 15 y = trV J L R nm (ftM J L R nm m y) y
  | 0, h => absurd h (by omega)
  | x + 1, h => by
    rw [ftM, mL_wL]
    by_cases e : y = x
    · rw [if_pos ⟨rfl, e⟩, e]
    · rw [if_neg (fun z => e z.2)]; exact ftM_st m x (by omega)
theorem ftM_TE {m : aM} {n : Nat} (h : ∀ y, y < n → (J y < 4 → 0 ≤ L y ∧ L y < (y : Int)) ∧ (J y < 3 → 0 ≤ R y ∧ R y < (y : Int))) : TE J L R nm (fun x => mL (ftM J L R nm m n) 15 x) n := by
  intro x hx
  have st : ∀ z, z < x → mL (ftM J L R nm m n) 15 z = mL (ftM J L R nm m x) 15 z := fun z hz => by rw [ftM_st m n (by omega), ftM_st m x hz]
  have e := ftM_st (J := J) (L := L) (R := R) (nm := nm) m n hx
  obtain ⟨w1, w2⟩ := h x hx
  show (J x = 4 → mL (ftM J L R nm m n) 15 x = _) ∧ (J x = 3 → mL (ftM J L R nm m n) 15 x = _) ∧ (J x = 2 → mL (ftM J L R nm m n) 15 x = _) ∧ (J x = 1 → mL (ftM J L R nm m n) 15 x = _) ∧ (J x = 0 → mL (ftM J L R nm m n) 15 x = _)
  rw [e]
  unfold trV
  refine ⟨fun g => by rw [if_pos g], fun g => ?_, fun g => ?_, fun g => ?_, fun g => ?_⟩
  · rw [if_neg (by omega), if_pos g, ← st (L x).toNat (by omega)]
  · rw [if_neg (by omega), if_neg (by omega), if_pos g, ← st (L x).toNat (by omega), ← st (R x).toNat (by omega)]
  · rw [if_neg (by omega), if_neg (by omega), if_neg (by omega), if_pos g, ← st (L x).toNat (by omega), ← st (R x).toNat (by omega)]
  · rw [if_neg (by omega), if_neg (by omega), if_neg (by omega), if_neg (by omega), ← st (L x).toNat (by omega), ← st (R x).toNat (by omega)]
/-! what is reached -/
/-- the memory after node x of findReached, n nodes in all -/
def frS (J L R : Nat → Int) (nm : Nat → Nat) (T : Nat → BitVec 64) (sh : Bool) (D n x : Nat) (m : aM) : aM :=
  if J x = 4 then wL (if x + 1 = n then wL m 16 x MO else m) (D + 5) (nm (L x).toNat) (mL m (D + 5) (nm (L x).toNat) ||| (if x + 1 = n then MO else mL m 16 x))
  else if J x = 3 then wL (if x + 1 = n then wL m 16 x MO else m) 16 (L x).toNat (if x + 1 = n then MO else mL m 16 x)
  else wL (wL (if x + 1 = n then wL m 16 x MO else m) 16 (L x).toNat (if x + 1 = n then MO else mL m 16 x)) 16 (R x).toNat ((if x + 1 = n then MO else mL m 16 x) &&& opn J L T sh x)
/-- k nodes from x downwards -/
def frP (J L R : Nat → Int) (nm : Nat → Nat) (T : Nat → BitVec 64) (sh : Bool) (D n : Nat) : Nat → Nat → aM → aM
  | 0, _, m => m
  | k + 1, x, m => frP J L R nm T sh D n k (x - 1) (frS J L R nm T sh D n x m)
theorem frP_add (D n : Nat) : ∀ (k j x : Nat) (m : aM), frP J L R nm T sh D n (k + j) x m = frP J L R nm T sh D n j (x - k) (frP J L R nm T sh D n k x m)
  | 0, j, x, m => by rw [Nat.zero_add]; rfl
  | k + 1, j, x, m => by rw [show k + 1 + j = (k + j) + 1 by omega, frP, frP_add D n k j (x - 1), frP, show x - 1 - k = x - (k + 1) by omega]
theorem w0_L {m : aM} {n x a b : Nat} (h : ¬ (a = 16 ∧ b = x)) : mL (if x + 1 = n then wL m 16 x MO else m) a b = mL m a b := by
  split
  · rw [mL_wL, if_neg h]
  · rfl
theorem fr_seg {D n : Nat} (hD : 16 < D) : ∀ {f v d a b c x : Nat}, Seg t J L R f v d a b c x → x < n → ∀ m : aM,
    (∀ a' b', mI (frP J L R nm T sh D n (x + 1 - c) x m) a' b' = mI m a' b') ∧ (∀ a' b', mR (frP J L R nm T sh D n (x + 1 - c) x m) a' b' = mR m a' b') ∧ (∀ a' b', a' ≠ 16 → a' ≠ D + 5 → mL (frP J L R nm T sh D n (x + 1 - c) x m) a' b' = mL m a' b') ∧
    (∀ j, (j < c ∨ x < j) → mL (frP J L R nm T sh D n (x + 1 - c) x m) 16 j = mL m 16 j) ∧ (∀ i g, x < g → mL (frP J L R nm T sh D n (x + 1 - c) x m) (D + 5) i = mL m (D + 5) i ||| ev J L R nm T sh i g x (if x + 1 = n then MO else mL m 16 x))
  | 0, _, _, _, _, _, _, h => h.elim
  | f + 1, v, d, a, b, c, x, h => by
    intro hx m
    rcases h with ⟨h1, h⟩ | ⟨h1, e, l, y, h2, h3, h4, h5, h6, h7, h8⟩ | ⟨h1, h2, y, h3, h4, h5, h⟩ | ⟨h1, h2, h0, e, h3, h4, h⟩ | ⟨h1, h2, h3, h4, h5, h6, h7⟩
    · exact fr_seg (n := n) hD h hx m
    · have b1 := Seg_b h6; have b2 := Seg_b h8
      have hL : (L x).toNat = l := by rw [h5]; rfl
      have hR : (R x).toNat = y := by rw [h4]; rfl
      have hs : frS J L R nm T sh D n x m = wL (wL (if x + 1 = n then wL m 16 x MO else m) 16 l (if x + 1 = n then MO else mL m 16 x)) 16 y ((if x + 1 = n then MO else mL m 16 x) &&& opn J L T sh x) := by
        unfold frS; rw [if_neg (by omega), if_neg (by omega), hL, hR]
      rw [show x + 1 - c = 1 + ((y + 1 - (l + 1)) + (l + 1 - c)) by omega, frP_add, frP_add]
      rw [show frP J L R nm T sh D n 1 x m = frS J L R nm T sh D n x m from rfl]
      rw [show x - 1 = y by omega, show y - (y + 1 - (l + 1)) = l by omega]
      have f1 : ∀ a' b', mI (frS J L R nm T sh D n x m) a' b' = mI m a' b' := fun a' b' => by rw [hs]; show mI (if x + 1 = n then wL m 16 x MO else m) a' b' = _; split <;> rfl
      have f2 : ∀ a' b', mR (frS J L R nm T sh D n x m) a' b' = mR m a' b' := fun a' b' => by rw [hs]; show mR (if x + 1 = n then wL m 16 x MO else m) a' b' = _; split <;> rfl
      have f3 : ∀ a' b', a' ≠ 16 → mL (frS J L R nm T sh D n x m) a' b' = mL m a' b' := fun a' b' q => by
        rw [hs, mL_wL, if_neg (fun z => q z.1), mL_wL, if_neg (fun z => q z.1), w0_L (fun z => q z.1)]
      have f4 : ∀ j, j ≠ l → j ≠ y → j ≠ x → mL (frS J L R nm T sh D n x m) 16 j = mL m 16 j := fun j q1 q2 q3 => by
        rw [hs, mL_wL, if_neg (fun z => q2 z.2), mL_wL, if_neg (fun z => q1 z.2), w0_L (fun z => q3 z.2)]
      have f5 : mL (frS J L R nm T sh D n x m) 16 l = (if x + 1 = n then MO else mL m 16 x) := by
        rw [hs, mL_wL, if_neg (by omega), mL_wL, if_pos ⟨rfl, rfl⟩]
      have f6 : mL (frS J L R nm T sh D n x m) 16 y = (if x + 1 = n then MO else mL m 16 x) &&& opn J L T sh x := by
        rw [hs, mL_wL, if_pos ⟨rfl, rfl⟩]
      generalize frS J L R nm T sh D n x m = m1 at f1 f2 f3 f4 f5 f6 ⊢
      obtain ⟨p1, p2, p3, p4, p5⟩ := fr_seg (n := n) hD h8 (by omega) m1
      rw [if_neg (by omega), f6] at p5
      generalize frP J L R nm T sh D n (y + 1 - (l + 1)) y m1 = m2 at p1 p2 p3 p4 p5 ⊢
      obtain ⟨r1, r2, r3, r4, r5⟩ := fr_seg (n := n) hD h6 (by omega) m2
      rw [if_neg (by omega), p4 l (Or.inl (by omega)), f5] at r5
      refine ⟨fun a' b' => by rw [r1, p1, f1], fun a' b' => by rw [r2, p2, f2], fun a' b' q1 q2 => by rw [r3 a' b' q1 q2, p3 a' b' q1 q2, f3 a' b' q1], fun j hj => ?_, fun i g hg => ?_⟩
      · by_cases g0 : j = x
        · omega
        · rw [r4 j (by omega), p4 j (by omega), f4 j (by omega) (by omega) g0]
      · obtain ⟨g, rfl⟩ : ∃ g', g = g' + 1 := ⟨g - 1, by omega⟩
        rw [r5 i g (by omega), p5 i g (by omega), f3 _ _ (by omega), ev, if_neg (show ¬ J x = 4 by omega), if_neg (show ¬ J x = 3 by omega), hL, hR]
        rw [BitVec.or_assoc]
        congr 1
        exact BitVec.or_comm _ _
    · have b1 := Seg_b h
      have hL : (L x).toNat = y := by rw [h5]; rfl
      have hs : frS J L R nm T sh D n x m = wL (if x + 1 = n then wL m 16 x MO else m) 16 y (if x + 1 = n then MO else mL m 16 x) := by
        unfold frS; rw [if_neg (by omega), if_pos h4, hL]
      rw [show x + 1 - c = 1 + (y + 1 - c) by omega, frP_add]
      rw [show frP J L R nm T sh D n 1 x m = frS J L R nm T sh D n x m from rfl]
      rw [show x - 1 = y by omega]
      have f1 : ∀ a' b', mI (frS J L R nm T sh D n x m) a' b' = mI m a' b' := fun a' b' => by rw [hs]; show mI (if x + 1 = n then wL m 16 x MO else m) a' b' = _; split <;> rfl
      have f2 : ∀ a' b', mR (frS J L R nm T sh D n x m) a' b' = mR m a' b' := fun a' b' => by rw [hs]; show mR (if x + 1 = n then wL m 16 x MO else m) a' b' = _; split <;> rfl
      have f3 : ∀ a' b', a' ≠ 16 → mL (frS J L R nm T sh D n x m) a' b' = mL m a' b' := fun a' b' q => by
        rw [hs, mL_wL, if_neg (fun z => q z.1), w0_L (fun z => q z.1)]
      have f4 : ∀ j, j ≠ y → j ≠ x → mL (frS J L R nm T sh D n x m) 16 j = mL m 16 j := fun j q2 q3 => by
        rw [hs, mL_wL, if_neg (fun z => q2 z.2), w0_L (fun z => q3 z.2)]
      have f6 : mL (frS J L R nm T sh D n x m) 16 y = (if x + 1 = n then MO else mL m 16 x) := by
        rw [hs, mL_wL, if_pos ⟨rfl, rfl⟩]
      generalize frS J L R nm T sh D n x m = m1 at f1 f2 f3 f4 f6 ⊢
      obtain ⟨p1, p2, p3, p4, p5⟩ := fr_seg (n := n) hD h (by omega) m1
      rw [if_neg (by omega), f6] at p5
      refine ⟨fun a' b' => by rw [p1, f1], fun a' b' => by rw [p2, f2], fun a' b' q1 q2 => by rw [p3 a' b' q1 q2, f3 a' b' q1], fun j hj => ?_, fun i g hg => ?_⟩
      · by_cases g0 : j = x
        · omega
        · rw [p4 j (by omega), f4 j (by omega) g0]
      · obtain ⟨g, rfl⟩ : ∃ g', g = g' + 1 := ⟨g - 1, by omega⟩
        rw [p5 i g (by omega), f3 _ _ (by omega), ev, if_neg (show ¬ J x = 4 by omega), if_pos h4, hL]
    · exact fr_seg (n := n) hD h hx m
    · subst h3
      rw [show c + 1 - c = 1 by omega]
      show (∀ a' b', mI (frS J L R nm T sh D n c m) a' b' = mI m a' b') ∧ (∀ a' b', mR (frS J L R nm T sh D n c m) a' b' = mR m a' b') ∧ (∀ a' b', a' ≠ 16 → a' ≠ D + 5 → mL (frS J L R nm T sh D n c m) a' b' = mL m a' b') ∧ (∀ j, (j < c ∨ c < j) → mL (frS J L R nm T sh D n c m) 16 j = mL m 16 j) ∧ (∀ i g, c < g → mL (frS J L R nm T sh D n c m) (D + 5) i = _)
      have hs : frS J L R nm T sh D n c m = wL (if c + 1 = n then wL m 16 c MO else m) (D + 5) (nm (L c).toNat) (mL m (D + 5) (nm (L c).toNat) ||| (if c + 1 = n then MO else mL m 16 c)) := by
        unfold frS; rw [if_pos h4]
      rw [hs]
      refine ⟨fun a' b' => ?_, fun a' b' => ?_, fun a' b' q1 q2 => ?_, fun j hj => ?_, fun i g hg => ?_⟩
      · show mI (if c + 1 = n then wL m 16 c MO else m) a' b' = _; split <;> rfl
      · show mR (if c + 1 = n then wL m 16 c MO else m) a' b' = _; split <;> rfl
      · rw [mL_wL, if_neg (fun z => q2 z.1), w0_L (fun z => q1 z.1)]
      · rw [mL_wL, if_neg (by omega), w0_L (by omega)]
      · obtain ⟨g, rfl⟩ : ∃ g', g = g' + 1 := ⟨g - 1, by omega⟩
        rw [ev, if_pos h4, mL_wL]
        by_cases z : nm (L c).toNat = i
        · rw [if_pos ⟨rfl, z.symm⟩, if_pos z, z]
        · rw [if_neg (fun q => z q.2.symm), if_neg z, w0_L (by omega)]
          exact (BitVec.or_zero).symm
end
