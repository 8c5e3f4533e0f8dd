/-! pure lemmas: reading -/
section
/-! reading: what stays, what is read -/
def FrT (c : Nat) (μ m : aM) : Prop := (∀ a b, a ≠ 12 → a ≠ 13 → a ≠ 14 → ¬ (a = 17 ∧ (b = 3 ∨ b = 4)) → ¬ (a = 11 ∧ (b = 5 ∨ b = 6)) → mI m a b = mI μ a b) ∧ (∀ b, b < c → mI m 12 b = mI μ 12 b ∧ mI m 13 b = mI μ 13 b ∧ mI m 14 b = mI μ 14 b) ∧ (∀ a b, mL m a b = mL μ a b) ∧ (∀ a b, mR m a b = mR μ a b)
theorem FrT.refl (c : Nat) (μ : aM) : FrT c μ μ := ⟨fun _ _ _ _ _ _ _ => rfl, fun _ _ => ⟨rfl, rfl, rfl⟩, fun _ _ => rfl, fun _ _ => rfl⟩
theorem FrT.trans {c c' : Nat} {μ m l : aM} (h : FrT c μ m) (g : FrT c' m l) (hc : c ≤ c') : FrT c μ l :=
  ⟨fun a b h1 h2 h3 h4 h5 => (g.1 a b h1 h2 h3 h4 h5).trans (h.1 a b h1 h2 h3 h4 h5), fun b hb => by
    obtain ⟨p1, p2, p3⟩ := g.2.1 b (by omega)
    obtain ⟨q1, q2, q3⟩ := h.2.1 b hb
    exact ⟨p1.trans q1, p2.trans q2, p3.trans q3⟩, fun a b => (g.2.2.1 a b).trans (h.2.2.1 a b), fun a b => (g.2.2.2 a b).trans (h.2.2.2 a b)⟩
theorem FrT_w {c : Nat} (m : aM) {k b : Nat} (z : Int) (h : (k = 17 ∧ (b = 3 ∨ b = 4)) ∨ (k = 11 ∧ (b = 5 ∨ b = 6))) : FrT c m (wI m k b z) :=
  ⟨fun a j h1 h2 h3 h4 h5 => by rw [mI_wI, if_neg (by intro q; obtain ⟨rfl, rfl⟩ := q; rcases h with h | h; exact h4 h; exact h5 h)],
   fun j _ => by refine ⟨?_, ?_, ?_⟩ <;> (rw [mI_wI, if_neg (by omega)]), fun _ _ => rfl, fun _ _ => rfl⟩
/-- a node more -/
def adM (m : aM) (c : Nat) (j l r : Int) : aM := wI (wI (wI (wI m 12 c j) 13 c l) 14 c r) 11 5 ((c : Int) + 1)
theorem FrT_ad {c c' : Nat} (h : c ≤ c') (m : aM) (j l r : Int) : FrT c m (adM m c' j l r) :=
  ⟨fun a b h1 h2 h3 h4 h5 => by rw [adM, mI_wI, if_neg (fun q => h5 ⟨q.1, Or.inl q.2⟩), mI_wI, if_neg (fun q => h3 q.1), mI_wI, if_neg (fun q => h2 q.1), mI_wI, if_neg (fun q => h1 q.1)],
   fun b hb => by
    refine ⟨?_, ?_, ?_⟩ <;> (rw [adM, mI_wI, if_neg (by omega), mI_wI, if_neg (by omega), mI_wI, if_neg (by omega), mI_wI, if_neg (by omega)]), fun _ _ => rfl, fun _ _ => rfl⟩
theorem ad_new (m : aM) (c : Nat) (j l r : Int) : mI (adM m c j l r) 12 c = j ∧ mI (adM m c j l r) 13 c = l ∧ mI (adM m c j l r) 14 c = r ∧ mI (adM m c j l r) 11 5 = (c : Int) + 1 := by
  refine ⟨?_, ?_, ?_, ?_⟩ <;> simp [adM, mI_wI]
theorem ad_fix (m : aM) (c : Nat) (j l r : Int) : mI (adM m c j l r) 17 3 = mI m 17 3 ∧ mI (adM m c j l r) 17 4 = mI m 17 4 ∧ mI (adM m c j l r) 11 6 = mI m 11 6 := by
  refine ⟨?_, ?_, ?_⟩ <;> simp [adM, mI_wI]
theorem seg_fr {t : Nat → Int} {μ m : aM} {c' : Nat} (h : FrT c' μ m) {f v d a b c x : Nat} (hx : x < c') (hs : Seg t (mI μ 12) (mI μ 13) (mI μ 14) f v d a b c x) : Seg t (mI m 12) (mI m 13) (mI m 14) f v d a b c x :=
  Seg_ext (fun y _ h2 => h.2.1 y (by omega)) hs
def Rd (t : Nat → Int) (n md : Nat) (m : aM) : Prop := mI m 9 1 = (n : Int) ∧ mI m 17 2 = (md : Int) ∧ (∀ p, p < n → mI m 10 p = t p) ∧ (∀ j, 0 ≤ mI m 10 j ∧ mI m 10 j < 65536)
theorem Rd.fr {t : Nat → Int} {n md c : Nat} {μ m : aM} (h : Rd t n md μ) (g : FrT c μ m) : Rd t n md m := by
  have e : ∀ a b, a < 11 → mI m a b = mI μ a b := fun a b ha => g.1 a b (by omega) (by omega) (by omega) (by omega) (by omega)
  exact ⟨(e _ _ (by omega)).trans h.1, (g.1 17 2 (by omega) (by omega) (by omega) (by omega) (by omega)).trans h.2.1, fun p hp => (e _ _ (by omega)).trans (h.2.2.1 p hp), fun j => by rw [e _ _ (by omega)]; exact h.2.2.2 j⟩
def RdS (t : Nat → Int) (md : Nat) (m : aM) (p d s c : Nat) : Prop := mI m 17 3 = (p : Int) ∧ mI m 17 4 = -1 ∧ mI m 11 5 = (c : Int) ∧ mI m 11 6 = (s : Int) ∧ c ≤ p ∧ au t md p = some (true, d, s)
def RdOk (t : Nat → Int) (n md v d p c : Nat) (z : Int) (m : aM) : Prop := ∃ q x s f : Nat, p < q ∧ q ≤ n ∧ z = (x : Int) ∧ mI m 17 3 = (q : Int) ∧ mI m 17 4 = -1 ∧ mI m 11 5 = ((x + 1 : Nat) : Int) ∧ mI m 11 6 = (s : Int) ∧ au t md q = some (false, d, s) ∧ Seg t (mI m 12) (mI m 13) (mI m 14) f v d p q c x ∧ (∀ u, v ≤ u → u < 3 → q = n ∨ ¬ t q = sgn u)
def RdF (t : Nat → Int) (n md d : Nat) (z : Int) (m : aM) : Prop := ∃ q : Nat, Flt t md n q ∧ mI m 17 4 = (q : Int) ∧ (0 ≤ mI m 17 3 ∧ mI m 17 3 ≤ 47 - (d : Int)) ∧ (0 ≤ mI m 11 5 ∧ mI m 11 5 ≤ 40) ∧ (-1 ≤ z ∧ z < 40)
theorem cnt_31_8 {s : Nat} (hs : s < 256) : cnt 31 s = cnt 8 s := by
  rw [cnt_cn, cnt_cn]
  exact cn_more 31 (by omega) (fun j h1 _ => Nat.testBit_lt_two_pow (Nat.lt_of_lt_of_le hs (Nat.pow_le_pow_right (n := 2) (by omega) h1)))
/-- a sign is read -/
theorem au_sgn {t : Nat → Int} {md q d s v : Nat} (h : au t md q = some (false, d, s)) (hv : v < 3) (ht : t q = sgn v) : au t md (q + 1) = some (true, d, s) := by
  rw [au_step h]
  have e : sgn v = 124 ∨ sgn v = 94 ∨ sgn v = 38 := by rcases (show v = 0 ∨ v = 1 ∨ v = 2 by omega) with rfl | rfl | rfl <;> decide
  exact aus_sign (fun z => by omega) (by omega)
theorem au_33 {t : Nat → Int} {md q d s : Nat} (h : au t md q = some (true, d, s)) (ht : t q = 33) : au t md (q + 1) = some (true, d, s) := by
  rw [au_step h]
  exact aus_not (fun z => by omega) (fun z => by have := z.1.1; omega) ht
theorem au_40 {t : Nat → Int} {md q d s : Nat} (h : au t md q = some (true, d, s)) (ht : t q = 40) (hd : d < 6) : au t md (q + 1) = some (true, d + 1, s) := by
  rw [au_step h]; exact aus_open ht hd
theorem au_41 {t : Nat → Int} {md q d s : Nat} (h : au t md q = some (false, d + 1, s)) (ht : t q = 41) (hd : 1 ≤ d) : au t md (q + 1) = some (false, d, s) := by
  rw [au_step h, aus_close ht (by omega), Nat.add_sub_cancel]
theorem flt_deep {t : Nat → Int} {md n q s : Nat} (h : au t md q = some (true, 6, s)) (hq : q < n) (ht : t q = 40) : Flt t md n q := ⟨_, h, Or.inl ⟨hq, aus_bad1 (fun z => by omega) (fun z => by have := z.1.1; omega) (by omega)⟩⟩
theorem flt_open {t : Nat → Int} {md n q d s : Nat} (h : au t md q = some (false, d + 1, s)) (hq : q ≤ n) (hd : 1 ≤ d) (ht : q = n ∨ (¬ t q = 41 ∧ ∀ u, u < 3 → ¬ t q = sgn u)) : Flt t md n q := by
  refine ⟨_, h, ?_⟩
  by_cases e : q = n
  · exact Or.inr ⟨e, Or.inr (by show 1 < d + 1; omega)⟩
  · obtain ⟨h1, h2⟩ := ht.resolve_left e
    have a0 : ¬ t q = 124 := h2 0 (by omega)
    have a1 : ¬ t q = 94 := h2 1 (by omega)
    have a2 : ¬ t q = 38 := h2 2 (by omega)
    exact Or.inl ⟨by omega, aus_bad0 (fun z => h1 z.1) (by omega)⟩
theorem flt_end {t : Nat → Int} {md n q s : Nat} (h : au t md q = some (false, 1, s)) (hq : q < n) (ht : ∀ u, u < 3 → q = n ∨ ¬ t q = sgn u) : Flt t md n q := by
  have a0 : ¬ t q = 124 := (ht 0 (by omega)).resolve_left (by omega)
  have a1 : ¬ t q = 94 := (ht 1 (by omega)).resolve_left (by omega)
  have a2 : ¬ t q = 38 := (ht 2 (by omega)).resolve_left (by omega)
  exact ⟨_, h, Or.inl ⟨hq, aus_bad0 (fun z => by have := z.2; omega) (by omega)⟩⟩
theorem flt_let {t : Nat → Int} {md n p d s : Nat} (h : au t md p = some (true, d, s)) (hp : p ≤ n) (h33 : p = n ∨ (¬ t p = 33 ∧ ¬ t p = 40)) (hb : p = n ∨ ¬ (isLt md (t p) ∧ cnt 31 (more md (t p) s) ≤ 6)) : Flt t md n p := by
  refine ⟨_, h, ?_⟩
  by_cases e : p = n
  · exact Or.inr ⟨e, Or.inl rfl⟩
  · obtain ⟨a1, a2⟩ := h33.resolve_left e
    exact Or.inl ⟨by omega, aus_bad1 (fun z => a2 z.1) (hb.resolve_left e) a1⟩
end
