/-! pure lemmas: going through all vectors -/
section
/-! going through all vectors -/
def itr (f : Int → aM → aM) (lo : Int) : Nat → aM → aM
  | 0, m => m
  | n + 1, m => f (lo + n) (itr f lo n m)
theorem itr_inv {P : aM → Prop} {f : Int → aM → aM} {lo : Int} {m : aM} (h0 : P m) : ∀ n : Nat, (∀ v m, lo ≤ v → v < lo + (n : Int) → P m → P (f v m)) → P (itr f lo n m)
  | 0, _ => h0
  | n + 1, h => h _ _ (by omega) (by omega) (itr_inv h0 n (fun v m h1 h2 hp => h v m h1 (by omega) hp))
theorem itr_rel {R : aM → aM → Prop} {f g : Int → aM → aM} {lo : Int} {m1 m2 : aM} (h0 : R m1 m2) : ∀ n : Nat, (∀ v m1 m2, lo ≤ v → v < lo + (n : Int) → R m1 m2 → R (f v m1) (g v m2)) → R (itr f lo n m1) (itr g lo n m2)
  | 0, _ => h0
  | n + 1, h => h _ _ _ (by omega) (by omega) (itr_rel h0 n (fun v m1 m2 h1 h2 hp => h v m1 m2 h1 (by omega) hp))
/-- the class meets a word -/
def meS (D w : Nat) (x y z : Int) (m : aM) : aM := if (mL m D 9).getLsbD w = true then m else wI (wI (wI (wL m D 9 (mL m D 9 ||| ((1 : BitVec 64) <<< w))) (D + 7) (3 * w) x) (D + 7) (3 * w + 1) y) (D + 7) (3 * w + 2) z
/-- the reference meets a word, w counted among all -/
def fvS (w : Nat) (x y z : Int) (m : aM) : aM := if ¬ mI m 80 w = 0 then m else wI (wI (wI (wI m 80 w 1) 81 (3 * w) x) 81 (3 * w + 1) y) 81 (3 * w + 2) z
def VR (D i k : Nat) (m1 m2 : aM) : Prop := (∀ w, w < 64 → (mL m1 D 9).getLsbD w = (decide (w < 2 ^ k) && decide (¬ mI m2 80 (64 * i + w) = 0))) ∧ (∀ w, w < 2 ^ k → ¬ mI m2 80 (64 * i + w) = 0 → ∀ x, x < 3 → mI m1 (D + 7) (3 * w + x) = mI m2 81 (3 * (64 * i + w) + x))
theorem VR_step {D i k : Nat} {m1 m2 : aM} {w : Nat} {x y z : Int} (h6 : k ≤ 6) (hw : w < 2 ^ k) (h : VR D i k m1 m2) : VR D i k (meS D w x y z m1) (fvS (64 * i + w) x y z m2) := by
  have hp : 2 ^ k ≤ 64 := Nat.pow_le_pow_right (n := 2) (by omega) h6
  have hb := h.1 w (by omega)
  rw [decide_eq_true hw, Bool.true_and] at hb
  unfold meS fvS
  by_cases g : ¬ mI m2 80 (64 * i + w) = 0
  · rw [if_pos g, if_pos (by rw [hb]; exact decide_eq_true g)]; exact h
  · rw [if_neg g, if_neg (by rw [hb, decide_eq_false g]; decide)]
    have eI : ∀ u, mI (wI (wI (wI (wI m2 80 (64 * i + w) 1) 81 (3 * (64 * i + w)) x) 81 (3 * (64 * i + w) + 1) y) 81 (3 * (64 * i + w) + 2) z) 80 u = if u = 64 * i + w then 1 else mI m2 80 u := fun u => by
      rw [mI_wI, if_neg (by omega), mI_wI, if_neg (by omega), mI_wI, if_neg (by omega), mI_wI]
      by_cases e : u = 64 * i + w
      · rw [if_pos ⟨rfl, e⟩, if_pos e]
      · rw [if_neg (fun z => e z.2), if_neg e]
    have eL : mL (wI (wI (wI (wL m1 D 9 (mL m1 D 9 ||| ((1 : BitVec 64) <<< w))) (D + 7) (3 * w) x) (D + 7) (3 * w + 1) y) (D + 7) (3 * w + 2) z) D 9 = mL m1 D 9 ||| ((1 : BitVec 64) <<< w) := by
      show mL (wL m1 D 9 _) D 9 = _; rw [mL_wL, if_pos ⟨rfl, rfl⟩]
    refine ⟨fun u hu => ?_, fun u hu hc x' hx' => ?_⟩
    · rw [eL, eI, BitVec.getLsbD_or, h.1 u hu, one_bit hu (by omega)]
      by_cases e : u = w
      · subst e; rw [if_pos rfl, decide_eq_true hw, decide_eq_true rfl]; simp
      · rw [if_neg (show ¬ 64 * i + u = 64 * i + w by omega), decide_eq_false (show ¬ w = u by omega), Bool.or_false]
    · rw [eI] at hc
      have e1 : mI (wI (wI (wI (wL m1 D 9 (mL m1 D 9 ||| ((1 : BitVec 64) <<< w))) (D + 7) (3 * w) x) (D + 7) (3 * w + 1) y) (D + 7) (3 * w + 2) z) (D + 7) (3 * u + x') = if u = w then (if x' = 0 then x else if x' = 1 then y else z) else mI m1 (D + 7) (3 * u + x') := by
        rw [mI_wI, mI_wI, mI_wI, mI_wL]
        by_cases e : u = w
        · subst e
          rw [if_pos rfl]
          rcases (show x' = 0 ∨ x' = 1 ∨ x' = 2 by omega) with rfl | rfl | rfl
          · rw [if_neg (by omega), if_neg (by omega), if_pos ⟨rfl, by omega⟩]; rfl
          · rw [if_neg (by omega), if_pos ⟨rfl, rfl⟩]; rfl
          · rw [if_pos ⟨rfl, rfl⟩]; rfl
        · rw [if_neg e, if_neg (by omega), if_neg (by omega), if_neg (by omega)]
      have e2 : mI (wI (wI (wI (wI m2 80 (64 * i + w) 1) 81 (3 * (64 * i + w)) x) 81 (3 * (64 * i + w) + 1) y) 81 (3 * (64 * i + w) + 2) z) 81 (3 * (64 * i + u) + x') = if u = w then (if x' = 0 then x else if x' = 1 then y else z) else mI m2 81 (3 * (64 * i + u) + x') := by
        rw [mI_wI, mI_wI, mI_wI, mI_wI]
        by_cases e : u = w
        · subst e
          rw [if_pos rfl]
          rcases (show x' = 0 ∨ x' = 1 ∨ x' = 2 by omega) with rfl | rfl | rfl
          · rw [if_neg (by omega), if_neg (by omega), if_pos ⟨rfl, by omega⟩]; rfl
          · rw [if_neg (by omega), if_pos ⟨rfl, rfl⟩]; rfl
          · rw [if_pos ⟨rfl, rfl⟩]; rfl
        · rw [if_neg e, if_neg (by omega), if_neg (by omega), if_neg (by omega), if_neg (by omega)]
      rw [e1, e2]
      by_cases e : u = w
      · rw [if_pos e, if_pos e]
      · rw [if_neg e, if_neg e]
        rw [if_neg (show ¬ 64 * i + u = 64 * i + w by omega)] at hc
        exact h.2 u hu hc x' hx'
/-! the table of the class -/
/-- zeros: e entries of row r, after the rows below -/
def zrM (m : aM) (r : Nat) : Nat → aM
  | 0 => m
  | e + 1 => wI (zrM m r e) (20 + r) e 0
def zbM (m : aM) : Nat → aM
  | 0 => m
  | r + 1 => zrM (zbM m r) r 81
def FrB (μ m : aM) : Prop := (∀ a b, (a < 20 ∨ 25 < a) → mI m a b = mI μ a b) ∧ (∀ a b, mL m a b = mL μ a b) ∧ (∀ a b, mR m a b = mR μ a b)
theorem FrB.refl (μ : aM) : FrB μ μ := ⟨fun _ _ _ => rfl, fun _ _ => rfl, fun _ _ => rfl⟩
theorem FrB.trans {μ m l : aM} (h : FrB μ m) (g : FrB m l) : FrB μ l := ⟨fun a b h1 => (g.1 a b h1).trans (h.1 a b h1), fun a b => (g.2.1 a b).trans (h.2.1 a b), fun a b => (g.2.2 a b).trans (h.2.2 a b)⟩
theorem FrB_w (m : aM) {r : Nat} (hr : r < 6) (b : Nat) (z : Int) : FrB m (wI m (20 + r) b z) := ⟨fun a j h => by rw [mI_wI, if_neg (by omega)], fun _ _ => rfl, fun _ _ => rfl⟩
theorem zrM_fr (m : aM) {r : Nat} (hr : r < 6) : ∀ e, FrB m (zrM m r e)
  | 0 => FrB.refl m
  | e + 1 => (zrM_fr m hr e).trans (FrB_w _ hr _ _)
theorem zbM_fr (m : aM) : ∀ r, r ≤ 6 → FrB m (zbM m r)
  | 0, _ => FrB.refl m
  | r + 1, h => (zbM_fr m r (by omega)).trans (zrM_fr _ (by omega) _)
theorem zrM_has (m : aM) (r : Nat) : ∀ e, (∀ b, b < e → mI (zrM m r e) (20 + r) b = 0) ∧ (∀ a b, a ≠ 20 + r → mI (zrM m r e) a b = mI m a b)
  | 0 => ⟨fun b h => absurd h (by omega), fun _ _ _ => rfl⟩
  | e + 1 => by
    obtain ⟨h1, h2⟩ := zrM_has m r e
    refine ⟨fun b hb => ?_, fun a b ha => ?_⟩
    · rw [zrM, mI_wI]
      by_cases g : b = e
      · rw [if_pos ⟨rfl, g⟩]
      · rw [if_neg (fun z => g z.2)]; exact h1 b (by omega)
    · rw [zrM, mI_wI, if_neg (fun z => ha z.1)]; exact h2 a b ha
theorem zbM_has (m : aM) : ∀ n, n ≤ 6 → ∀ r, r < n → ∀ b, b < 81 → mI (zbM m n) (20 + r) b = 0
  | 0, _, r, h => absurd h (by omega)
  | n + 1, hn, r, h => fun b hb => by
    obtain ⟨h1, h2⟩ := zrM_has (zbM m n) n 81
    rw [zbM]
    by_cases g : r = n
    · rw [g]; exact h1 b hb
    · rw [h2 _ _ (by omega)]; exact zbM_has m n (by omega) r (by omega) b hb
/-- one condition's entries: t differences -/
def enM (h : Int → Bool) (r : Nat) (tn : Bool) (v : Nat) (m : aM) : Nat → aM
  | 0 => m
  | t + 1 => if h ((t : Int) - 40) = true then wI (enM h r tn v m t) (20 + r) (if tn then 80 - t else t) (((mI (enM h r tn v m t) (20 + r) (if tn then 80 - t else t)).toNat ||| v : Nat) : Int) else enM h r tn v m t
theorem enM_fr (h : Int → Bool) {r : Nat} (hr : r < 6) (tn : Bool) (v : Nat) (m : aM) : ∀ t, FrB m (enM h r tn v m t)
  | 0 => FrB.refl m
  | t + 1 => by
    rw [enM]
    split
    · exact (enM_fr h hr tn v m t).trans (FrB_w _ hr _ _)
    · exact enM_fr h hr tn v m t
/-- the difference that an entry stands for -/
def dfE (tn : Bool) (e : Nat) : Int := if tn then 40 - (e : Int) else (e : Int) - 40
theorem enM_has {h : Int → Bool} {r : Nat} {tn : Bool} {v : Nat} {m : aM} (h0 : ∀ b, b < 81 → 0 ≤ mI m (20 + r) b) : ∀ t, t ≤ 81 →
    (∀ a b, a ≠ 20 + r → mI (enM h r tn v m t) a b = mI m a b) ∧ (∀ e, e < 81 → mI (enM h r tn v m t) (20 + r) e = (((mI m (20 + r) e).toNat ||| (if (if tn then 80 - e else e) < t ∧ h (dfE tn e) = true then v else 0) : Nat) : Int))
  | 0, _ => ⟨fun _ _ _ => rfl, fun e he => by rw [if_neg (by omega), Nat.or_zero]; have := h0 e he; show mI m (20 + r) e = _; omega⟩
  | t + 1, ht => by
    obtain ⟨q1, q2⟩ := enM_has (h := h) (tn := tn) (v := v) h0 t (by omega)
    have hd : ∀ e, e < 81 → (if tn then 80 - e else e) = t → dfE tn e = (t : Int) - 40 ∧ (if tn then 80 - t else t) = e := fun e he g => by
      unfold dfE; cases tn <;> simp at g ⊢ <;> omega
    have hd' : ∀ e, e < 81 → (if tn then 80 - t else t) = e → (if tn then 80 - e else e) = t := fun e he g => by cases tn <;> simp at g ⊢ <;> omega
    rw [enM]
    by_cases g : h ((t : Int) - 40) = true
    · rw [if_pos g]
      refine ⟨fun a b ha => by rw [mI_wI, if_neg (fun z => ha z.1)]; exact q1 a b ha, fun e he => ?_⟩
      rw [mI_wI]
      by_cases w : (if tn then 80 - e else e) = t
      · obtain ⟨d1, d2⟩ := hd e he w
        rw [d2, if_pos ⟨rfl, rfl⟩, q2 e he, w, d1, if_neg (by omega), if_pos ⟨by omega, g⟩, Nat.or_zero, Int.toNat_natCast]
      · rw [if_neg (fun z => w (hd' e he z.2.symm)), q2 e he]
        congr 2
        by_cases s1 : (if tn then 80 - e else e) < t ∧ h (dfE tn e) = true
        · rw [if_pos s1, if_pos ⟨by omega, s1.2⟩]
        · rw [if_neg s1, if_neg (fun z => s1 ⟨by have := z.1; omega, z.2⟩)]
    · rw [if_neg g]
      refine ⟨q1, fun e he => ?_⟩
      rw [q2 e he]
      congr 2
      by_cases s1 : (if tn then 80 - e else e) < t ∧ h (dfE tn e) = true
      · rw [if_pos s1, if_pos ⟨by omega, s1.2⟩]
      · rw [if_neg s1, if_neg (fun z => by
          by_cases w : (if tn then 80 - e else e) = t
          · rw [(hd e he w).1] at z; exact g z.2
          · exact s1 ⟨by have := z.1; omega, z.2⟩)]
/-- the row of a condition's inputs, and whether it is turned round -/
def sc2 (s : Int) : Int := if s = -1 then 3 else s
def tnd (f s : Int) : Bool := decide (sc2 s < f)
def rwN (a b : Nat) : Nat := b * (b - 1) / 2 + a
def rwD (f s : Int) : Nat := if tnd f s then rwN (sc2 s).toNat f.toNat else rwN f.toNat (sc2 s).toNat
/-- the whole table after j conditions; F S: inputs, Hh: whether it holds at a difference -/
def fbM (F S : Nat → Int) (Hh : Nat → Int → Bool) (m : aM) : Nat → aM
  | 0 => zbM m 6
  | j + 1 => enM (Hh j) (rwD (F j) (S j)) (tnd (F j) (S j)) (2 ^ j) (fbM F S Hh m j) 81
def okI (f s : Int) : Prop := (0 ≤ f ∧ f < 3) ∧ (-1 ≤ s ∧ s < 3) ∧ ¬ f = s
theorem rwD_6 {f s : Int} (h : okI f s) : rwD f s < 6 := by
  obtain ⟨⟨a1, a2⟩, ⟨b1, b2⟩, c⟩ := h
  rcases (show f = 0 ∨ f = 1 ∨ f = 2 by omega) with rfl | rfl | rfl <;> rcases (show s = -1 ∨ s = 0 ∨ s = 1 ∨ s = 2 by omega) with rfl | rfl | rfl | rfl <;> first | exact absurd rfl c | decide
theorem fbM_fr {F S : Nat → Int} {Hh : Nat → Int → Bool} {m : aM} : ∀ j, (∀ j', j' < j → okI (F j') (S j')) → FrB m (fbM F S Hh m j)
  | 0, _ => zbM_fr m 6 (Nat.le_refl _)
  | j + 1, h => (fbM_fr j (fun j' h' => h j' (by omega))).trans (enM_fr _ (rwD_6 (h j (by omega))) _ _ _ _)
def tbF (F S : Nat → Int) (Hh : Nat → Int → Bool) (r e : Nat) : Nat → Bool := fun j => decide (rwD (F j) (S j) = r) && Hh j (dfE (tnd (F j) (S j)) e)
theorem fbM_has {F S : Nat → Int} {Hh : Nat → Int → Bool} {m : aM} : ∀ j, (∀ j', j' < j → okI (F j') (S j')) → ∀ r, r < 6 → ∀ e, e < 81 → mI (fbM F S Hh m j) (20 + r) e = ((wb (tbF F S Hh r e) j : Nat) : Int)
  | 0, _, r, hr, e, he => by rw [fbM, zbM_has m 6 (Nat.le_refl _) r hr e he]; rfl
  | j + 1, h, r, hr, e, he => by
    have ih := fbM_has (F := F) (S := S) (Hh := Hh) (m := m) j (fun j' h' => h j' (by omega))
    have hr6 := rwD_6 (h j (by omega))
    obtain ⟨q1, q2⟩ := enM_has (h := Hh j) (r := rwD (F j) (S j)) (tn := tnd (F j) (S j)) (v := 2 ^ j) (m := fbM F S Hh m j) (fun b hb => by rw [ih _ hr6 b hb]; omega) 81 (Nat.le_refl _)
    rw [fbM]
    by_cases g : rwD (F j) (S j) = r
    · subst g
      rw [q2 e he, ih _ hr6 e he, Int.toNat_natCast, wb]
      congr 2
      have ht : (if tnd (F j) (S j) = true then 80 - e else e) < 81 := by split <;> omega
      have : tbF F S Hh (rwD (F j) (S j)) e j = Hh j (dfE (tnd (F j) (S j)) e) := by unfold tbF; rw [decide_eq_true rfl, Bool.true_and]
      rw [this]
      by_cases s : Hh j (dfE (tnd (F j) (S j)) e) = true
      · rw [if_pos ⟨ht, s⟩, if_pos s]
      · rw [if_neg (fun z => s z.2), if_neg s]
    · rw [q1 _ _ (by omega), ih r hr e he, wb]
      have : tbF F S Hh r e j = false := by unfold tbF; rw [decide_eq_false g, Bool.false_and]
      rw [this, if_neg (by decide), Nat.or_zero]
/-- the word of a vector, out of the table -/
def cwW (F S : Nat → Int) (Hh : Nat → Int → Bool) (k : Nat) (x y z : Int) : Nat :=
  (wb (tbF F S Hh 3 (x + 40).toNat) k ||| wb (tbF F S Hh 4 (y + 40).toNat) k ||| wb (tbF F S Hh 0 (x - y + 40).toNat) k) ||| (wb (tbF F S Hh 5 (z + 40).toNat) k ||| wb (tbF F S Hh 1 (x - z + 40).toNat) k ||| wb (tbF F S Hh 2 (y - z + 40).toNat) k)
theorem cw_bit {f s : Int} (h : okI f s) {x y z : Int} (hx : -20 ≤ x ∧ x ≤ 20) (hy : -20 ≤ y ∧ y ≤ 20) (hz : -20 ≤ z ∧ z ≤ 20) (H : Int → Bool) :
    (((decide (rwD f s = 3) && H (dfE (tnd f s) (x + 40).toNat)) || (decide (rwD f s = 4) && H (dfE (tnd f s) (y + 40).toNat)) || (decide (rwD f s = 0) && H (dfE (tnd f s) (x - y + 40).toNat))) || ((decide (rwD f s = 5) && H (dfE (tnd f s) (z + 40).toNat)) || (decide (rwD f s = 1) && H (dfE (tnd f s) (x - z + 40).toNat)) || (decide (rwD f s = 2) && H (dfE (tnd f s) (y - z + 40).toNat)))) = H (pk3 f x y z - sb3 s x y z) := by
  obtain ⟨⟨a1, a2⟩, ⟨b1, b2⟩, c⟩ := h
  have eF : ∀ v : Int, 0 ≤ v + 40 → dfE false (v + 40).toNat = v := fun v hv => by unfold dfE; rw [if_neg (by decide)]; omega
  have eT : ∀ v : Int, 0 ≤ v + 40 → dfE true (v + 40).toNat = -v := fun v hv => by unfold dfE; rw [if_pos rfl]; omega
  rcases (show f = 0 ∨ f = 1 ∨ f = 2 by omega) with rfl | rfl | rfl <;> rcases (show s = -1 ∨ s = 0 ∨ s = 1 ∨ s = 2 by omega) with rfl | rfl | rfl | rfl <;> first | exact absurd rfl c | skip
  · rw [show rwD 0 (-1) = 3 from rfl, show tnd 0 (-1) = false from rfl, eF x (by omega)]; simp [pk3, sb3]
  · rw [show rwD 0 1 = 0 from rfl, show tnd 0 1 = false from rfl, eF (x - y) (by omega)]; simp [pk3, sb3]
  · rw [show rwD 0 2 = 1 from rfl, show tnd 0 2 = false from rfl, eF (x - z) (by omega)]; simp [pk3, sb3]
  · rw [show rwD 1 (-1) = 4 from rfl, show tnd 1 (-1) = false from rfl, eF y (by omega)]; simp [pk3, sb3]
  · rw [show rwD 1 0 = 0 from rfl, show tnd 1 0 = true from rfl, eT (x - y) (by omega)]; simp [pk3, sb3]; congr 1; omega
  · rw [show rwD 1 2 = 2 from rfl, show tnd 1 2 = false from rfl, eF (y - z) (by omega)]; simp [pk3, sb3]
  · rw [show rwD 2 (-1) = 5 from rfl, show tnd 2 (-1) = false from rfl, eF z (by omega)]; simp [pk3, sb3]
  · rw [show rwD 2 0 = 1 from rfl, show tnd 2 0 = true from rfl, eT (x - z) (by omega)]; simp [pk3, sb3]; congr 1; omega
  · rw [show rwD 2 1 = 2 from rfl, show tnd 2 1 = true from rfl, eT (y - z) (by omega)]; simp [pk3, sb3]; congr 1; omega
theorem cw_eq {F S : Nat → Int} {Hh : Nat → Int → Bool} {k : Nat} (hI : ∀ j, j < k → okI (F j) (S j)) {x y z : Int} (hx : -20 ≤ x ∧ x ≤ 20) (hy : -20 ≤ y ∧ y ≤ 20) (hz : -20 ≤ z ∧ z ≤ 20) : cwW F S Hh k x y z = wb (fun j => Hh j (pk3 (F j) x y z - sb3 (S j) x y z)) k := by
  apply Nat.eq_of_testBit_eq
  intro j
  unfold cwW
  rw [Nat.testBit_or, Nat.testBit_or, Nat.testBit_or, Nat.testBit_or, Nat.testBit_or, wb_bit, wb_bit, wb_bit, wb_bit, wb_bit, wb_bit, wb_bit]
  by_cases hj : j < k
  · have := cw_bit (hI j hj) hx hy hz (Hh j)
    rw [decide_eq_true hj]
    simp only [Bool.true_and]
    exact this
  · rw [decide_eq_false hj]; simp
end
