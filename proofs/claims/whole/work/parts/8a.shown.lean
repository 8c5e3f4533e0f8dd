/-! pure lemmas: what is shown -/
section
variable {t J L R : Nat → Int}
/-! brackets -/
def dlt (c : Int) : Int := if c = 40 then 1 else if c = 41 then -1 else 0
/-- the depth behind j characters after the bracket at a -/
def dpt (t : Nat → Int) (a : Nat) : Nat → Int
  | 0 => 1
  | j + 1 => dpt t a j + dlt (t (a + j + 1))
/-- the bracket at a is closed at e -/
def isM (t : Nat → Int) (a e : Nat) : Prop := a < e ∧ dpt t a (e - a) = 0 ∧ ∀ j, j < e - a → 0 < dpt t a j
theorem isM_fun {a e e' : Nat} (h : isM t a e) (h' : isM t a e') : e = e' := by
  rcases Nat.lt_trichotomy e e' with g | g | g
  · have := h'.2.2 (e - a) (by have := h.1; omega); rw [h.2.1] at this; omega
  · exact g
  · have := h.2.2 (e' - a) (by have := h'.1; omega); rw [h'.2.1] at this; omega
theorem dpt_add (t : Nat → Int) (a i : Nat) : ∀ j, dpt t a (i + j) = dpt t a i + (dpt t (a + i) j - 1)
  | 0 => by show dpt t a i = dpt t a i + (1 - 1); omega
  | j + 1 => by
    rw [← Nat.add_assoc, dpt, dpt_add t a i j, dpt, show a + (i + j) + 1 = a + i + j + 1 by omega]; omega
theorem isM_inj {a q e : Nat} (ha : t a = 40) (hq : t q = 40) (h : isM t a e) (h' : isM t q e) : q = a := by
  have key : ∀ a q, t a = 40 → isM t a e → isM t q e → ¬ q < a := by
    intro a q ha h h' g
    have h1 := dpt_add t q (a - q) (e - a)
    rw [show a - q + (e - a) = e - q by have := h.1; omega, h'.2.1, show q + (a - q) = a by omega, h.2.1] at h1
    obtain ⟨i, hi⟩ : ∃ i, a - q = i + 1 := ⟨a - q - 1, by omega⟩
    have h2 := h'.2.2 i (by have := h.1; omega)
    rw [hi, dpt, show q + i + 1 = a by omega, ha] at h1
    simp only [dlt, if_true] at h1
    omega
  rcases Nat.lt_trichotomy q a with g | g | g
  · exact absurd g (key a q ha h h')
  · exact g
  · exact absurd g (key q a hq h' h)
/-- within an operand the depth comes back, and never falls below where it was -/
theorem Seg_dp : ∀ {f v d a b c x : Nat}, Seg t J L R f v d a b c x → ∀ z i, z + i + 1 = a → dpt t z (i + (b - a)) = dpt t z i ∧ ∀ j, j ≤ b - a → dpt t z i ≤ dpt t z (i + j)
  | 0, _, _, _, _, _, _, h => h.elim
  | f + 1, v, d, a, b, c, x, h => by
    intro z i hz
    rcases h with ⟨h1, h⟩ | ⟨h1, e, l, y, h2, h3, h4, h5, h6, h7, h8⟩ | ⟨h1, h2, y, h3, h4, h5, h⟩ | ⟨h1, h2, h0, e, h3, h4, h⟩ | ⟨h1, h2, h3, h4, h5, h6, h7⟩
    · exact Seg_dp h z i hz
    · have b1 := Seg_b h6; have b2 := Seg_b h8
      obtain ⟨p1, p2⟩ := Seg_dp h6 z i hz
      obtain ⟨q1, q2⟩ := Seg_dp h8 z (i + (e - a) + 1) (by omega)
      have hs : dpt t z (i + (e - a) + 1) = dpt t z i := by
        rw [dpt, p1, show z + (i + (e - a)) + 1 = e by omega, h7]
        have : dlt (sgn v) = 0 := by rcases (show v = 0 ∨ v = 1 ∨ v = 2 by omega) with rfl | rfl | rfl <;> rfl
        omega
      refine ⟨?_, fun j hj => ?_⟩
      · rw [show i + (b - a) = i + (e - a) + 1 + (b - (e + 1)) by omega, q1, hs]
      · by_cases g : j ≤ e - a
        · exact p2 j g
        · have := q2 (j - (e - a) - 1) (by omega)
          rw [hs, show i + (e - a) + 1 + (j - (e - a) - 1) = i + j by omega] at this
          exact this
    · have b1 := Seg_b h
      obtain ⟨q1, q2⟩ := Seg_dp h z (i + 1) (by omega)
      have hs : dpt t z (i + 1) = dpt t z i := by
        rw [dpt, show z + i + 1 = a by omega, h2, show dlt 33 = 0 from rfl]; omega
      refine ⟨?_, fun j hj => ?_⟩
      · rw [show i + (b - a) = i + 1 + (b - (a + 1)) by omega, q1, hs]
      · cases j with
        | zero => exact Int.le_refl _
        | succ j =>
          have := q2 j (by omega)
          rw [hs, show i + 1 + j = i + (j + 1) by omega] at this
          exact this
    · have b1 := Seg_b h
      obtain ⟨q1, q2⟩ := Seg_dp h z (i + 1) (by omega)
      have hs : dpt t z (i + 1) = dpt t z i + 1 := by
        rw [dpt, show z + i + 1 = a by omega, h2]; rfl
      have he : dpt t z (i + (b - a)) = dpt t z i := by
        rw [show i + (b - a) = (i + 1 + (e - (a + 1))) + 1 by omega, dpt, q1, hs, show z + (i + 1 + (e - (a + 1))) + 1 = e by omega, h4, show dlt 41 = -1 from rfl]; omega
      refine ⟨he, fun j hj => ?_⟩
      cases j with
      | zero => exact Int.le_refl _
      | succ j =>
        by_cases g : j ≤ e - (a + 1)
        · have := q2 j g
          rw [hs, show i + 1 + j = i + (j + 1) by omega] at this
          omega
        · rw [show i + (j + 1) = i + (b - a) by omega, he]; exact Int.le_refl _
    · have hs : dpt t z (i + 1) = dpt t z i := by
        rw [dpt, show z + i + 1 = a by omega]
        have : dlt (t a) = 0 := by unfold dlt; rw [if_neg (by omega), if_neg (by omega)]
        omega
      refine ⟨by rw [show b - a = 1 by omega, hs], fun j hj => ?_⟩
      rcases (show j = 0 ∨ j = 1 by omega) with rfl | rfl
      · exact Int.le_refl _
      · rw [hs]; exact Int.le_refl _
theorem Seg_M {f d a e c x : Nat} (h : Seg t J L R f 0 d (a + 1) e c x) (he : t e = 41) : isM t a e := by
  have b1 := Seg_b h
  obtain ⟨q1, q2⟩ := Seg_dp h a 0 (by omega)
  rw [Nat.zero_add, dpt] at q1
  refine ⟨by omega, ?_, fun j hj => ?_⟩
  · rw [show e - a = (e - (a + 1)) + 1 by omega, dpt, q1, show a + (e - (a + 1)) + 1 = e by omega, he]; rfl
  · have := q2 j (by omega); rw [Nat.zero_add, dpt] at this; omega
/-- each bracket opens a part -/
theorem Seg_par : ∀ {f v d a b c x : Nat}, Seg t J L R f v d a b c x → ∀ p, a ≤ p → p < b → t p = 40 → ∃ f' d' e c' x', Seg t J L R f' 0 d' (p + 1) e c' x' ∧ t e = 41 ∧ e < b ∧ f' ≤ f
  | 0, _, _, _, _, _, _, h => h.elim
  | f + 1, v, d, a, b, c, x, h => by
    intro p hp1 hp2 hp
    rcases h with ⟨h1, h⟩ | ⟨h1, e, l, y, h2, h3, h4, h5, h6, h7, h8⟩ | ⟨h1, h2, y, h3, h4, h5, h⟩ | ⟨h1, h2, h0, e, h3, h4, h⟩ | ⟨h1, h2, h3, h4, h5, h6, h7⟩
    · obtain ⟨f', d', e', c', x', q1, q2, q3, q4⟩ := Seg_par h p hp1 hp2 hp
      exact ⟨f', d', e', c', x', q1, q2, q3, by omega⟩
    · have b1 := Seg_b h6; have b2 := Seg_b h8
      rcases Nat.lt_trichotomy p e with g | g | g
      · obtain ⟨f', d', e', c', x', q1, q2, q3, q4⟩ := Seg_par h6 p hp1 g hp
        exact ⟨f', d', e', c', x', q1, q2, by omega, by omega⟩
      · subst g
        rw [h7] at hp
        rcases (show v = 0 ∨ v = 1 ∨ v = 2 by omega) with rfl | rfl | rfl <;> exact absurd hp (by decide)
      · obtain ⟨f', d', e', c', x', q1, q2, q3, q4⟩ := Seg_par h8 p (by omega) hp2 hp
        exact ⟨f', d', e', c', x', q1, q2, by omega, by omega⟩
    · by_cases g : p = a
      · subst g; rw [h2] at hp; exact absurd hp (by decide)
      · obtain ⟨f', d', e', c', x', q1, q2, q3, q4⟩ := Seg_par h p (by omega) hp2 hp
        exact ⟨f', d', e', c', x', q1, q2, q3, by omega⟩
    · by_cases g : p = a
      · subst g; exact ⟨f, d + 1, e, c, x, h, h4, by omega, by omega⟩
      · by_cases g2 : p = e
        · subst g2; rw [h4] at hp; exact absurd hp (by decide)
        · obtain ⟨f', d', e', c', x', q1, q2, q3, q4⟩ := Seg_par h p (by omega) (by omega) hp
          exact ⟨f', d', e', c', x', q1, q2, by omega, by omega⟩
    · rw [show p = a by omega] at hp; omega
/-! the reference's joinOf -/
def lvC (c : Int) : Nat := if c = 124 then 3 else if c = 94 then 2 else if c = 38 then 1 else 0
def scn (t : Nat → Int) (mt : Nat → Nat) (e p best : Nat) : Nat :=
  if p < e then scn t mt e (if t p = 40 then max (mt p) p + 1 else p + 1) (max best (lvC (t p))) else best
termination_by e - p
decreasing_by split <;> omega
def jn (t : Nat → Int) (mt : Nat → Nat) : Nat → Nat → Nat
  | 0, _ => 0
  | F + 1, a => if scn t mt (mt a) (a + 1) 0 = 0 ∧ t (a + 1) = 40 then jn t mt F (a + 1) else scn t mt (mt a) (a + 1) 0
theorem scn_step {mt : Nat → Nat} {e p best : Nat} (h : p < e) : scn t mt e p best = scn t mt e (if t p = 40 then max (mt p) p + 1 else p + 1) (max best (lvC (t p))) := by
  rw [scn, if_pos h]
theorem scn_seg {mt : Nat → Nat} {N : Nat} (hm : ∀ p q, q < N → isM t p q → mt p = q) {z : Nat} (hz : z ≤ N) : ∀ {f v d a b c x : Nat}, Seg t J L R f v d a b c x → b ≤ z → ∃ lv, (∀ best, scn t mt z a best = scn t mt z b (max best lv)) ∧ lv + v ≤ 3 ∧ ((lv = 0 ∧ ∃ f', f' ≤ f ∧ Seg t J L R f' 3 d a b c x) ∨ (0 < lv ∧ (lv : Int) = 3 - J x))
  | 0, _, _, _, _, _, _, h => h.elim
  | f + 1, v, d, a, b, c, x, h => by
    intro hb
    have h' := h
    rcases h with ⟨h1, h⟩ | ⟨h1, e, l, y, h2, h3, h4, h5, h6, h7, h8⟩ | ⟨h1, h2, y, h3, h4, h5, h⟩ | ⟨h1, h2, h0, e, h3, h4, h⟩ | ⟨h1, h2, h3, h4, h5, h6, h7⟩
    · obtain ⟨lv, q1, q2, q3⟩ := scn_seg (z := z) hm hz h hb
      refine ⟨lv, q1, by omega, ?_⟩
      rcases q3 with ⟨q3, f', q4, q5⟩ | q3
      · exact Or.inl ⟨q3, f', by omega, q5⟩
      · exact Or.inr q3
    · have b1 := Seg_b h6; have b2 := Seg_b h8
      obtain ⟨l1, q1, q2, q3⟩ := scn_seg (z := z) hm hz h6 (by omega)
      obtain ⟨l2, r1, r2, r3⟩ := scn_seg (z := z) hm hz h8 hb
      have hv : lvC (sgn v) = 3 - v ∧ ¬ sgn v = 40 := by rcases (show v = 0 ∨ v = 1 ∨ v = 2 by omega) with rfl | rfl | rfl <;> exact ⟨rfl, by decide⟩
      refine ⟨3 - v, fun best => ?_, by omega, Or.inr ⟨by omega, by rw [h3]; omega⟩⟩
      rw [q1, scn_step (e := z) (p := e) (by omega), h7, if_neg hv.2, hv.1, r1]
      congr 1
      omega
    · subst h1
      have b1 := Seg_b h
      obtain ⟨lv, q1, q2, q3⟩ := scn_seg (z := z) hm hz h hb
      refine ⟨0, fun best => ?_, by omega, Or.inl ⟨rfl, f + 1, Nat.le_refl _, h'⟩⟩
      rw [scn_step (by omega), h2, if_neg (by decide), q1, show lvC 33 = 0 from rfl, show lv = 0 by omega, Nat.max_zero]
    · subst h1
      have b1 := Seg_b h
      refine ⟨0, fun best => ?_, by omega, Or.inl ⟨rfl, f + 1, Nat.le_refl _, h'⟩⟩
      rw [scn_step (by omega), h2, if_pos rfl, hm a e (by omega) (Seg_M h h4), show lvC 40 = 0 from rfl, show max e a + 1 = b by omega]
    · subst h1
      refine ⟨0, fun best => ?_, by omega, Or.inl ⟨rfl, f + 1, Nat.le_refl _, h'⟩⟩
      have : lvC (t a) = 0 := by unfold lvC; rw [if_neg (by omega), if_neg (by omega), if_neg (by omega)]
      rw [scn_step (by omega), if_neg (by omega), this, h2]
theorem jn_seg {mt : Nat → Nat} {N : Nat} (hm : ∀ p q, q < N → isM t p q → mt p = q) : ∀ {F f d a e c x : Nat}, Seg t J L R f 0 d (a + 1) e c x → t e = 41 → e < N → e ≤ a + F → jn t mt F a = (3 - J x).toNat
  | 0, f, d, a, e, c, x, h, _, _, hF => by have := Seg_b h; omega
  | F + 1, f, d, a, e, c, x, h, he, heN, hF => by
    have hma := hm a e heN (Seg_M h he)
    obtain ⟨lv, q1, q2, q3⟩ := scn_seg (z := e) hm (by omega) h (Nat.le_refl _)
    have hs : scn t mt (mt a) (a + 1) 0 = lv := by rw [hma, q1, scn, if_neg (Nat.lt_irrefl _), Nat.zero_max]
    rw [jn, hs]
    rcases q3 with ⟨rfl, f', -, h'⟩ | ⟨q3, q4⟩
    · cases f' with
      | zero => exact h'.elim
      | succ f' =>
        rcases h' with ⟨h1, _⟩ | ⟨h1, _⟩ | ⟨h1, h2, y, h3, h4, h5, h⟩ | ⟨h1, h2, h0, e', h3, h4, h⟩ | ⟨h1, h2, h3, h4, h5, h6, h7⟩
        · omega
        · omega
        · rw [if_neg (fun z => by rw [h2] at z; exact absurd z.2 (by decide)), h4]; rfl
        · rw [if_pos ⟨rfl, h2⟩]
          exact jn_seg hm h h4 (by omega) (by omega)
        · rw [if_neg (fun z => by have := z.2; omega), h4]; rfl
    · rw [if_neg (by omega)]; omega
/-! what is written -/
def rkB (c : Int) : Nat := if c = 33 then 3 else if c = 38 then 2 else if c = 94 then 1 else 0
def rkE (c : Int) : Nat := if c = 38 then 2 else if c = 94 then 1 else 0
def bef (t : Nat → Int) (p : Nat) : Int := if 0 < p then t (p - 1) else 0
def beh (t : Nat → Int) (n p : Nat) : Int := if p < n then t p else 0
/-- what the reference's isNeeded says of the bracket at p -/
def nd (t : Nat → Int) (n : Nat) (mt : Nat → Nat) (p : Nat) : Bool :=
  if bef t p = 33 then decide (0 < jn t mt 40 p) else if bef t p = 38 ∨ beh t n (mt p + 1) = 38 then decide (1 < jn t mt 40 p) else decide ((bef t p = 94 ∨ beh t n (mt p + 1) = 94) ∧ 2 < jn t mt 40 p)
def kpt (t : Nat → Int) (n : Nat) (mt : Nat → Nat) (p : Nat) : Bool :=
  if t p = 40 then nd t n mt p else if t p = 41 then anyB (fun q => decide (t q = 40) && nd t n mt q && decide (mt q = p)) p else true
/-- the characters kept, n of them from p on -/
def osg (t : Nat → Int) (kp : Nat → Bool) : Nat → Nat → List Int
  | 0, _ => []
  | m + 1, p => (if kp p then [t p] else []) ++ osg t kp m (p + 1)
theorem osg_add (t : Nat → Int) (kp : Nat → Bool) : ∀ (n m p : Nat), osg t kp (n + m) p = osg t kp n p ++ osg t kp m (p + n)
  | 0, m, p => by rw [Nat.zero_add]; rfl
  | n + 1, m, p => by rw [show n + 1 + m = (n + m) + 1 by omega, osg, osg_add t kp n m (p + 1), osg, List.append_assoc, show p + 1 + n = p + (n + 1) by omega]
theorem osg_len (t : Nat → Int) (kp : Nat → Bool) : ∀ (n p : Nat), (osg t kp n p).length ≤ n
  | 0, _ => Nat.le_refl _
  | n + 1, p => by
    have := osg_len t kp n (p + 1)
    rw [osg, List.length_append]
    split <;> simp <;> omega
/-- what the class writes of the node x, below a sign of level ja -/
def wr (J L R : Nat → Int) : Nat → Nat → Int → List Int
  | 0, _, _ => []
  | g + 1, x, ja => if J x < ja then 40 :: ((if J x = 4 then [65 + L x] else if J x = 3 then 33 :: wr J L R g (L x).toNat 3 else wr J L R g (L x).toNat (J x) ++ sgn (J x).toNat :: wr J L R g (R x).toNat (J x)) ++ [41])
    else (if J x = 4 then [65 + L x] else if J x = 3 then 33 :: wr J L R g (L x).toNat 3 else wr J L R g (L x).toNat (J x) ++ sgn (J x).toNat :: wr J L R g (R x).toNat (J x))
theorem wr_wrap {g x : Nat} {ja : Int} (h : J x < ja) (h0 : 0 ≤ J x) : wr J L R (g + 1) x ja = 40 :: (wr J L R (g + 1) x 0 ++ [41]) := by
  simp only [wr]; rw [if_pos h, if_neg (show ¬ J x < 0 by omega)]
theorem wr_not {g x : Nat} {ja : Int} (h : ¬ J x < ja) (h0 : 0 ≤ J x) : wr J L R (g + 1) x ja = wr J L R (g + 1) x 0 := by
  simp only [wr]; rw [if_neg h, if_neg (show ¬ J x < 0 by omega)]
theorem Seg_J : ∀ {f v d a b c x : Nat}, Seg t J L R f v d a b c x → 0 ≤ J x
  | 0, _, _, _, _, _, _, h => h.elim
  | f + 1, v, d, a, b, c, x, h => by
    rcases h with ⟨h1, h⟩ | ⟨h1, e, l, y, h2, h3, h4, h5, h6, h7, h8⟩ | ⟨h1, h2, y, h3, h4, h5, h⟩ | ⟨h1, h2, h0, e, h3, h4, h⟩ | ⟨h1, h2, h3, h4, h5, h6, h7⟩
    · exact Seg_J h
    · omega
    · omega
    · exact Seg_J h
    · omega
theorem rk_nd {n : Nat} {mt : Nat → Nat} {p e : Nat} {j : Int} (hm : mt p = e) (hj : jn t mt 40 p = (3 - j).toNat) (hj0 : 0 ≤ j) : nd t n mt p = decide (j < ((max (rkB (bef t p)) (rkE (beh t n (e + 1))) : Nat) : Int)) := by
  unfold nd
  rw [hj, hm]
  generalize bef t p = B
  generalize beh t n (e + 1) = E
  unfold rkB rkE
  by_cases b1 : B = 33
  · rw [if_pos b1, if_pos b1, decide_eq_decide]; (repeat' split) <;> omega
  · rw [if_neg b1, if_neg b1]
    by_cases b2 : B = 38
    · rw [if_pos (Or.inl b2), if_pos b2, decide_eq_decide]; (repeat' split) <;> omega
    · by_cases e2 : E = 38
      · rw [if_pos (Or.inr e2), if_neg b2, if_pos e2, decide_eq_decide]; split <;> omega
      · rw [if_neg (by rintro (z | z); exact b2 z; exact e2 z), if_neg b2, if_neg e2, decide_eq_decide]
        by_cases b3 : B = 94
        · rw [if_pos b3]; split <;> omega
        · rw [if_neg b3]; split <;> omega
/-- the reference keeps what the class writes -/
theorem show_seg {n : Nat} {mt : Nat → Nat} (hn : n ≤ 40) (hm : ∀ p q, q < n → isM t p q → mt p = q) (hG : ∀ q, q < n → t q = 40 → isM t q (mt q)) : ∀ {f v d a b c x : Nat}, Seg t J L R f v d a b c x → b ≤ n → rkB (bef t a) ≤ v → rkE (beh t n b) ≤ v → ∀ g, x < g + c →
    osg t (kpt t n mt) (b - a) a = wr J L R g x ((max (rkB (bef t a)) (rkE (beh t n b)) : Nat) : Int)
  | 0, _, _, _, _, _, _, h => h.elim
  | f + 1, v, d, a, b, c, x, h => by
    intro hb k1 k2 g hg
    rcases h with ⟨h1, h⟩ | ⟨h1, e, l, y, h2, h3, h4, h5, h6, h7, h8⟩ | ⟨h1, h2, y, h3, h4, h5, h⟩ | ⟨h1, h2, h0, e, h3, h4, h⟩ | ⟨h1, h2, h3, h4, h5, h6, h7⟩
    · exact show_seg hn hm hG h hb (by omega) (by omega) g hg
    · have b1 := Seg_b h6; have b2 := Seg_b h8
      have hv : rkB (sgn v) = v ∧ rkE (sgn v) = v ∧ ¬ sgn v = 40 ∧ ¬ sgn v = 41 := by rcases (show v = 0 ∨ v = 1 ∨ v = 2 by omega) with rfl | rfl | rfl <;> exact ⟨rfl, rfl, by decide, by decide⟩
      have be : beh t n e = sgn v := by unfold beh; rw [if_pos (by omega), h7]
      have bb : bef t (e + 1) = sgn v := by unfold bef; rw [if_pos (by omega), Nat.add_sub_cancel, h7]
      obtain ⟨g, rfl⟩ : ∃ g', g = g' + 1 := ⟨g - 1, by omega⟩
      have i1 := show_seg hn hm hG h6 (by omega) k1 (by rw [be, hv.2.1]; omega) g (by omega)
      have i2 := show_seg hn hm hG h8 hb (by rw [bb, hv.1]; omega) (by omega) g (by omega)
      rw [be, hv.2.1, show max (rkB (bef t a)) v = v by omega] at i1
      rw [bb, hv.1, show max v (rkE (beh t n b)) = v by omega] at i2
      have hk : kpt t n mt e = true := by unfold kpt; rw [h7, if_neg hv.2.2.1, if_neg hv.2.2.2]
      rw [show b - a = (e - a) + (1 + (b - (e + 1))) by omega, osg_add, osg_add, i1, show a + (e - a) = e by omega, i2, osg, osg, hk, if_pos rfl, h7]
      rw [wr, if_neg (by rw [h3]; omega), if_neg (by rw [h3]; omega), if_neg (by rw [h3]; omega), h3, h4, h5]
      simp
    · subst h1
      have b1 := Seg_b h
      obtain ⟨g, rfl⟩ : ∃ g', g = g' + 1 := ⟨g - 1, by omega⟩
      have bb : bef t (a + 1) = 33 := by unfold bef; rw [if_pos (by omega), Nat.add_sub_cancel, h2]
      have i := show_seg hn hm hG h hb (by rw [bb]; exact Nat.le_refl _) k2 g (by omega)
      rw [bb, show max (rkB 33) (rkE (beh t n b)) = 3 by show max 3 _ = 3; omega] at i
      have hk : kpt t n mt a = true := by unfold kpt; rw [h2, if_neg (by decide), if_neg (by decide)]
      rw [show b - a = 1 + (b - (a + 1)) by omega, osg_add, i, osg, osg, hk, if_pos rfl, h2]
      rw [wr, if_neg (by rw [h4]; omega), if_neg (by rw [h4]; decide), if_pos h4, h5]
      rfl
    · subst h1
      have b1 := Seg_b h
      have hM := Seg_M h h4
      have hma := hm a e (by omega) hM
      have hj := jn_seg hm (F := 40) h h4 (by omega) (by omega)
      have hJ := Seg_J h
      obtain ⟨g, rfl⟩ : ∃ g', g = g' + 1 := ⟨g - 1, by omega⟩
      have bb : bef t (a + 1) = 40 := by unfold bef; rw [if_pos (by omega), Nat.add_sub_cancel, h2]
      have be : beh t n e = 41 := by unfold beh; rw [if_pos (by omega), h4]
      have i := show_seg hn hm hG h (by omega) (by rw [bb]; exact Nat.le_refl _) (by rw [be]; exact Nat.le_refl _) (g + 1) hg
      rw [bb, be, show ((max (rkB 40) (rkE 41) : Nat) : Int) = 0 from rfl] at i
      have hnd := rk_nd (n := n) hma hj hJ
      rw [show e + 1 = b from h3.symm] at hnd
      have ka : kpt t n mt a = nd t n mt a := by unfold kpt; rw [if_pos h2]
      have ke : kpt t n mt e = nd t n mt a := by
        unfold kpt
        rw [if_neg (by rw [h4]; decide), if_pos h4, Bool.eq_iff_iff, anyB_iff]
        constructor
        · rintro ⟨q, q1, q2⟩
          simp only [Bool.and_eq_true, decide_eq_true_iff] at q2
          have hq := hG q (by omega) q2.1.1
          rw [q2.2] at hq
          rw [← isM_inj h2 q2.1.1 hM hq]; exact q2.1.2
        · intro hnd'
          exact ⟨a, by omega, by rw [decide_eq_true h2, hnd', decide_eq_true hma]; rfl⟩
      rw [show b - a = 1 + ((e - (a + 1)) + 1) by omega, osg_add, osg_add, i, osg, osg, osg, osg, show a + 1 + (e - (a + 1)) = e by omega, ka, ke, h2, h4]
      by_cases z : J x < ((max (rkB (bef t a)) (rkE (beh t n b)) : Nat) : Int)
      · rw [hnd, decide_eq_true z, wr_wrap z hJ]; simp
      · rw [hnd, decide_eq_false z, wr_not z hJ]; simp
    · subst h1 h3
      obtain ⟨g, rfl⟩ : ∃ g', g = g' + 1 := ⟨g - 1, by omega⟩
      have hk : kpt t n mt a = true := by unfold kpt; rw [if_neg (by omega), if_neg (by omega)]
      rw [show b - a = 1 by omega, osg, osg, hk, if_pos rfl, wr, if_neg (by rw [h4]; omega), if_pos h4, h7]
      simp
      omega
/-- the bracket's end, by search -/
def mtF (t : Nat → Int) (n p : Nat) : Nat := (sF (fun e => decide (dpt t p (e - p) = 0)) n (p + 1)).getD 0
theorem mtF_M {n p q : Nat} (h : isM t p q) (hq : q ≤ p + n) : mtF t n p = q := by
  unfold mtF
  have e : sF (fun e => decide (dpt t p (e - p) = 0)) n (p + 1) = some q := by
    cases hs : sF (fun e => decide (dpt t p (e - p) = 0)) n (p + 1) with
    | none =>
      have := (sF_no _ _).mp hs q (by have := h.1; omega) (by omega)
      rw [decide_eq_true h.2.1] at this; exact absurd this (by decide)
    | some r =>
      obtain ⟨r1, r2, r3, r4⟩ := sF_some hs
      rcases Nat.lt_trichotomy r q with g | g | g
      · have := h.2.2 (r - p) (by omega); rw [of_decide_eq_true r3] at this; omega
      · rw [g]
      · have := r4 q (by have := h.1; omega) g; rw [decide_eq_true h.2.1] at this; exact absurd this (by decide)
  rw [e]; rfl
end
