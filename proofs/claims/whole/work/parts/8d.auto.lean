/-! pure lemmas: the reading of the reference -/
section
/-! the reference's reading: wanted, depth, seen -/
abbrev aU : Type := Bool × Nat × Nat
abbrev isLt (md : Nat) (c : Int) : Prop := 65 ≤ c ∧ c < 65 + (md : Int)
def more (md : Nat) (c : Int) (s : Nat) : Nat := if isLt md c then s ||| 2 ^ (c - 65).toNat else s
def aus (md : Nat) (c : Int) (u : aU) : Option aU :=
  if u.1 = true then (if c = 40 ∧ u.2.1 < 6 then some (true, u.2.1 + 1, u.2.2) else if isLt md c ∧ cnt 31 (more md c u.2.2) ≤ 6 then some (false, u.2.1, more md c u.2.2) else if c = 33 then some (true, u.2.1, u.2.2) else none)
  else (if c = 41 ∧ 1 < u.2.1 then some (false, u.2.1 - 1, u.2.2) else if c = 38 ∨ c = 94 ∨ c = 124 then some (true, u.2.1, u.2.2) else none)
def au (t : Nat → Int) (md : Nat) : Nat → Option aU
  | 0 => some (true, 1, 0)
  | p + 1 => (au t md p).bind (aus md (t p))
theorem aus_open {md : Nat} {c : Int} {d s : Nat} (h : c = 40) (h6 : d < 6) : aus md c (true, d, s) = some (true, d + 1, s) := by
  unfold aus; rw [if_pos (show (true, d, s).1 = true from rfl), if_pos (show c = 40 ∧ (true, d, s).2.1 < 6 from ⟨h, h6⟩)]
theorem aus_let {md : Nat} {c : Int} {d s : Nat} (h : ¬ (c = 40 ∧ d < 6)) (hl : isLt md c) (hc : cnt 31 (more md c s) ≤ 6) : aus md c (true, d, s) = some (false, d, more md c s) := by
  unfold aus; rw [if_pos (show (true, d, s).1 = true from rfl), if_neg (show ¬ (c = 40 ∧ (true, d, s).2.1 < 6) from h), if_pos (show isLt md c ∧ cnt 31 (more md c (true, d, s).2.2) ≤ 6 from ⟨hl, hc⟩)]
theorem aus_not {md : Nat} {c : Int} {d s : Nat} (h : ¬ (c = 40 ∧ d < 6)) (hl : ¬ (isLt md c ∧ cnt 31 (more md c s) ≤ 6)) (h33 : c = 33) : aus md c (true, d, s) = some (true, d, s) := by
  unfold aus; rw [if_pos (show (true, d, s).1 = true from rfl), if_neg (show ¬ (c = 40 ∧ (true, d, s).2.1 < 6) from h), if_neg (show ¬ (isLt md c ∧ cnt 31 (more md c (true, d, s).2.2) ≤ 6) from hl), if_pos h33]
theorem aus_bad1 {md : Nat} {c : Int} {d s : Nat} (h : ¬ (c = 40 ∧ d < 6)) (hl : ¬ (isLt md c ∧ cnt 31 (more md c s) ≤ 6)) (h33 : ¬ c = 33) : aus md c (true, d, s) = none := by
  unfold aus; rw [if_pos (show (true, d, s).1 = true from rfl), if_neg (show ¬ (c = 40 ∧ (true, d, s).2.1 < 6) from h), if_neg (show ¬ (isLt md c ∧ cnt 31 (more md c (true, d, s).2.2) ≤ 6) from hl), if_neg h33]
theorem aus_close {md : Nat} {c : Int} {d s : Nat} (h : c = 41) (h1 : 1 < d) : aus md c (false, d, s) = some (false, d - 1, s) := by
  unfold aus; rw [if_neg (show ¬ (false, d, s).1 = true from Bool.false_ne_true), if_pos (show c = 41 ∧ 1 < (false, d, s).2.1 from ⟨h, h1⟩)]
theorem aus_sign {md : Nat} {c : Int} {d s : Nat} (h : ¬ (c = 41 ∧ 1 < d)) (h1 : c = 38 ∨ c = 94 ∨ c = 124) : aus md c (false, d, s) = some (true, d, s) := by
  unfold aus; rw [if_neg (show ¬ (false, d, s).1 = true from Bool.false_ne_true), if_neg (show ¬ (c = 41 ∧ 1 < (false, d, s).2.1) from h), if_pos h1]
theorem aus_bad0 {md : Nat} {c : Int} {d s : Nat} (h : ¬ (c = 41 ∧ 1 < d)) (h1 : ¬ (c = 38 ∨ c = 94 ∨ c = 124)) : aus md c (false, d, s) = none := by
  unfold aus; rw [if_neg (show ¬ (false, d, s).1 = true from Bool.false_ne_true), if_neg (show ¬ (c = 41 ∧ 1 < (false, d, s).2.1) from h), if_neg h1]
/-- the fault is at p -/
def Flt (t : Nat → Int) (md n p : Nat) : Prop := ∃ u, au t md p = some u ∧ ((p < n ∧ aus md (t p) u = none) ∨ (p = n ∧ (u.1 = true ∨ 1 < u.2.1)))
theorem au_step {t : Nat → Int} {md p : Nat} {u : aU} (h : au t md p = some u) : au t md (p + 1) = aus md (t p) u := by rw [au, h]; rfl
theorem au_none {t : Nat → Int} {md p : Nat} (h : au t md p = none) : ∀ q, p ≤ q → au t md q = none
  | 0, hq => by rw [show 0 = p by omega]; exact h
  | q + 1, hq => by
    by_cases e : p = q + 1
    · rw [← e]; exact h
    · rw [au, au_none h q (by omega)]; rfl
theorem Flt_le {t : Nat → Int} {md n p : Nat} (h : Flt t md n p) : p ≤ n := by obtain ⟨u, -, h | h⟩ := h <;> omega
theorem Flt_one {t : Nat → Int} {md n p q : Nat} (h : Flt t md n p) (h' : Flt t md n q) : p = q := by
  have key : ∀ p q, Flt t md n p → Flt t md n q → ¬ p < q := by
    intro p q h h' g
    obtain ⟨u, h1, h2⟩ := h
    have hq := Flt_le h'
    obtain ⟨v, h3, -⟩ := h'
    rcases h2 with ⟨-, h2⟩ | ⟨h2, -⟩
    · have := au_none (by rw [au_step h1, h2]) q g
      rw [this] at h3; cases h3
    · omega
  rcases Nat.lt_trichotomy p q with g | g | g
  · exact absurd g (key p q h h')
  · exact g
  · exact absurd g (key q p h' h)
theorem Flt_no {t : Nat → Int} {md n p s : Nat} (h : Flt t md n p) (h' : au t md n = some (false, 1, s)) : False := by
  obtain ⟨u, h1, ⟨h2, h3⟩ | ⟨h2, h3⟩⟩ := h
  · have := au_none (by rw [au_step h1, h3]) n h2
    rw [this] at h'; cases h'
  · rw [h2, h'] at h1; cases h1; rcases h3 with z | z
    · cases z
    · exact absurd z (Nat.lt_irrefl 1)
/-- depth and set stay small -/
theorem au_in {t : Nat → Int} {md : Nat} (hmd : md ≤ 8) : ∀ {p : Nat} {u : aU}, au t md p = some u → 1 ≤ u.2.1 ∧ u.2.1 ≤ 6 ∧ u.2.2 < 256 ∧ cnt 31 u.2.2 ≤ 6
  | 0, u, h => by cases h; exact ⟨by decide, by decide, by decide, by decide⟩
  | p + 1, u, h => by
    rw [au] at h
    cases hp : au t md p with
    | none => rw [hp] at h; cases h
    | some v =>
      rw [hp] at h
      obtain ⟨i1, i2, i3, i4⟩ := au_in hmd hp
      have h : aus md (t p) v = some u := h
      unfold aus at h
      split at h
      · split at h
        · rename_i g; cases h; exact ⟨by show 1 ≤ v.2.1 + 1; omega, by show v.2.1 + 1 ≤ 6; omega, i3, i4⟩
        · split at h
          · rename_i g; cases h
            refine ⟨i1, i2, ?_, g.2⟩
            show more md (t p) v.2.2 < 256
            unfold more
            rw [if_pos g.1]
            have g1 := g.1
            unfold isLt at g1
            have h2 : 2 ^ (t p - 65).toNat < 2 ^ 8 := Nat.pow_lt_pow_right (by omega) (by omega)
            exact Nat.or_lt_two_pow (n := 8) i3 h2
          · split at h
            · cases h; exact ⟨i1, i2, i3, i4⟩
            · cases h
      · split at h
        · rename_i g; cases h; exact ⟨by show 1 ≤ v.2.1 - 1; omega, by show v.2.1 - 1 ≤ 6; omega, i3, i4⟩
        · split at h
          · cases h; exact ⟨i1, i2, i3, i4⟩
          · cases h
end
