/-! pure lemmas: searches that agree -/
section
theorem sF_ext {f g : Nat → Bool} : ∀ (m w : Nat), (∀ u, w ≤ u → u < w + m → f u = g u) → sF f m w = sF g m w
  | 0, _, _ => rfl
  | m + 1, w, h => by
    rw [sF, sF, h w (Nat.le_refl _) (by omega), sF_ext m (w + 1) (fun u h1 h2 => h u (by omega) (by omega))]
theorem oF_ext {f g : Nat → Nat → Bool} {N : Nat} (h : ∀ v w, v < w → w < N → f v w = g v w) : ∀ (m v : Nat), oF f N m v = oF g N m v
  | 0, _ => rfl
  | m + 1, v => by
    rw [oF, oF, sF_ext (f := f v) (g := g v) (N - (v + 1)) (v + 1) (fun u h1 h2 => h v u (by omega) (by omega)), oF_ext h m (v + 1)]
theorem pairS_ext {f g : Nat → Nat → Bool} {N : Nat} (h : ∀ v w, v < w → w < N → f v w = g v w) : pairS f N = pairS g N := oF_ext h N 0
theorem sF_no {f : Nat → Bool} : ∀ (m w : Nat), sF f m w = none ↔ ∀ u, w ≤ u → u < w + m → f u = false
  | 0, w => ⟨fun _ u h1 h2 => absurd h2 (by omega), fun _ => rfl⟩
  | m + 1, w => by
    rw [sF]
    cases hf : f w with
    | true =>
      rw [if_pos rfl]
      exact ⟨fun h => (by cases h), fun h => absurd (h w (Nat.le_refl _) (by omega)) (by rw [hf]; decide)⟩
    | false =>
      rw [if_neg (by decide), sF_no m (w + 1)]
      constructor
      · intro h u h1 h2
        by_cases e : u = w
        · rw [e, hf]
        · exact h u (by omega) (by omega)
      · intro h u h1 h2
        exact h u (by omega) (by omega)
theorem oF_no {f : Nat → Nat → Bool} {N : Nat} : ∀ (m v : Nat), oF f N m v = -1 ↔ ∀ a, v ≤ a → a < v + m → ∀ w, a < w → w < N → f a w = false
  | 0, v => ⟨fun _ a h1 h2 => absurd h2 (by omega), fun _ => rfl⟩
  | m + 1, v => by
    rw [oF]
    cases hs : sF (f v) (N - (v + 1)) (v + 1) with
    | some w =>
      refine ⟨fun h => absurd h (by show ¬ ((100 * v + w : Nat) : Int) = -1; omega), fun h => ?_⟩
      have hn : sF (f v) (N - (v + 1)) (v + 1) = none := (sF_no _ _).mpr (fun u h1 h2 => h v (Nat.le_refl _) (by omega) u (by omega) (by omega))
      rw [hs] at hn; cases hn
    | none =>
      have hn := (sF_no _ _).mp hs
      show oF f N m (v + 1) = -1 ↔ _
      rw [oF_no m (v + 1)]
      constructor
      · intro h a h1 h2 w h3 h4
        by_cases e : a = v
        · rw [e]; rw [e] at h3; exact hn w (by omega) (by omega)
        · exact h a (by omega) (by omega) w h3 h4
      · intro h a h1 h2
        exact h a (by omega) (by omega)
/-- no pair: no two words below N are one -/
theorem pairS_no {f : Nat → Nat → Bool} {N : Nat} : pairS f N = -1 ↔ ∀ v w, v < w → w < N → f v w = false := by
  unfold pairS
  rw [oF_no]
  exact ⟨fun h v w h1 h2 => h v (Nat.zero_le _) (by omega) w h1 h2, fun h a _ _ w h1 h2 => h a w h1 h2⟩
theorem anyB_iff {f : Nat → Bool} : ∀ n, anyB f n = true ↔ ∃ j, j < n ∧ f j = true
  | 0 => ⟨fun h => absurd (show false = true from h) (by decide), fun ⟨j, h, _⟩ => absurd h (by omega)⟩
  | n + 1 => by
    rw [anyB, Bool.or_eq_true, anyB_iff n]
    constructor
    · rintro (⟨j, h1, h2⟩ | h)
      · exact ⟨j, by omega, h2⟩
      · exact ⟨n, by omega, h⟩
    · rintro ⟨j, h1, h2⟩
      by_cases e : j = n
      · exact Or.inr (e ▸ h2)
      · exact Or.inl ⟨j, by omega, h2⟩
theorem allB_iff {f : Nat → Bool} : ∀ n, allB f n = true ↔ ∀ j, j < n → f j = true
  | 0 => ⟨fun _ j h => absurd h (by omega), fun _ => rfl⟩
  | n + 1 => by
    rw [allB, Bool.and_eq_true, allB_iff n]
    constructor
    · intro h j hj
      by_cases e : j = n
      · exact e ▸ h.2
      · exact h.1 j (by omega)
    · intro h
      exact ⟨fun j hj => h j (by omega), h n (by omega)⟩
end
