/-! pure lemmas: the fewest words -/
section
/-- whether with m more words from a on, out of F, S suffices -/
def enB (F : BitVec 64) (N : Nat) (sh : BitVec 64 → Bool) : Nat → BitVec 64 → Nat → Bool
  | 0, S, _ => sh S
  | m + 1, S, a => (sF (fun w => F.getLsbD w && enB F N sh m (S ||| ((1 : BitVec 64) <<< w)) (w + 1)) (N - a) a).isSome
/-- the least of the counts of the sets below s that suffice -/
def bst (E : Nat → Bool) : Nat → Nat
  | 0 => 100
  | s + 1 => if cnt 31 s < bst E s ∧ E s = true then cnt 31 s else bst E s
def fw (F : BitVec 64) (N : Nat) (sh : BitVec 64 → Bool) : Nat := (sF (fun n => enB F N sh n 0 0) (N - 0) 0).getD N
theorem sF_some {g : Nat → Bool} : ∀ {m a w : Nat}, sF g m a = some w → a ≤ w ∧ w < a + m ∧ g w = true ∧ ∀ u, a ≤ u → u < w → g u = false
  | 0, _, _, h => by cases h
  | m + 1, a, w, h => by
    rw [sF] at h
    by_cases hg : g a = true
    · rw [if_pos hg] at h; cases h; exact ⟨Nat.le_refl _, by omega, hg, fun u h1 h2 => absurd h1 (by omega)⟩
    · rw [if_neg hg] at h
      obtain ⟨x, y, z, t⟩ := sF_some h
      refine ⟨by omega, by omega, z, fun u h1 h2 => ?_⟩
      by_cases e : u = a
      · rw [e]; exact Bool.eq_false_iff.mpr hg
      · exact t u (by omega) h2
theorem sF_is {g : Nat → Bool} {m a : Nat} : (sF g m a).isSome = true ↔ ∃ w, a ≤ w ∧ w < a + m ∧ g w = true := by
  cases h : sF g m a with
  | some w => exact ⟨fun _ => ⟨w, (sF_some h).1, (sF_some h).2.1, (sF_some h).2.2.1⟩, fun _ => rfl⟩
  | none =>
    refine ⟨fun z => absurd z (by decide), fun ⟨w, h1, h2, h3⟩ => ?_⟩
    rw [(sF_no m a).mp h w h1 h2] at h3
    exact absurd h3 (by decide)
theorem cn_ins {f : Nat → Bool} {w : Nat} (hf : f w = false) : ∀ N, cn (fun u => f u || decide (u = w)) N = cn f N + (if w < N then 1 else 0)
  | 0 => rfl
  | N + 1 => by
    rw [cn, cn, cn_ins hf N]
    by_cases e : N = w
    · subst e; rw [hf, if_neg (Nat.lt_irrefl _), if_pos (Nat.lt_succ_self _)]; simp
    · by_cases g : w < N
      · rw [if_pos g, if_pos (show w < N + 1 by omega)]; simp only [e, decide_false, Bool.or_false]; omega
      · rw [if_neg g, if_neg (show ¬ w < N + 1 by omega)]; simp only [e, decide_false, Bool.or_false]; omega
theorem cn_zero {f : Nat → Bool} : ∀ N, cn f N = 0 → ∀ u, u < N → f u = false
  | 0, _, u, hu => absurd hu (by omega)
  | N + 1, h, u, hu => by
    rw [cn] at h
    by_cases e : u = N
    · subst e; cases hf : f u with
      | false => rfl
      | true => rw [hf, if_pos rfl] at h; omega
    · exact cn_zero N (by omega) u (by omega)
theorem cn_pos {f : Nat → Bool} : ∀ N, 0 < cn f N → ∃ w, w < N ∧ f w = true ∧ ∀ u, u < w → f u = false
  | 0, h => by rw [cn] at h; omega
  | N + 1, h => by
    by_cases g : 0 < cn f N
    · obtain ⟨w, a, b, c⟩ := cn_pos N g
      exact ⟨w, by omega, b, c⟩
    · rw [cn] at h
      refine ⟨N, by omega, ?_, cn_zero N (by omega)⟩
      cases hf : f N with
      | true => rfl
      | false => rw [hf] at h; simp at h; omega
theorem cn_mono {f g : Nat → Bool} (h : ∀ u, f u = true → g u = true) : ∀ N, cn f N ≤ cn g N
  | 0 => Nat.le_refl _
  | N + 1 => by
    have ih := cn_mono h N
    rw [cn, cn]
    cases hf : f N with
    | true => rw [h N hf]; omega
    | false => rw [if_neg (by decide)]; split <;> omega
theorem cn_true : ∀ N, cn (fun _ => true) N = N
  | 0 => rfl
  | N + 1 => by rw [cn, cn_true N]; simp
theorem or_bit {S : BitVec 64} {w u : Nat} (hw : w < 64) (hu : u < 64) : (S ||| ((1 : BitVec 64) <<< w)).getLsbD u = (S.getLsbD u || decide (u = w)) := by
  rw [BitVec.getLsbD_or, one_bit hu hw, show decide (w = u) = decide (u = w) from by rw [decide_eq_decide]; omega]
variable {F : BitVec 64} {N : Nat} {sh : BitVec 64 → Bool} {Gd : (Nat → Bool) → Prop}
theorem en_iff (hN : N ≤ 64) (hc : ∀ T T' : Nat → Bool, (∀ w, w < N → T w = T' w) → Gd T → Gd T') (hs : ∀ S, sh S = true ↔ Gd S.getLsbD) : ∀ m S a, enB F N sh m S a = true ↔ ∃ T : Nat → Bool, (∀ w, T w = true → a ≤ w ∧ w < N ∧ F.getLsbD w = true) ∧ cn T N = m ∧ Gd (fun w => S.getLsbD w || T w)
  | 0, S, a => by
    rw [enB, hs]
    constructor
    · intro h
      refine ⟨fun _ => false, fun w hw => (by cases hw), ?_, hc _ _ (fun w _ => by simp) h⟩
      rw [cn_more (n := 0) N (by omega) (fun _ _ _ => rfl)]; rfl
    · rintro ⟨T, h1, h2, h3⟩
      refine hc _ _ (fun w hw => ?_) h3
      rw [cn_zero N h2 w hw, Bool.or_false]
  | m + 1, S, a => by
    rw [enB, sF_is]
    constructor
    · rintro ⟨w, h1, h2, h3⟩
      rw [Bool.and_eq_true, en_iff hN hc hs m] at h3
      obtain ⟨hF, T, t1, t2, t3⟩ := h3
      have tw : T w = false := by
        cases hx : T w with
        | false => rfl
        | true => have := (t1 w hx).1; omega
      refine ⟨fun u => T u || decide (u = w), fun u hu => ?_, ?_, hc _ _ (fun u hu => ?_) t3⟩
      · rw [Bool.or_eq_true, decide_eq_true_iff] at hu
        rcases hu with hu | hu
        · obtain ⟨x, y, z⟩ := t1 u hu; exact ⟨by omega, y, z⟩
        · subst hu; exact ⟨h1, by omega, hF⟩
      · rw [cn_ins tw, t2, if_pos (by omega)]
      · show (_ || _) = (_ || (_ || _))
        rw [or_bit (by omega) (by omega)]
        cases S.getLsbD u <;> cases T u <;> cases decide (u = w) <;> rfl
    · rintro ⟨T, t1, t2, t3⟩
      obtain ⟨w, w1, w2, w3⟩ := cn_pos (f := T) N (by omega)
      obtain ⟨x, y, z⟩ := t1 w w2
      refine ⟨w, x, by omega, ?_⟩
      rw [Bool.and_eq_true, en_iff hN hc hs m]
      refine ⟨z, fun u => T u && !decide (u = w), fun u hu => ?_, ?_, hc _ _ (fun u hu => ?_) t3⟩
      · rw [Bool.and_eq_true] at hu
        obtain ⟨u1, u2⟩ := hu
        obtain ⟨p, q, r⟩ := t1 u u1
        have hne : u ≠ w := by simpa using u2
        refine ⟨?_, q, r⟩
        by_cases g : u < w
        · rw [w3 u g] at u1; exact absurd u1 (by decide)
        · omega
      · have e := cn_ins (f := fun u => T u && !decide (u = w)) (w := w) (by simp) N
        rw [if_pos w1] at e
        have e2 : (fun u => (T u && !decide (u = w)) || decide (u = w)) = T := funext fun u => by
          by_cases g : u = w
          · subst g; simp [w2]
          · simp [g]
        rw [e2] at e
        omega
      · rw [or_bit (by omega) (by omega)]
        by_cases g : u = w
        · subst g; simp [w2]
        · simp [g]
theorem bst_le {E : Nat → Bool} : ∀ s s', s' < s → E s' = true → bst E s ≤ cnt 31 s'
  | 0, _, h, _ => absurd h (by omega)
  | s + 1, s', h, he => by
    rw [bst]
    by_cases e : s' = s
    · subst e; split
      · exact Nat.le_refl _
      · rename_i hx; rcases Nat.lt_or_ge (cnt 31 s') (bst E s') with g | g
        · exact absurd ⟨g, he⟩ hx
        · exact g
    · have := bst_le s s' (by omega) he
      split <;> omega
theorem bst_or {E : Nat → Bool} : ∀ s, bst E s = 100 ∨ ∃ s', s' < s ∧ E s' = true ∧ bst E s = cnt 31 s'
  | 0 => Or.inl rfl
  | s + 1 => by
    rw [bst]
    split
    · rename_i h; exact Or.inr ⟨s, by omega, h.2, rfl⟩
    · rcases bst_or (E := E) s with h | ⟨s', a, b, c⟩
      · exact Or.inl h
      · exact Or.inr ⟨s', by omega, b, c⟩
theorem cnt_N {s : Nat} (hN : N ≤ 31) (hs : s < 2 ^ N) : cnt 31 s = cn s.testBit N := by
  rw [cnt_cn]
  exact cn_more 31 hN (fun j h1 _ => Nat.testBit_lt_two_pow (Nat.lt_of_lt_of_le hs (Nat.pow_le_pow_right (by omega) h1)))
theorem least_abs {E : Nat → Bool} (hN : N ≤ 16) (hc : ∀ T T' : Nat → Bool, (∀ w, w < N → T w = T' w) → Gd T → Gd T') (hs : ∀ S, sh S = true ↔ Gd S.getLsbD) (hE : ∀ s, s < 2 ^ N → (E s = true ↔ Gd s.testBit))
    (hF : ∀ T, Gd T → Gd (fun w => T w && F.getLsbD w)) (hfull : Gd (fun _ => true)) : bst E (2 ^ N) = fw F N sh := by
  have en := fun m => en_iff (F := F) (by omega) hc hs m 0 0
  have z0 : ∀ w, (0 : BitVec 64).getLsbD w = false := fun w => BitVec.getLsbD_zero
  have up : ∀ T : Nat → Bool, Gd T → bst E (2 ^ N) ≤ cn T N := fun T hT => by
    have h1 : wb T N < 2 ^ N := wb_lt T N
    have h2 : ∀ w, w < N → (wb T N).testBit w = T w := fun w hw => by rw [wb_bit, decide_eq_true hw, Bool.true_and]
    have := bst_le (E := E) (2 ^ N) _ h1 ((hE _ h1).mpr (hc _ _ (fun w hw => (h2 w hw).symm) hT))
    rw [cnt_N (by omega) h1, cn_ext N h2] at this
    exact this
  have dn : ∀ n, enB F N sh n 0 0 = true → bst E (2 ^ N) ≤ n := fun n hn => by
    obtain ⟨T, -, t2, t3⟩ := (en n).mp hn
    have := up T (hc _ _ (fun w _ => by rw [z0, Bool.false_or]) t3)
    omega
  have bN : bst E (2 ^ N) ≤ N := by have := up _ hfull; rw [cn_true] at this; exact this
  obtain ⟨b', hb1, hb2⟩ : ∃ b', b' ≤ bst E (2 ^ N) ∧ enB F N sh b' 0 0 = true := by
    rcases bst_or (E := E) (2 ^ N) with h | ⟨s, s1, s2, s3⟩
    · omega
    · have hG := hF _ ((hE s s1).mp s2)
      refine ⟨cn (fun w => (s.testBit w && F.getLsbD w) && decide (w < N)) N, ?_, (en _).mpr ⟨fun w => (s.testBit w && F.getLsbD w) && decide (w < N), fun w hw => ?_, rfl, hc _ _ (fun w hw => ?_) hG⟩⟩
      · rw [s3, cnt_N (by omega) s1]
        exact cn_mono (fun u hu => by simp only [Bool.and_eq_true] at hu; exact hu.1.1) N
      · simp only [Bool.and_eq_true, decide_eq_true_iff] at hw; exact ⟨by omega, hw.2, hw.1.2⟩
      · show _ = (_ || (_ && _))
        rw [z0, Bool.false_or, decide_eq_true hw, Bool.and_true]
  unfold fw
  cases h : sF (fun n => enB F N sh n 0 0) (N - 0) 0 with
  | some n =>
    obtain ⟨h1, h2, h3, h4⟩ := sF_some h
    have := dn n h3
    show bst E (2 ^ N) = n
    by_cases g : b' < n
    · have := h4 b' (by omega) g; rw [hb2] at this; exact absurd this (by decide)
    · omega
  | none =>
    show bst E (2 ^ N) = N
    by_cases g : b' < N
    · have := (sF_no _ _).mp h b' (by omega) (by omega); rw [hb2] at this; exact absurd this (by decide)
    · omega
end
