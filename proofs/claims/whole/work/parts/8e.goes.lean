/-! pure lemmas: reading and machine -/
section
theorem au_pre {t : Nat → Int} {md n : Nat} {v : aU} (h : au t md n = some v) {p : Nat} (hp : p ≤ n) : ∃ u, au t md p = some u := by
  cases hu : au t md p with
  | none => rw [au_none hu n hp] at h; cases h
  | some u => exact ⟨u, rfl⟩
theorem aus_40 {md : Nat} {c : Int} {u v : aU} (h : aus md c u = some v) (hmd : md ≤ 8) (hc : c = 40) : u.2.1 < 6 ∧ v.2.1 = u.2.1 + 1 ∧ v.2.2 = u.2.2 := by
  obtain ⟨w, d, s⟩ := u
  subst hc
  cases w with
  | true =>
    by_cases g : d < 6
    · rw [aus_open rfl g] at h; cases h; exact ⟨g, rfl, rfl⟩
    · rw [aus_bad1 (fun z => g z.2) (fun z => absurd z.1.1 (by decide)) (by decide)] at h; cases h
  | false => rw [aus_bad0 (fun z => absurd z.1 (by decide)) (by decide)] at h; cases h
theorem aus_41 {md : Nat} {c : Int} {u v : aU} (h : aus md c u = some v) (hmd : md ≤ 8) (hc : c = 41) : 1 < u.2.1 ∧ v.2.1 = u.2.1 - 1 ∧ v.2.2 = u.2.2 := by
  obtain ⟨w, d, s⟩ := u
  subst hc
  cases w with
  | true => rw [aus_bad1 (fun z => absurd z.1 (by decide)) (fun z => absurd z.1.1 (by decide)) (by decide)] at h; cases h
  | false =>
    by_cases g : 1 < d
    · rw [aus_close rfl g] at h; cases h; exact ⟨g, rfl, rfl⟩
    · rw [aus_bad0 (fun z => g z.2) (by decide)] at h; cases h
theorem aus_sg {md : Nat} {c : Int} {u v : aU} (h : aus md c u = some v) (hc : c = 33 ∨ c = 38 ∨ c = 94 ∨ c = 124) (hmd : md ≤ 8) : v.2.1 = u.2.1 ∧ v.2.2 = u.2.2 := by
  obtain ⟨w, d, s⟩ := u
  have hl : ¬ isLt md c := fun z => by have := z.1; have := z.2; omega
  cases w with
  | true =>
    by_cases g : c = 33
    · rw [aus_not (fun z => by omega) (fun z => hl z.1) g] at h; cases h; exact ⟨rfl, rfl⟩
    · rw [aus_bad1 (fun z => by omega) (fun z => hl z.1) g] at h; cases h
  | false =>
    by_cases g : c = 33
    · rw [aus_bad0 (fun z => by omega) (by omega)] at h; cases h
    · rw [aus_sign (fun z => by omega) (by omega)] at h; cases h; exact ⟨rfl, rfl⟩
theorem aus_lt {md : Nat} {c : Int} {u v : aU} (h : aus md c u = some v) (hc : ¬ (c = 33 ∨ c = 38 ∨ c = 94 ∨ c = 124 ∨ c = 40 ∨ c = 41)) : isLt md c ∧ v.2.1 = u.2.1 ∧ v.2.2 = u.2.2 ||| 2 ^ (c - 65).toNat := by
  obtain ⟨w, d, s⟩ := u
  cases w with
  | true =>
    by_cases g : isLt md c ∧ cnt 31 (more md c s) ≤ 6
    · rw [aus_let (fun z => by omega) g.1 g.2] at h; cases h
      refine ⟨g.1, rfl, ?_⟩
      show more md c s = _
      unfold more; rw [if_pos g.1]
    · rw [aus_bad1 (fun z => by omega) g (by omega)] at h; cases h
  | false => rw [aus_bad0 (fun z => by omega) (by omega)] at h; cases h
theorem aus_sub {md : Nat} {c : Int} {u v : aU} (h : aus md c u = some v) (hmd : md ≤ 8) {j : Nat} (hj : u.2.2.testBit j = true) : v.2.2.testBit j = true := by
  by_cases h1 : c = 40
  · rw [(aus_40 h hmd h1).2.2]; exact hj
  · by_cases h2 : c = 41
    · rw [(aus_41 h hmd h2).2.2]; exact hj
    · by_cases h3 : c = 33 ∨ c = 38 ∨ c = 94 ∨ c = 124
      · rw [(aus_sg h h3 hmd).2]; exact hj
      · rw [(aus_lt h (by omega)).2.2, Nat.testBit_or, hj]; rfl
theorem au_sub {t : Nat → Int} {md : Nat} (hmd : md ≤ 8) {p : Nat} {u : aU} (hu : au t md p = some u) {j : Nat} (hj : u.2.2.testBit j = true) : ∀ q v, p ≤ q → au t md q = some v → v.2.2.testBit j = true
  | 0, v, hq, hv => by rw [show p = 0 by omega, hv] at hu; cases hu; exact hj
  | q + 1, v, hq, hv => by
    by_cases e : p = q + 1
    · rw [e, hv] at hu; cases hu; exact hj
    · obtain ⟨u', hu'⟩ := au_pre hv (show q ≤ q + 1 by omega)
      rw [au_step hu'] at hv
      exact aus_sub hv hmd (au_sub hmd hu hj q u' (by omega) hu')
/-- a letter read is in the set at the end -/
theorem au_has {t : Nat → Int} {md n : Nat} {v : aU} (hmd : md ≤ 8) (hv : au t md n = some v) {p : Nat} (hp : p < n) (hc : ¬ (t p = 33 ∨ t p = 38 ∨ t p = 94 ∨ t p = 124 ∨ t p = 40 ∨ t p = 41)) : isLt md (t p) ∧ v.2.2.testBit (t p - 65).toNat = true := by
  obtain ⟨u, hu⟩ := au_pre hv (show p ≤ n by omega)
  obtain ⟨u', hu'⟩ := au_pre hv (show p + 1 ≤ n by omega)
  have hs := hu'
  rw [au_step hu] at hs
  obtain ⟨h1, h2, h3⟩ := aus_lt hs hc
  refine ⟨h1, au_sub hmd hu' ?_ n v (by omega) hv⟩
  rw [h3, Nat.testBit_or, Nat.testBit_two_pow_self, Bool.or_true]
/-- the machine's depth is the reading's -/
theorem gDp_step {sh : Bool} {nm : Nat → Nat} {w md : Nat} {c : Int} {u v : aU} {s : gS} (h : aus md c u = some v) (hmd : md ≤ 8) (hs : gDp s = u.2.1) : gDp (gStep sh nm w c s) = v.2.1 := by
  unfold gStep
  by_cases h1 : c = 33
  · rw [if_pos h1, (aus_sg h (by omega) hmd).1]; exact hs
  · rw [if_neg h1]
    by_cases h2 : c = 40
    · rw [if_pos h2, (aus_40 h hmd h2).2.1, ← hs]; rfl
    · rw [if_neg h2]
      by_cases h3 : c = 41
      · rw [if_pos h3, (aus_41 h hmd h3).2.1, ← hs]; rfl
      · rw [if_neg h3]
        by_cases h4 : c = 94
        · rw [if_pos h4, (aus_sg h (by omega) hmd).1]; exact hs
        · rw [if_neg h4]
          by_cases h5 : c = 124
          · rw [if_pos h5, (aus_sg h (by omega) hmd).1]; exact hs
          · rw [if_neg h5]
            by_cases h6 : c = 38
            · rw [if_pos h6, (aus_sg h (by omega) hmd).1]; exact hs
            · rw [if_neg h6, (aus_lt h (by omega)).2.1]; exact hs
theorem gRun_s (t : Nat → Int) (sh : Bool) (nm : Nat → Nat) (w p : Nat) (s : gS) : gRun t sh nm w (p + 1) 0 s = gStep sh nm w (t p) (gRun t sh nm w p 0 s) := by
  rw [gRun_add, Nat.zero_add]; rfl
/-! the machine in memory -/
def gR (m : aM) (s : gS) : Prop := mI m 67 26 = (gDp s : Int) ∧ mI m 67 27 = (gSn s : Int) ∧ ∀ j, j < gDp s → mI m 84 j = bI (gO s j) ∧ mI m 85 j = bI (gX s j) ∧ mI m 86 j = bI (gA_ s j) ∧ mI m 87 j = bI (gN s j) ∧ mI m 88 j = bI (gLv s j)
def FrG (μ m : aM) : Prop := (∀ a b, (a < 84 ∨ 88 < a) → ¬ (a = 67 ∧ (b = 26 ∨ b = 27)) → mI m a b = mI μ a b) ∧ (∀ a b, mL m a b = mL μ a b) ∧ (∀ a b, mR m a b = mR μ a b)
theorem FrG.refl (μ : aM) : FrG μ μ := ⟨fun _ _ _ _ => rfl, fun _ _ => rfl, fun _ _ => rfl⟩
theorem FrG.trans {μ m l : aM} (h : FrG μ m) (g : FrG m l) : FrG μ l := ⟨fun a b h1 h2 => (g.1 a b h1 h2).trans (h.1 a b h1 h2), fun a b => (g.2.1 a b).trans (h.2.1 a b), fun a b => (g.2.2 a b).trans (h.2.2 a b)⟩
theorem FrG_w (m : aM) {k b : Nat} (z : Int) (h : (84 ≤ k ∧ k ≤ 88) ∨ (k = 67 ∧ (b = 26 ∨ b = 27))) : FrG m (wI m k b z) := ⟨fun a j h1 h2 => by rw [mI_wI, if_neg (by intro q; obtain ⟨rfl, rfl⟩ := q; rcases h with h | h; omega; exact h2 h)], fun _ _ => rfl, fun _ _ => rfl⟩
def opM (m : aM) (k : Nat) (v : Bool) : aM := wI (wI (wI (wI (wI (wI m 84 k 0) 85 k 0) 86 k 1) 87 k 0) 88 k (bI v)) 67 26 ((k : Int) + 1)
def joM (m : aM) (k : Nat) (v : Bool) : aM := wI (wI m 86 k (bI v)) 87 k 0
def eaM (m : aM) (k : Nat) (v : Bool) : aM := wI (wI m 85 k (bI v)) 86 k 1
def exM (m : aM) (k : Nat) (v : Bool) : aM := wI (wI m 84 k (bI v)) 85 k 0
theorem FrG_op (m : aM) (k : Nat) (v : Bool) : FrG m (opM m k v) := (((((FrG_w m 0 (Or.inl ⟨by omega, by omega⟩)).trans (FrG_w _ 0 (Or.inl ⟨by omega, by omega⟩))).trans (FrG_w _ 1 (Or.inl ⟨by omega, by omega⟩))).trans (FrG_w _ 0 (Or.inl ⟨by omega, by omega⟩))).trans (FrG_w _ _ (Or.inl ⟨by omega, by omega⟩))).trans (FrG_w _ _ (Or.inr ⟨rfl, Or.inl rfl⟩))
theorem FrG_jo (m : aM) (k : Nat) (v : Bool) : FrG m (joM m k v) := (FrG_w m _ (Or.inl ⟨by omega, by omega⟩)).trans (FrG_w _ 0 (Or.inl ⟨by omega, by omega⟩))
theorem FrG_ea (m : aM) (k : Nat) (v : Bool) : FrG m (eaM m k v) := (FrG_w m _ (Or.inl ⟨by omega, by omega⟩)).trans (FrG_w _ 1 (Or.inl ⟨by omega, by omega⟩))
theorem FrG_ex (m : aM) (k : Nat) (v : Bool) : FrG m (exM m k v) := (FrG_w m _ (Or.inl ⟨by omega, by omega⟩)).trans (FrG_w _ 0 (Or.inl ⟨by omega, by omega⟩))
theorem gR_op {m : aM} {s : gS} (h : gR m s) (v : Bool) : gR (opM m (gDp s) v) (gOpen v s) := by
  obtain ⟨dp, sn, o, x, a, nn, lv⟩ := s
  obtain ⟨h1, h2, h3⟩ := h
  simp only [gDp, gSn, gO, gX, gA_, gN, gLv] at h1 h2 h3
  refine ⟨by simp [opM, mI_wI, gOpen, gDp, gSn, gO, gX, gA_, gN, gLv], by simp [opM, mI_wI, gOpen, gDp, gSn, gO, gX, gA_, gN, gLv, h2], fun j hj => ?_⟩
  have hj' : j < dp + 1 := hj
  by_cases e : j = dp
  · subst e
    simp [opM, mI_wI, gOpen, up, bI, gDp, gSn, gO, gX, gA_, gN, gLv]
  · have := h3 j (by omega)
    simp [opM, mI_wI, gOpen, up, e, this, gDp, gSn, gO, gX, gA_, gN, gLv]
theorem gR_jo {m : aM} {s : gS} (h : gR m s) {k : Nat} (hk : gDp s = k + 1) (v : Bool) : gR (joM m k (gA_ s k && (v != gN s k))) (gJoin v s) := by
  obtain ⟨dp, sn, o, x, a, nn, lv⟩ := s
  obtain ⟨h1, h2, h3⟩ := h
  simp only [gDp, gSn, gO, gX, gA_, gN, gLv] at h1 h2 h3 hk
  have kk : dp - 1 = k := by omega
  refine ⟨by simp [joM, mI_wI, gJoin, gDp, gSn, gO, gX, gA_, gN, gLv, h1], by simp [joM, mI_wI, gJoin, gDp, gSn, gO, gX, gA_, gN, gLv, h2], fun j hj => ?_⟩
  have := h3 j hj
  by_cases e : j = k
  · subst e
    simp [joM, mI_wI, gJoin, kk, up, this, bI, gDp, gSn, gO, gX, gA_, gN, gLv]
  · simp [joM, mI_wI, gJoin, kk, up, e, this, gDp, gSn, gO, gX, gA_, gN, gLv]
theorem gR_ea {m : aM} {s : gS} (h : gR m s) {k : Nat} (hk : gDp s = k + 1) : gR (eaM m k (gX s k != gA_ s k)) (gEnd s) := by
  obtain ⟨dp, sn, o, x, a, nn, lv⟩ := s
  obtain ⟨h1, h2, h3⟩ := h
  simp only [gDp, gSn, gO, gX, gA_, gN, gLv] at h1 h2 h3 hk
  have kk : dp - 1 = k := by omega
  refine ⟨by simp [eaM, mI_wI, gEnd, gDp, gSn, gO, gX, gA_, gN, gLv, h1], by simp [eaM, mI_wI, gEnd, gDp, gSn, gO, gX, gA_, gN, gLv, h2], fun j hj => ?_⟩
  have := h3 j hj
  by_cases e : j = k
  · subst e
    simp [eaM, mI_wI, gEnd, kk, up, this, bI, gDp, gSn, gO, gX, gA_, gN, gLv]
  · simp [eaM, mI_wI, gEnd, kk, up, e, this, gDp, gSn, gO, gX, gA_, gN, gLv]
theorem gR_ex {m : aM} {s : gS} (h : gR m (gEnd s)) {k : Nat} (hk : gDp s = k + 1) : gR (exM m k (gO s k || gX (gEnd s) k)) (gEndX s) := by
  obtain ⟨dp, sn, o, x, a, nn, lv⟩ := s
  obtain ⟨h1, h2, h3⟩ := h
  simp only [gEnd, gDp, gSn, gO, gX, gA_, gN, gLv] at h1 h2 h3 hk
  have kk : dp - 1 = k := by omega
  refine ⟨by simp [exM, mI_wI, gEndX, gDp, gSn, gO, gX, gA_, gN, gLv, h1], by simp [exM, mI_wI, gEndX, gDp, gSn, gO, gX, gA_, gN, gLv, h2], fun j hj => ?_⟩
  have := h3 j hj
  by_cases e : j = k
  · subst e
    simp [exM, mI_wI, gEndX, gEnd, kk, up, bI, gDp, gSn, gO, gX, gA_, gN, gLv] at this ⊢
    simp [this]
  · simp [exM, mI_wI, gEndX, gEnd, kk, up, e, gDp, gSn, gO, gX, gA_, gN, gLv] at this ⊢
    simp [this]
/-- the depth one less -/
theorem gR_dn {m : aM} {s : gS} (h : gR m s) {k : Nat} (hk : gDp s = k + 1) : gR (wI m 67 26 (k : Int)) (k, s.2) := by
  obtain ⟨h1, h2, h3⟩ := h
  refine ⟨by rw [mI_wI, if_pos ⟨rfl, rfl⟩], by rw [mI_wI, if_neg (by omega)]; exact h2, fun j hj => ?_⟩
  have hj' : j < k := hj
  obtain ⟨t1, t2, t3, t4, t5⟩ := h3 j (by omega)
  exact ⟨t1, t2, t3, t4, t5⟩
theorem gR_sn {m : aM} {s : gS} (h : gR m s) (n : Nat) : gR (wI m 67 27 (n : Int)) (gDp s, n, s.2.2) := by
  obtain ⟨h1, h2, h3⟩ := h
  exact ⟨by rw [mI_wI, if_neg (by omega)]; exact h1, by rw [mI_wI, if_pos ⟨rfl, rfl⟩], fun j hj => h3 j hj⟩
theorem gR_no {m : aM} {s : gS} (h : gR m s) {k : Nat} (hk : gDp s = k + 1) (v : Bool) (hv : v = !gN s k) : gR (wI m 87 k (bI v)) (gDp s, gSn s, gO s, gX s, gA_ s, up (gN s) (gDp s - 1) (!gN s (gDp s - 1)), gLv s) := by
  obtain ⟨h1, h2, h3⟩ := h
  have kk : gDp s - 1 = k := by omega
  refine ⟨by rw [mI_wI, if_neg (by omega)]; exact h1, by rw [mI_wI, if_neg (by omega)]; exact h2, fun j hj => ?_⟩
  obtain ⟨t1, t2, t3, t4, t5⟩ := h3 j hj
  refine ⟨t1, t2, t3, ?_, t5⟩
  rw [mI_wI]
  show _ = bI (up (gN s) (gDp s - 1) (!gN s (gDp s - 1)) j)
  rw [kk]
  by_cases e : j = k
  · rw [if_pos ⟨rfl, e⟩, e, up_at, hv]
  · rw [if_neg (fun z => e z.2), up_ne e]; exact t4
/-- the last place of a letter among k -/
def plF (f : Nat → Int) (l : Int) : Nat → Int
  | 0 => -1
  | j + 1 => if f j = l then (j : Int) else plF f l j
theorem plF_in (f : Nat → Int) (l : Int) : ∀ j, -1 ≤ plF f l j ∧ plF f l j ≤ (j : Int)
  | 0 => by rw [plF]; omega
  | j + 1 => by have := plF_in f l j; rw [plF]; split <;> omega
theorem plF_at {f : Nat → Int} {l : Int} {p : Nat} (hp : f p = l) : ∀ k, p < k → (∀ j, j < k → f j = l → j = p) → plF f l k = (p : Int)
  | 0, h, _ => absurd h (by omega)
  | k + 1, h, hu => by
    rw [plF]
    by_cases e : f k = l
    · rw [if_pos e, hu k (by omega) e]
    · rw [if_neg e]
      have : p ≠ k := fun z => e (z ▸ hp)
      exact plF_at hp k (by omega) (fun j hj hf => hu j (by omega) hf)
end
