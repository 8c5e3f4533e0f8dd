/-! a new decision: what both sides hold of it -/
section
theorem sgn_3 {v : Nat} (h : v < 3) : sgn v = 124 ∨ sgn v = 94 ∨ sgn v = 38 := by
  match v, h with
  | 0, _ => exact Or.inl rfl
  | 1, _ => exact Or.inr (Or.inl rfl)
  | 2, _ => exact Or.inr (Or.inr rfl)
theorem ev_all {t J L R : Nat → Int} {nm : Nat → Nat} {T : Nat → BitVec 64} {w : Nat} (hw : w < 64) : ∀ {f v d a b c x : Nat}, Seg t J L R f v d a b c x → ∀ p, a ≤ p → p < b → 65 ≤ t p → t p < 73 → ∀ g r, x < g → r.getLsbD w = true → (ev J L R nm T false (nm (t p - 65).toNat) g x r).getLsbD w = true
  | 0, _, _, _, _, _, _, h => h.elim
  | f + 1, v, d, a, b, c, x, h => by
    intro p p1 p2 p3 p4 g r hg hr
    rcases h with ⟨h1, h⟩ | ⟨h1, e, l, y, h2, h3, h4, h5, h6, h7, h8⟩ | ⟨h1, h2, y, h3, h4, h5, h⟩ | ⟨h1, h2, h0, e, h3, h4, h⟩ | ⟨h1, h2, h3, h4, h5, h6, h7⟩
    · exact ev_all hw h p p1 p2 p3 p4 g r hg hr
    · have b1 := Seg_b h6
      have b2 := Seg_b h8
      have hs := sgn_3 h1
      obtain ⟨g, rfl⟩ : ∃ g', g = g' + 1 := ⟨g - 1, by omega⟩
      rw [ev, if_neg (by omega), if_neg (by omega), h4, h5]
      simp only [Int.toNat_natCast]
      rw [BitVec.getLsbD_or, Bool.or_eq_true]
      have hpe : p ≠ e := fun z => by subst z; omega
      by_cases q : p < e
      · exact Or.inl (ev_all hw h6 p p1 q p3 p4 g r (by omega) hr)
      · refine Or.inr (ev_all hw h8 p (by omega) p2 p3 p4 g _ (by omega) ?_)
        rw [BitVec.getLsbD_and, hr, show opn J L T false x = MO from if_pos rfl, MO_bit hw]; rfl
    · obtain ⟨g, rfl⟩ : ∃ g', g = g' + 1 := ⟨g - 1, by omega⟩
      have hpa : p ≠ a := fun z => by subst z; omega
      rw [ev, if_neg (by omega), if_pos h4, h5]
      simp only [Int.toNat_natCast]
      exact ev_all hw h p (by omega) p2 p3 p4 g r (by omega) hr
    · have hpa : p ≠ a := fun z => by subst z; omega
      have hpe : p ≠ e := fun z => by subst z; omega
      exact ev_all hw h p (by omega) (by omega) p3 p4 g r hg hr
    · obtain ⟨g, rfl⟩ : ∃ g', g = g' + 1 := ⟨g - 1, by omega⟩
      have hpa : p = a := by omega
      subst hpa
      rw [ev, if_pos h4, h7, if_pos rfl]; exact hr
theorem ev_none {J L R : Nat → Int} {T : Nat → BitVec 64} {sh : Bool} {s n i : Nat} (ok : okT J L R s n) (hi : 6 ≤ i) : ∀ g x r, x < n → ev J L R (fun l => cn s.testBit l) T sh i g x r = 0
  | 0, _, _, _ => rfl
  | g + 1, x, r, hx => by
    obtain ⟨o1, o2, o3, o4⟩ := ok x hx
    rw [ev]
    by_cases h4 : J x = 4
    · rw [if_pos h4, if_neg (by have := (o2 h4).2.2; omega)]
    · rw [if_neg h4]
      by_cases h3 : J x = 3
      · rw [if_pos h3]; exact ev_none ok hi g _ _ (by have := o3 (by omega); omega)
      · rw [if_neg h3, ev_none ok hi g _ _ (by have := o3 (by omega); omega), ev_none ok hi g _ _ (by have := o4 (by omega); omega)]; rfl
theorem au_src {t : Nat → Int} {md : Nat} : ∀ {p : Nat} {u : aU}, au t md p = some u → ∀ {j : Nat}, u.2.2.testBit j = true → ∃ q, q < p ∧ t q = 65 + (j : Int)
  | 0, u, h, j, hj => by cases h; rw [Nat.zero_testBit] at hj; cases hj
  | p + 1, u, h, j, hj => by
    rw [au] at h
    cases hp : au t md p with
    | none => rw [hp] at h; cases h
    | some v =>
      rw [hp] at h
      have h : aus md (t p) v = some u := h
      have up : ∀ {j : Nat}, v.2.2.testBit j = true → ∃ q, q < p + 1 ∧ t q = 65 + (j : Int) := fun hj => by
        obtain ⟨q, q1, q2⟩ := au_src hp hj
        exact ⟨q, by omega, q2⟩
      unfold aus at h
      split at h
      · split at h
        · cases h; exact up hj
        · split at h
          · rename_i g
            cases h
            have hj : (more md (t p) v.2.2).testBit j = true := hj
            unfold more at hj
            rw [if_pos g.1, Nat.testBit_or, Bool.or_eq_true] at hj
            rcases hj with hj | hj
            · exact up hj
            · by_cases e : (t p - 65).toNat = j
              · exact ⟨p, by omega, by have := g.1.1; omega⟩
              · rw [Nat.testBit_two_pow_of_ne e] at hj; cases hj
          · split at h
            · cases h; exact up hj
            · cases h
      · split at h
        · cases h; exact up hj
        · split at h
          · cases h; exact up hj
          · cases h
theorem gEnd_0 {s : gS} (h : gDp s = 1) : gO (gEndX s) 0 = (gO s 0 || (gX s 0 != gA_ s 0)) := by
  obtain ⟨d, s2⟩ := s
  have h : d = 1 := h
  subst h
  rfl
theorem go_word {t J L R : Nat → Int} {T : Nat → BitVec 64} {n f x s md w : Nat} {sh : Bool} (hmd : md ≤ 8) (ok : okT J L R s (x + 1)) (hseg : Seg t J L R f 0 1 0 n 0 x) (hT : TE J L R (fun l => cn s.testBit l) T (x + 1)) (hw : w < 64) : gO (gEndX (gRun t sh (fun l => cn s.testBit l) w n 0 gS0)) 0 = (T x).getLsbD w ∧ ∀ c, (gSn (gRun t sh (fun l => cn s.testBit l) w n 0 gS0)).testBit c = (ev J L R (fun l => cn s.testBit l) T sh c (x + 1) x MO).getLsbD w := by
  have h := go_seg (sh := sh) hT (fun y hy h4 => ((ok y hy).2.1 h4).2.2) hw (k := 0) hseg (by omega) gS0 rfl (fun _ => rfl) (fun _ => rfl) (fun _ => rfl)
  rw [Nat.sub_zero] at h
  obtain ⟨⟨q1, q2, q3, q4, q5, q6, q7, q8, q9⟩, qs⟩ := h
  refine ⟨?_, fun c => ?_⟩
  · have e := q9 rfl
    rw [gEnd_0 q1, e]
    show (false || _) = _
    rw [Bool.false_or]
  · rw [qs c MO (x + 1) (by omega) (by rw [MO_bit hw]; cases sh <;> rfl)]
    show ((0 : Nat).testBit c || _) = _
    rw [Nat.zero_testBit, Bool.false_or]
theorem dsM_at {F S : Nat → Int} {T : BitVec 64} {D k : Nat} {m : aM} : ∀ n, (∀ c, c < n → mL (dsM F S T D k m n) (D + 6) c = T ^^^ trn T c ∧ mI (dsM F S T D k m n) (D + 4) c = ((wb (fun j => decide (inp (F j) (S j) &&& inp (F c) (S c) = 0)) k : Nat) : Int)) ∧ (∀ c, n ≤ c → mI (dsM F S T D k m n) (D + 4) c = mI m (D + 4) c)
  | 0 => ⟨fun c h => absurd h (by omega), fun _ _ => rfl⟩
  | n + 1 => by
    obtain ⟨h1, h2⟩ := dsM_at (F := F) (S := S) (T := T) (D := D) (k := k) (m := m) n
    refine ⟨fun c hc => ?_, fun c hc => ?_⟩
    · rw [dsM]
      by_cases e : c = n
      · subst e
        exact ⟨by show mL (wL _ _ _ _) _ _ = _; rw [mL_wL, if_pos ⟨rfl, rfl⟩], by rw [mI_wI, if_pos ⟨rfl, rfl⟩]⟩
      · exact ⟨by show mL (wL _ _ _ _) _ _ = _; rw [mL_wL, if_neg (fun z => e z.2)]; exact (h1 c (by omega)).1, by rw [mI_wI, if_neg (fun z => e z.2)]; exact (h1 c (by omega)).2⟩
    · rw [dsM, mI_wI, if_neg (fun z => by omega)]; exact h2 c (by omega)
theorem apM_ch {k : Nat} : ∀ (l : List Int) (m : aM), (∀ z ∈ l, 0 ≤ z ∧ z < 65536) → (∀ j, 0 ≤ mI m (k + 1) j ∧ mI m (k + 1) j < 65536) → ∀ j, 0 ≤ mI (apM k m l) (k + 1) j ∧ mI (apM k m l) (k + 1) j < 65536
  | [], m, _, h, j => h j
  | ch :: l, m, hl, h, j => by
    rw [apM]
    refine apM_ch l _ (fun z hz => hl z (List.mem_cons_of_mem _ hz)) (fun j => ?_) j
    rw [mI_wI, if_neg (by omega), mI_wI]
    split
    · exact hl ch (List.mem_cons_self ..)
    · exact h j
theorem osg_mem {t : Nat → Int} {kp : Nat → Bool} : ∀ (m p : Nat) (z : Int), z ∈ osg t kp m p → ∃ q, p ≤ q ∧ q < p + m ∧ z = t q
  | 0, p, z, h => by cases h
  | m + 1, p, z, h => by
    rw [osg, List.mem_append] at h
    rcases h with h | h
    · split at h
      · rw [List.mem_singleton] at h; exact ⟨p, by omega, by omega, h⟩
      · cases h
    · obtain ⟨q, q1, q2, q3⟩ := osg_mem m (p + 1) z h
      exact ⟨q, by omega, by omega, q3⟩
theorem vr_all {F S : Nat → Int} {Hh : Nat → Int → Bool} {wd : Int → Int → Int → Nat} {D i k : Nat} {lx ly lz : Int} {nx ny nz : Nat} {m1 m2 : aM} (h6 : k ≤ 6) (hW : ∀ x y z, lx ≤ x → x < lx + (nx : Int) → ly ≤ y → y < ly + (ny : Int) → lz ≤ z → z < lz + (nz : Int) → cwW F S Hh k x y z = wd x y z ∧ wd x y z < 2 ^ k) (h0 : VR D i k m1 m2) : VR D i k (cwX F S Hh D k lx nx ly ny lz nz m1) (fvX wd i lx nx ly ny lz nz m2) :=
  itr_rel h0 nx (fun x a1 a2 x1 x2 ha => itr_rel ha ny (fun y b1 b2 y1 y2 hb => itr_rel hb nz (fun z c1 c2 z1 z2 hc => by
    have h := hW x y z x1 x2 y1 y2 z1 z2
    show VR D i k (meS D (cwW F S Hh k x y z) x y z c1) (fvS (64 * i + wd x y z) x y z c2)
    rw [h.1]; exact VR_step h6 h.2 hc)))
/-- what the class holds of the decision that it has taken -/
theorem tkA_at {D k s n : Nat} {sh : Bool} {F S : Nat → Int} {μ : aM} (hD : 26 < D) (hn : 0 < n) {t : Nat → Int} {f N : Nat} (hseg : Seg t (mI μ 12) (mI μ 13) (mI μ 14) f 0 1 0 N 0 (n - 1)) (h6 : k ≤ 6) :
    ∃ T : Nat → BitVec 64, TE (mI μ 12) (mI μ 13) (mI μ 14) (fun l => cn s.testBit l) T n ∧ mL (tkA D k s n sh F S μ) D 8 = T (n - 1) ∧ (∀ c, mL (tkA D k s n sh F S μ) (D + 5) c = mL μ (D + 5) c ||| ev (mI μ 12) (mI μ 13) (mI μ 14) (fun l => cn s.testBit l) T sh c n (n - 1) MO) ∧
      (∀ c, c < k → mL (tkA D k s n sh F S μ) (D + 6) c = T (n - 1) ^^^ trn (T (n - 1)) c ∧ mI (tkA D k s n sh F S μ) (D + 4) c = ((wb (fun j => decide (inp (F j) (S j) &&& inp (F c) (S c) = 0)) k : Nat) : Int)) ∧ (∀ c, k ≤ c → mI (tkA D k s n sh F S μ) (D + 4) c = mI μ (D + 4) c) ∧
      (∀ b, mI (tkA D k s n sh F S μ) (D + 1) b = mI (wrM (mI μ 12) (mI μ 13) (mI μ 14) D n (tkM D s μ 8)) (D + 1) b) ∧ (∀ b, mI (tkA D k s n sh F S μ) (D + 2) b = mI (wrM (mI μ 12) (mI μ 13) (mI μ 14) D n (tkM D s μ 8)) (D + 2) b) := by
  obtain ⟨k1, k2, k3⟩ := tkM_fr D s μ 8
  obtain ⟨w1, w2, w3⟩ := wrM_fr (mI μ 12) (mI μ 13) (mI μ 14) D n (tkM D s μ 8)
  obtain ⟨f1, f2, f3⟩ := ftM_fr (J := mI μ 12) (L := mI μ 13) (R := mI μ 14) (nm := fun l => cn s.testBit l) (wrM (mI μ 12) (mI μ 13) (mI μ 14) D n (tkM D s μ 8)) n
  have hTE := ftM_TE (J := mI μ 12) (L := mI μ 13) (R := mI μ 14) (nm := fun l => cn s.testBit l) (m := wrM (mI μ 12) (mI μ 13) (mI μ 14) D n (tkM D s μ 8)) (n := n) (fun y hy => by
    obtain ⟨q1, q2, q3, q4⟩ := Seg_wf hseg y (Nat.zero_le _) (by omega)
    exact ⟨q3, q4⟩)
  refine ⟨fun x => mL (ftM (mI μ 12) (mI μ 13) (mI μ 14) (fun l => cn s.testBit l) (wrM (mI μ 12) (mI μ 13) (mI μ 14) D n (tkM D s μ 8)) n) 15 x, hTE, ?_⟩
  generalize hm3 : ftM (mI μ 12) (mI μ 13) (mI μ 14) (fun l => cn s.testBit l) (wrM (mI μ 12) (mI μ 13) (mI μ 14) D n (tkM D s μ 8)) n = m3 at *
  obtain ⟨r1, r2, r3, r4, r5⟩ := fr_seg (nm := fun l => cn s.testBit l) (T := mL m3 15) (sh := sh) (D := D) (n := n) (by omega) hseg (by omega) (wL m3 D 8 (mL m3 15 (n - 1)))
  rw [show n - 1 + 1 - 0 = n by omega] at r1 r2 r3 r4 r5
  obtain ⟨d1, d2, d3⟩ := dsM_fr F S (mL m3 15 (n - 1)) D k (frP (mI μ 12) (mI μ 13) (mI μ 14) (fun l => cn s.testBit l) (mL m3 15) sh D n n (n - 1) (wL m3 D 8 (mL m3 15 (n - 1)))) k
  obtain ⟨a1, a2⟩ := dsM_at (F := F) (S := S) (T := mL m3 15 (n - 1)) (D := D) (k := k) (m := frP (mI μ 12) (mI μ 13) (mI μ 14) (fun l => cn s.testBit l) (mL m3 15) sh D n n (n - 1) (wL m3 D 8 (mL m3 15 (n - 1)))) k
  have hA : tkA D k s n sh F S μ = dsM F S (mL m3 15 (n - 1)) D k (frP (mI μ 12) (mI μ 13) (mI μ 14) (fun l => cn s.testBit l) (mL m3 15) sh D n n (n - 1) (wL m3 D 8 (mL m3 15 (n - 1)))) k := by
    unfold tkA; rw [hm3]
  rw [hA]
  refine ⟨?_, fun c => ?_, a1, fun c hc => ?_, fun b => ?_, fun b => ?_⟩
  · rw [d2 _ _ (by omega), r3 _ _ (by omega) (by omega), mL_wL, if_pos ⟨rfl, rfl⟩]
  · rw [d2 _ _ (by omega), r5 c n (by omega), if_pos (by omega), mL_wL, if_neg (by omega), f2 _ _ (by omega), w2, k2]
  · rw [a2 c hc, r1]
    show mI m3 (D + 4) c = _
    rw [f1, w1 _ _ (by omega) (by omega), k1 _ _ (by omega) (by omega)]
  · rw [d1 _ _ (by omega), r1]
    show mI m3 (D + 1) b = _
    rw [f1]
  · rw [d1 _ _ (by omega), r1]
    show mI m3 (D + 2) b = _
    rw [f1]
end
