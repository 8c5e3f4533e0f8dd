/-! pure lemmas: the machine of the reference -/
section
def gPost (v k : Nat) (tx : Bool) (s s' : gS) : Prop := gDp s' = k + 1 ∧ (∀ j, j < k → gO s' j = gO s j ∧ gX s' j = gX s j ∧ gA_ s' j = gA_ s j ∧ gN s' j = gN s j ∧ gLv s' j = gLv s j) ∧ gLv s' k = gLv s k ∧ gN s' k = false ∧
  (2 ≤ v → gO s' k = gO s k ∧ gX s' k = gX s k) ∧ (v = 3 → gA_ s' k = (gA_ s k && (tx != gN s k))) ∧ (v = 2 → gA_ s' k = (gA_ s k && tx)) ∧ (v = 1 → gO s' k = gO s k ∧ (gX s' k != gA_ s' k) = (gX s k != tx)) ∧ (v = 0 → (gO s' k || (gX s' k != gA_ s' k)) = (gO s k || tx))
variable {t J L R : Nat → Int} {sh : Bool} {nm : Nat → Nat} {w n : Nat} {T : Nat → BitVec 64}
theorem MO_x {b : BitVec 64} (hw : w < 64) : (b ^^^ MO).getLsbD w = !b.getLsbD w := by
  rw [BitVec.getLsbD_xor, MO_bit hw, Bool.xor_true]
theorem opn_bit (hw : w < 64) (x : Nat) : (opn J L T sh x).getLsbD w = (!sh || (if J x = 2 then (T (L x).toNat).getLsbD w else if J x = 0 then !(T (L x).toNat).getLsbD w else true)) := by
  unfold opn
  cases sh with
  | false => rw [if_pos rfl, MO_bit hw]; rfl
  | true =>
    rw [if_neg (by decide)]
    split
    · rfl
    · split
      · rw [MO_x hw]; rfl
      · rw [MO_bit hw]; rfl
theorem go_seg (hT : TE J L R nm T n) (hnm : ∀ y, y < n → J y = 4 → nm (L y).toNat < 6) (hw : w < 64) : ∀ {f v k a b c x : Nat}, Seg t J L R f v (k + 1) a b c x → x < n → ∀ s : gS, gDp s = k + 1 → (v ≤ 2 → gN s k = false) → (v ≤ 1 → gA_ s k = true) → (v = 0 → gX s k = false) →
    gPost v k ((T x).getLsbD w) s (gRun t sh nm w (b - a) a s) ∧ ∀ i r g, x < g → r.getLsbD w = gNext sh s → (gSn (gRun t sh nm w (b - a) a s)).testBit i = ((gSn s).testBit i || (ev J L R nm T sh i g x r).getLsbD w)
  | 0, _, _, _, _, _, _, h => h.elim
  | f + 1, v, k, a, b, c, x, h => by
    intro hx s hd p1 p2 p3
    rcases h with ⟨h1, h⟩ | ⟨h1, e, l, y, h2, h3, h4, h5, h6, h7, h8⟩ | ⟨h1, h2, y, h3, h4, h5, h⟩ | ⟨h1, h2, h0, e, h3, h4, h⟩ | ⟨h1, h2, h3, h4, h5, h6, h7⟩
    · -- promoted
      obtain ⟨⟨q1, q2, q3, q4, q5, q6, q7, q8, q9⟩, qs⟩ := go_seg hT hnm hw h hx s hd (fun _ => p1 (by omega)) (fun _ => p2 (by omega)) (fun z => p3 (by omega))
      refine ⟨⟨q1, q2, q3, q4, fun _ => q5 (by omega), fun z => absurd z (by omega), fun z => ?_, fun z => ?_, fun z => ?_⟩, qs⟩
      · rw [q6 (by omega), p1 (by omega), Bool.bne_false]
      · obtain ⟨r1, r2⟩ := q5 (by omega)
        rw [r1, r2, q7 (by omega), p2 (by omega), Bool.true_and]
        exact ⟨rfl, rfl⟩
      · obtain ⟨r1, r2⟩ := q8 (by omega)
        rw [r1, r2, p3 z, Bool.false_bne]
    · -- two parts
      have b1 := Seg_b h6; have b2 := Seg_b h8
      obtain ⟨⟨q1, q2, q3, q4, q5, q6, q7, q8, q9⟩, qs⟩ := go_seg hT hnm hw h6 (by omega) s hd p1 p2 p3
      have hJ := hT x hx
      rw [gRun_to (e := e) (by omega) (by omega), gRun_1 (a := e) (by omega), h7]
      generalize gRun t sh nm w (e - a) a s = s1 at q1 q2 q3 q4 q5 q6 q7 q8 q9 qs ⊢
      have kk : gDp s1 - 1 = k := by rw [q1]; rfl
      have hL : (L x).toNat = l := by rw [h5]; rfl
      have hR : (R x).toNat = y := by rw [h4]; rfl
      rcases (show v = 0 ∨ v = 1 ∨ v = 2 by omega) with rfl | rfl | rfl
      · have e2 : gStep sh nm w (sgn 0) s1 = gEndX s1 := rfl
        rw [e2]
        have d1 : gDp (gEndX s1) = k + 1 := q1
        have dO : gO (gEndX s1) k = (gO s1 k || (gX s1 k != gA_ s1 k)) := by show up _ (gDp s1 - 1) _ k = _; rw [kk, up_at]; show (_ || up _ (gDp s1 - 1) _ k) = _; rw [kk, up_at]
        have dX : gX (gEndX s1) k = false := by show up _ (gDp s1 - 1) _ k = _; rw [kk, up_at]
        have dA : gA_ (gEndX s1) k = true := by show up _ (gDp s1 - 1) _ k = _; rw [kk, up_at]
        have dN : gN (gEndX s1) k = false := q4
        have dL : gLv (gEndX s1) k = gLv s k := q3
        have dF : ∀ j, j < k → gO (gEndX s1) j = gO s j ∧ gX (gEndX s1) j = gX s j ∧ gA_ (gEndX s1) j = gA_ s j ∧ gN (gEndX s1) j = gN s j ∧ gLv (gEndX s1) j = gLv s j := fun j hj => by
          obtain ⟨z1, z2, z3, z4, z5⟩ := q2 j hj
          refine ⟨?_, ?_, ?_, z4, z5⟩
          · show up _ (gDp s1 - 1) _ j = _; rw [kk, up_ne (by omega)]; exact z1
          · show up (up _ (gDp s1 - 1) _) (gDp s1 - 1) _ j = _; rw [kk, up_ne (by omega), up_ne (by omega)]; exact z2
          · show up _ (gDp s1 - 1) _ j = _; rw [kk, up_ne (by omega)]; exact z3
        have dS : gSn (gEndX s1) = gSn s1 := rfl
        rw [q9 rfl] at dO
        generalize gEndX s1 = s2 at d1 dO dX dA dN dL dF dS ⊢
        obtain ⟨⟨u1, u2, u3, u4, u5, u6, u7, u8, u9⟩, us⟩ := go_seg hT hnm hw h8 (by omega) s2 d1 (fun _ => dN) (fun _ => dA) (fun z => absurd z (by omega))
        have eT : T x = T l ||| T y := by have := hJ.2.2.2.2 h3; rw [hL, hR] at this; exact this
        refine ⟨⟨u1, fun j hj => ?_, u3.trans dL, u4, fun z => absurd z (by omega), fun z => absurd z (by omega), fun z => absurd z (by omega), fun z => absurd z (by omega), fun _ => ?_⟩, fun i r g hg hr => ?_⟩
        · obtain ⟨z1, z2, z3, z4, z5⟩ := u2 j hj
          obtain ⟨y1, y2, y3, y4, y5⟩ := dF j hj
          exact ⟨z1.trans y1, z2.trans y2, z3.trans y3, z4.trans y4, z5.trans y5⟩
        · obtain ⟨z1, z2⟩ := u8 rfl
          rw [z1, z2, dX, dO, eT, BitVec.getLsbD_or, Bool.false_bne, Bool.or_assoc]
        · obtain ⟨g, rfl⟩ : ∃ g', g = g' + 1 := ⟨g - 1, by omega⟩
          rw [ev, if_neg (by rw [h3]; decide), if_neg (by rw [h3]; decide), hL, hR, BitVec.getLsbD_or, us i (r &&& opn J L T sh x) g (by omega) ?_, dS, qs i r g (by omega) hr, Bool.or_assoc]
          rw [BitVec.getLsbD_and, hr, opn_bit hw, if_neg (by rw [h3]; decide), if_pos (show J x = 0 from h3), hL]
          unfold gNext
          rw [d1, hd, Nat.add_sub_cancel, dL, dA, dO, p2 (by omega)]
          cases gLv s k <;> cases sh <;> cases gO s k <;> cases (T l).getLsbD w <;> rfl
      · have e2 : gStep sh nm w (sgn 1) s1 = gEnd s1 := rfl
        rw [e2]
        have d1 : gDp (gEnd s1) = k + 1 := q1
        have dO : gO (gEnd s1) k = gO s k := (q8 rfl).1
        have dX : gX (gEnd s1) k = (gX s1 k != gA_ s1 k) := by show up _ (gDp s1 - 1) _ k = _; rw [kk, up_at]
        have dA : gA_ (gEnd s1) k = true := by show up _ (gDp s1 - 1) _ k = _; rw [kk, up_at]
        have dN : gN (gEnd s1) k = false := q4
        have dL : gLv (gEnd s1) k = gLv s k := q3
        have dF : ∀ j, j < k → gO (gEnd s1) j = gO s j ∧ gX (gEnd s1) j = gX s j ∧ gA_ (gEnd s1) j = gA_ s j ∧ gN (gEnd s1) j = gN s j ∧ gLv (gEnd s1) j = gLv s j := fun j hj => by
          obtain ⟨z1, z2, z3, z4, z5⟩ := q2 j hj
          refine ⟨z1, ?_, ?_, z4, z5⟩
          · show up _ (gDp s1 - 1) _ j = _; rw [kk, up_ne (by omega)]; exact z2
          · show up _ (gDp s1 - 1) _ j = _; rw [kk, up_ne (by omega)]; exact z3
        have dS : gSn (gEnd s1) = gSn s1 := rfl
        rw [(q8 rfl).2] at dX
        generalize gEnd s1 = s2 at d1 dO dX dA dN dL dF dS ⊢
        obtain ⟨⟨u1, u2, u3, u4, u5, u6, u7, u8, u9⟩, us⟩ := go_seg hT hnm hw h8 (by omega) s2 d1 (fun _ => dN) (fun z => absurd z (by omega)) (fun z => absurd z (by omega))
        have eT : T x = T l ^^^ T y := by have := hJ.2.2.2.1 h3; rw [hL, hR] at this; exact this
        refine ⟨⟨u1, fun j hj => ?_, u3.trans dL, u4, fun z => absurd z (by omega), fun z => absurd z (by omega), fun z => absurd z (by omega), fun _ => ?_, fun z => absurd z (by omega)⟩, fun i r g hg hr => ?_⟩
        · obtain ⟨z1, z2, z3, z4, z5⟩ := u2 j hj
          obtain ⟨y1, y2, y3, y4, y5⟩ := dF j hj
          exact ⟨z1.trans y1, z2.trans y2, z3.trans y3, z4.trans y4, z5.trans y5⟩
        · obtain ⟨z1, z2⟩ := u5 (by omega)
          rw [z1, z2, dX, dO, eT, BitVec.getLsbD_xor, u7 rfl, dA, Bool.true_and]
          refine ⟨rfl, ?_⟩
          cases gX s k <;> cases (T l).getLsbD w <;> cases (T y).getLsbD w <;> rfl
        · obtain ⟨g, rfl⟩ : ∃ g', g = g' + 1 := ⟨g - 1, by omega⟩
          rw [ev, if_neg (by rw [h3]; decide), if_neg (by rw [h3]; decide), hL, hR, BitVec.getLsbD_or, us i (r &&& opn J L T sh x) g (by omega) ?_, dS, qs i r g (by omega) hr, Bool.or_assoc]
          rw [BitVec.getLsbD_and, hr, opn_bit hw, if_neg (by rw [h3]; decide), if_neg (by rw [h3]; decide)]
          unfold gNext
          rw [d1, hd, Nat.add_sub_cancel, dL, dA, dO, p2 (by omega)]
          cases gLv s k <;> cases sh <;> cases gO s k <;> rfl
      · have e2 : gStep sh nm w (sgn 2) s1 = s1 := rfl
        rw [e2]
        obtain ⟨⟨u1, u2, u3, u4, u5, u6, u7, u8, u9⟩, us⟩ := go_seg hT hnm hw h8 (by omega) s1 q1 (fun z => absurd z (by omega)) (fun z => absurd z (by omega)) (fun z => absurd z (by omega))
        have eT : T x = T l &&& T y := by have := hJ.2.2.1 h3; rw [hL, hR] at this; exact this
        refine ⟨⟨u1, fun j hj => ?_, u3.trans q3, u4, fun z => ?_, fun z => absurd z (by omega), fun z => ?_, fun z => absurd z (by omega), fun z => absurd z (by omega)⟩, fun i r g hg hr => ?_⟩
        · obtain ⟨z1, z2, z3, z4, z5⟩ := u2 j hj
          obtain ⟨y1, y2, y3, y4, y5⟩ := q2 j hj
          exact ⟨z1.trans y1, z2.trans y2, z3.trans y3, z4.trans y4, z5.trans y5⟩
        · exact ⟨(u5 (by omega)).1.trans (q5 (by omega)).1, (u5 (by omega)).2.trans (q5 (by omega)).2⟩
        · rw [u6 rfl, q7 rfl, q4, Bool.bne_false, eT, BitVec.getLsbD_and, Bool.and_assoc]
        · obtain ⟨g, rfl⟩ : ∃ g', g = g' + 1 := ⟨g - 1, by omega⟩
          rw [ev, if_neg (by rw [h3]; decide), if_neg (by rw [h3]; decide), hL, hR, BitVec.getLsbD_or, us i (r &&& opn J L T sh x) g (by omega) ?_, qs i r g (by omega) hr, Bool.or_assoc]
          rw [BitVec.getLsbD_and, hr, opn_bit hw, if_pos (show J x = 2 from h3), hL]
          unfold gNext
          rw [q1, hd, Nat.add_sub_cancel, q3, q7 rfl, (q5 (by omega)).1]
          cases gLv s k <;> cases sh <;> cases gO s k <;> cases gA_ s k <;> cases (T l).getLsbD w <;> rfl
    · -- not
      subst h1
      have b1 := Seg_b h
      have hL : (L x).toNat = y := by rw [h5]; rfl
      have kk : gDp s - 1 = k := by rw [hd]; rfl
      rw [gRun_1 (by omega), h2]
      have e2 : gStep sh nm w 33 s = (gDp s, gSn s, gO s, gX s, gA_ s, up (gN s) (gDp s - 1) (!gN s (gDp s - 1)), gLv s) := rfl
      have dN : gN (gStep sh nm w 33 s) k = !gN s k := by rw [e2]; show up _ (gDp s - 1) _ k = _; rw [kk, up_at]
      have dF : ∀ j, j < k → gN (gStep sh nm w 33 s) j = gN s j := fun j hj => by rw [e2]; show up _ (gDp s - 1) _ j = _; rw [kk, up_ne (by omega)]
      obtain ⟨⟨u1, u2, u3, u4, u5, u6, u7, u8, u9⟩, us⟩ := go_seg hT hnm hw h (by omega) (gStep sh nm w 33 s) (by rw [e2]; exact hd) (fun z => absurd z (by omega)) (fun z => absurd z (by omega)) (fun z => absurd z (by omega))
      have eT : T x = T y ^^^ MO := by have := (hT x hx).2.1 h4; rw [hL] at this; exact this
      refine ⟨⟨u1, fun j hj => ?_, u3, u4, fun z => u5 z, fun z => ?_, fun z => absurd z (by omega), fun z => absurd z (by omega), fun z => absurd z (by omega)⟩, fun i r g hg hr => ?_⟩
      · obtain ⟨z1, z2, z3, z4, z5⟩ := u2 j hj
        exact ⟨z1, z2, z3, z4.trans (dF j hj), z5⟩
      · rw [u6 rfl, dN, eT, MO_x hw]
        show (gA_ s k && _) = _
        cases gA_ s k <;> cases (T y).getLsbD w <;> cases gN s k <;> rfl
      · obtain ⟨g, rfl⟩ : ∃ g', g = g' + 1 := ⟨g - 1, by omega⟩
        rw [ev, if_neg (by rw [h4]; decide), if_pos h4, hL]
        exact us i r g (by omega) hr
    · -- in brackets
      subst h1
      have b1 := Seg_b h
      have kk : gDp s - 1 = k := by rw [hd]; rfl
      rw [gRun_1 (by omega), h2, gRun_to (e := e) (by omega) (by omega), gRun_1 (a := e) (b := b) (by omega), show b - (e + 1) = 0 by omega, gRun, h4]
      have e2 : gStep sh nm w 40 s = gOpen (gNext sh s) s := rfl
      rw [e2]
      have o1 : gDp (gOpen (gNext sh s) s) = (k + 1) + 1 := by show gDp s + 1 = _; rw [hd]
      have oO : gO (gOpen (gNext sh s) s) (k + 1) = false := by show up _ (gDp s) _ (k + 1) = _; rw [hd, up_at]
      have oX : gX (gOpen (gNext sh s) s) (k + 1) = false := by show up _ (gDp s) _ (k + 1) = _; rw [hd, up_at]
      have oA : gA_ (gOpen (gNext sh s) s) (k + 1) = true := by show up _ (gDp s) _ (k + 1) = _; rw [hd, up_at]
      have oN : gN (gOpen (gNext sh s) s) (k + 1) = false := by show up _ (gDp s) _ (k + 1) = _; rw [hd, up_at]
      have oL : gLv (gOpen (gNext sh s) s) (k + 1) = gNext sh s := by show up _ (gDp s) _ (k + 1) = _; rw [hd, up_at]
      have oF : ∀ j, j < k + 1 → gO (gOpen (gNext sh s) s) j = gO s j ∧ gX (gOpen (gNext sh s) s) j = gX s j ∧ gA_ (gOpen (gNext sh s) s) j = gA_ s j ∧ gN (gOpen (gNext sh s) s) j = gN s j ∧ gLv (gOpen (gNext sh s) s) j = gLv s j := fun j hj => by
        have hne : j ≠ gDp s := by omega
        exact ⟨up_ne hne, up_ne hne, up_ne hne, up_ne hne, up_ne hne⟩
      have oS : gSn (gOpen (gNext sh s) s) = gSn s := rfl
      have hnx : gNext sh (gOpen (gNext sh s) s) = gNext sh s := by
        show (gLv (gOpen (gNext sh s) s) (gDp (gOpen (gNext sh s) s) - 1) && _) = _
        rw [o1, Nat.add_sub_cancel, oL, oA, oO]
        cases gNext sh s <;> cases sh <;> rfl
      generalize gOpen (gNext sh s) s = s1 at o1 oO oX oA oN oL oF oS hnx ⊢
      obtain ⟨⟨q1, q2, q3, q4, q5, q6, q7, q8, q9⟩, qs⟩ := go_seg hT hnm hw h hx s1 o1 (fun _ => oN) (fun _ => oA) (fun _ => oX)
      generalize gRun t sh nm w (e - (a + 1)) (a + 1) s1 = s2 at q1 q2 q3 q4 q5 q6 q7 q8 q9 qs ⊢
      have e3 : gStep sh nm w 41 s2 = gJoin (gO (gEndX s2) (gDp s2 - 1)) (gDp s2 - 1, (gEndX s2).2) := rfl
      have k2 : gDp s2 - 1 = k + 1 := by rw [q1]; rfl
      have vO : gO (gEndX s2) (gDp s2 - 1) = (T x).getLsbD w := by
        rw [k2]
        have : gO (gEndX s2) (k + 1) = (gO s2 (k + 1) || (gX s2 (k + 1) != gA_ s2 (k + 1))) := by show up _ (gDp s2 - 1) _ (k + 1) = _; rw [k2, up_at]; show (_ || up _ (gDp s2 - 1) _ (k + 1)) = _; rw [k2, up_at]
        rw [this, q9 rfl, oO, Bool.false_or]
      rw [vO, k2] at e3
      have fO : ∀ j, j < k + 1 → gO (gEndX s2) j = gO s j := fun j hj => by
        show up _ (gDp s2 - 1) _ j = _; rw [k2, up_ne (by omega)]; exact (q2 j hj).1.trans (oF j hj).1
      have fX : ∀ j, j < k + 1 → gX (gEndX s2) j = gX s j := fun j hj => by
        show up (up _ (gDp s2 - 1) _) (gDp s2 - 1) _ j = _; rw [k2, up_ne (by omega), up_ne (by omega)]; exact (q2 j hj).2.1.trans (oF j hj).2.1
      have fA : ∀ j, j < k + 1 → gA_ (gEndX s2) j = gA_ s j := fun j hj => by
        show up _ (gDp s2 - 1) _ j = _; rw [k2, up_ne (by omega)]; exact (q2 j hj).2.2.1.trans (oF j hj).2.2.1
      have fN : ∀ j, j < k + 1 → gN (gEndX s2) j = gN s j := fun j hj => (q2 j hj).2.2.2.1.trans (oF j hj).2.2.2.1
      have fL : ∀ j, j < k + 1 → gLv (gEndX s2) j = gLv s j := fun j hj => (q2 j hj).2.2.2.2.trans (oF j hj).2.2.2.2
      rw [e3]
      refine ⟨⟨rfl, fun j hj => ⟨fO j (by omega), fX j (by omega), ?_, ?_, fL j (by omega)⟩, fL k (by omega), ?_, fun _ => ⟨fO k (by omega), fX k (by omega)⟩, fun _ => ?_, fun z => absurd z (by omega), fun z => absurd z (by omega), fun z => absurd z (by omega)⟩, fun i r g hg hr => ?_⟩
      · show up _ (k + 1 - 1) _ j = _; rw [Nat.add_sub_cancel, up_ne (by omega)]; exact fA j (by omega)
      · show up _ (k + 1 - 1) _ j = _; rw [Nat.add_sub_cancel, up_ne (by omega)]; exact fN j (by omega)
      · show up _ (k + 1 - 1) _ k = _; rw [Nat.add_sub_cancel, up_at]
      · show up _ (k + 1 - 1) _ k = _; rw [Nat.add_sub_cancel, up_at]
        show (gA_ (gEndX s2) k && (_ != gN (gEndX s2) k)) = _
        rw [fA k (by omega), fN k (by omega)]
      · show (gSn s2).testBit i = _
        rw [qs i r g hg (by rw [hr, hnx]), oS]
    · -- a letter
      subst h1 h2 h3
      have kk : gDp s - 1 = k := by rw [hd]; rfl
      rw [show a + 1 - a = 1 by omega]
      show gPost 3 k _ s (gStep sh nm w (t a) s) ∧ ∀ (i : Nat) (r : BitVec 64) (g : Nat), c < g → r.getLsbD w = gNext sh s → (gSn (gStep sh nm w (t a) s)).testBit i = _
      have hl : (L c).toNat = (t a - 65).toNat := by rw [h7]
      have e2 : gStep sh nm w (t a) s = gJoin (w.testBit (nm (t a - 65).toNat)) (gDp s, (if gNext sh s then gSn s ||| 2 ^ nm (t a - 65).toNat else gSn s), s.2.2) := by
        unfold gStep
        rw [if_neg (by omega), if_neg (by omega), if_neg (by omega), if_neg (by omega), if_neg (by omega), if_neg (by omega)]
      have hn6 := hnm c hx h4
      rw [hl] at hn6
      have eT : (T c).getLsbD w = w.testBit (nm (t a - 65).toNat) := by rw [(hT c hx).1 h4, hl, tW_bit _ hn6 w hw]
      rw [e2, eT]
      refine ⟨⟨hd, fun j hj => ⟨rfl, rfl, ?_, ?_, rfl⟩, rfl, ?_, fun _ => ⟨rfl, rfl⟩, fun _ => ?_, fun z => absurd z (by omega), fun z => absurd z (by omega), fun z => absurd z (by omega)⟩, fun i r g hg hr => ?_⟩
      · show up _ (gDp s - 1) _ j = _; rw [kk, up_ne (by omega)]
      · show up _ (gDp s - 1) _ j = _; rw [kk, up_ne (by omega)]
      · show up _ (gDp s - 1) _ k = _; rw [kk, up_at]
      · show up _ (gDp s - 1) _ k = _; rw [kk, up_at]
      · obtain ⟨g, rfl⟩ : ∃ g', g = g' + 1 := ⟨g - 1, by omega⟩
        rw [ev, if_pos h4, hl]
        show (if gNext sh s then gSn s ||| 2 ^ nm (t a - 65).toNat else gSn s).testBit i = _
        by_cases z : nm (t a - 65).toNat = i
        · rw [if_pos z, hr]
          cases gNext sh s with
          | true => rw [if_pos rfl, Nat.testBit_or, z, Nat.testBit_two_pow_self]
          | false => rw [if_neg (by decide), Bool.or_false]
        · rw [if_neg z, show (0 : BitVec 64).getLsbD w = false from BitVec.getLsbD_zero, Bool.or_false]
          split
          · rw [Nat.testBit_or, Nat.testBit_two_pow_of_ne z, Bool.or_false]
          · rfl
end
