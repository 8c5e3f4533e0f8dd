/-! pure lemmas: text and tree -/
section
/-! the text of a decision and its tree -/
/-- the sign of a level -/
def sgn (l : Nat) : Int := if l = 0 then 124 else if l = 1 then 94 else if l = 2 then 38 else 33
/-- the text from a to b is an operand of level v, within d brackets; its nodes are c .. x, x its root -/
def Seg (t J L R : Nat → Int) : Nat → Nat → Nat → Nat → Nat → Nat → Nat → Prop
  | 0, _, _, _, _, _, _ => False
  | f + 1, v, d, a, b, c, x =>
    (v < 3 ∧ Seg t J L R f (v + 1) d a b c x) ∨
    (v < 3 ∧ ∃ e l y : Nat, x = y + 1 ∧ J x = (v : Int) ∧ R x = (y : Int) ∧ L x = (l : Int) ∧ Seg t J L R f v d a e c l ∧ t e = sgn v ∧ Seg t J L R f (v + 1) d (e + 1) b (l + 1) y) ∨
    (v = 3 ∧ t a = 33 ∧ ∃ y : Nat, x = y + 1 ∧ J x = 3 ∧ L x = (y : Int) ∧ Seg t J L R f 3 d (a + 1) b c y) ∨
    (v = 3 ∧ t a = 40 ∧ d < 6 ∧ ∃ e : Nat, b = e + 1 ∧ t e = 41 ∧ Seg t J L R f 0 (d + 1) (a + 1) e c x) ∨
    (v = 3 ∧ b = a + 1 ∧ c = x ∧ J x = 4 ∧ 65 ≤ t a ∧ t a < 73 ∧ L x = t a - 65)
theorem Seg_mono {t J L R : Nat → Int} : ∀ {f g v d a b c x : Nat}, f ≤ g → Seg t J L R f v d a b c x → Seg t J L R g v d a b c x
  | 0, _, _, _, _, _, _, _, _, h => h.elim
  | f + 1, 0, _, _, _, _, _, _, hg, _ => absurd hg (by omega)
  | f + 1, g + 1, v, d, a, b, c, x, hg, h => by
    have hg' : f ≤ g := by omega
    rcases h with ⟨h1, h⟩ | ⟨h1, e, l, y, h2, h3, h4, h5, h6, h7, h8⟩ | ⟨h1, h2, y, h3, h4, h5, h⟩ | ⟨h1, h2, h0, e, h3, h4, h⟩ | h
    · exact Or.inl ⟨h1, Seg_mono hg' h⟩
    · exact Or.inr (Or.inl ⟨h1, e, l, y, h2, h3, h4, h5, Seg_mono hg' h6, h7, Seg_mono hg' h8⟩)
    · exact Or.inr (Or.inr (Or.inl ⟨h1, h2, y, h3, h4, h5, Seg_mono hg' h⟩))
    · exact Or.inr (Or.inr (Or.inr (Or.inl ⟨h1, h2, h0, e, h3, h4, Seg_mono hg' h⟩)))
    · exact Or.inr (Or.inr (Or.inr (Or.inr h)))
theorem Seg_b {t J L R : Nat → Int} : ∀ {f v d a b c x : Nat}, Seg t J L R f v d a b c x → a < b ∧ c ≤ x ∧ x + 1 + a ≤ b + c ∧ v ≤ 3
  | 0, _, _, _, _, _, _, h => h.elim
  | f + 1, v, d, a, b, c, x, h => by
    rcases h with ⟨h1, h⟩ | ⟨h1, e, l, y, h2, h3, h4, h5, h6, h7, h8⟩ | ⟨h1, h2, y, h3, h4, h5, h⟩ | ⟨h1, h2, h0, e, h3, h4, h⟩ | ⟨h1, h2, h3, -⟩
    · have := Seg_b h; omega
    · have i1 := Seg_b h6; have i2 := Seg_b h8; omega
    · have := Seg_b h; omega
    · have := Seg_b h; omega
    · omega
/-- rows that agree on the nodes c .. x -/
theorem Seg_ext {t J L R J' L' R' : Nat → Int} : ∀ {f v d a b c x : Nat}, (∀ y, c ≤ y → y ≤ x → J' y = J y ∧ L' y = L y ∧ R' y = R y) → Seg t J L R f v d a b c x → Seg t J' L' R' f v d a b c x
  | 0, _, _, _, _, _, _, _, h => h.elim
  | f + 1, v, d, a, b, c, x, e0, h => by
    rcases h with ⟨h1, h⟩ | ⟨h1, e, l, y, h2, h3, h4, h5, h6, h7, h8⟩ | ⟨h1, h2, y, h3, h4, h5, h⟩ | ⟨h1, h2, h0, e, h3, h4, h⟩ | ⟨h1, h2, h3, h4, h5, h6, h7⟩
    · exact Or.inl ⟨h1, Seg_ext e0 h⟩
    · have i1 := Seg_b h6; have i2 := Seg_b h8
      obtain ⟨q1, q2, q3⟩ := e0 x (by omega) (Nat.le_refl _)
      exact Or.inr (Or.inl ⟨h1, e, l, y, h2, q1.trans h3, q3.trans h4, q2.trans h5, Seg_ext (fun z z1 z2 => e0 z z1 (by omega)) h6, h7, Seg_ext (fun z z1 z2 => e0 z (by omega) (by omega)) h8⟩)
    · have i := Seg_b h
      obtain ⟨q1, q2, q3⟩ := e0 x (by omega) (Nat.le_refl _)
      exact Or.inr (Or.inr (Or.inl ⟨h1, h2, y, h3, q1.trans h4, q2.trans h5, Seg_ext (fun z z1 z2 => e0 z z1 (by omega)) h⟩))
    · exact Or.inr (Or.inr (Or.inr (Or.inl ⟨h1, h2, h0, e, h3, h4, Seg_ext e0 h⟩)))
    · obtain ⟨q1, q2, q3⟩ := e0 x (by omega) (Nat.le_refl _)
      exact Or.inr (Or.inr (Or.inr (Or.inr ⟨h1, h2, h3, q1.trans h4, h5, h6, q2.trans h7⟩)))
/-- texts that agree from a to b -/
theorem Seg_txt {t t' J L R : Nat → Int} : ∀ {f v d a b c x : Nat}, (∀ p, a ≤ p → p < b → t' p = t p) → Seg t J L R f v d a b c x → Seg t' J L R f v d a b c x
  | 0, _, _, _, _, _, _, _, h => h.elim
  | f + 1, v, d, a, b, c, x, e0, h => by
    rcases h with ⟨h1, h⟩ | ⟨h1, e, l, y, h2, h3, h4, h5, h6, h7, h8⟩ | ⟨h1, h2, y, h3, h4, h5, h⟩ | ⟨h1, h2, h0, e, h3, h4, h⟩ | ⟨h1, h2, h3, h4, h5, h6, h7⟩
    · exact Or.inl ⟨h1, Seg_txt e0 h⟩
    · have i1 := Seg_b h6; have i2 := Seg_b h8
      exact Or.inr (Or.inl ⟨h1, e, l, y, h2, h3, h4, h5, Seg_txt (fun z z1 z2 => e0 z z1 (by omega)) h6, (e0 e (by omega) (by omega)).trans h7, Seg_txt (fun z z1 z2 => e0 z (by omega) z2) h8⟩)
    · have i := Seg_b h
      exact Or.inr (Or.inr (Or.inl ⟨h1, (e0 a (Nat.le_refl _) (by omega)).trans h2, y, h3, h4, h5, Seg_txt (fun z z1 z2 => e0 z (by omega) z2) h⟩))
    · have i := Seg_b h
      exact Or.inr (Or.inr (Or.inr (Or.inl ⟨h1, (e0 a (Nat.le_refl _) (by omega)).trans h2, h0, e, h3, (e0 e (by omega) (by omega)).trans h4, Seg_txt (fun z z1 z2 => e0 z (by omega) (by omega)) h⟩)))
    · have q := e0 a (Nat.le_refl _) (by omega)
      exact Or.inr (Or.inr (Or.inr (Or.inr ⟨h1, h2, h3, h4, by rw [q]; exact h5, by rw [q]; exact h6, by rw [q]; exact h7⟩)))
/-! the reference's machine -/
abbrev gS : Type := Nat × Nat × (Nat → Bool) × (Nat → Bool) × (Nat → Bool) × (Nat → Bool) × (Nat → Bool)
abbrev gDp (s : gS) : Nat := s.1
abbrev gSn (s : gS) : Nat := s.2.1
abbrev gO (s : gS) : Nat → Bool := s.2.2.1
abbrev gX (s : gS) : Nat → Bool := s.2.2.2.1
abbrev gA_ (s : gS) : Nat → Bool := s.2.2.2.2.1
abbrev gN (s : gS) : Nat → Bool := s.2.2.2.2.2.1
abbrev gLv (s : gS) : Nat → Bool := s.2.2.2.2.2.2
def up (f : Nat → Bool) (k : Nat) (v : Bool) : Nat → Bool := fun j => if j = k then v else f j
theorem up_at (f : Nat → Bool) (k : Nat) (v : Bool) : up f k v k = v := if_pos rfl
theorem up_ne {f : Nat → Bool} {k j : Nat} {v : Bool} (h : j ≠ k) : up f k v j = f j := if_neg h
def gOpen (v : Bool) (s : gS) : gS := (gDp s + 1, gSn s, up (gO s) (gDp s) false, up (gX s) (gDp s) false, up (gA_ s) (gDp s) true, up (gN s) (gDp s) false, up (gLv s) (gDp s) v)
def gNext (sh : Bool) (s : gS) : Bool := gLv s (gDp s - 1) && (!sh || (gA_ s (gDp s - 1) && !gO s (gDp s - 1)))
def gJoin (v : Bool) (s : gS) : gS := (gDp s, gSn s, gO s, gX s, up (gA_ s) (gDp s - 1) (gA_ s (gDp s - 1) && (v != gN s (gDp s - 1))), up (gN s) (gDp s - 1) false, gLv s)
def gEnd (s : gS) : gS := (gDp s, gSn s, gO s, up (gX s) (gDp s - 1) (gX s (gDp s - 1) != gA_ s (gDp s - 1)), up (gA_ s) (gDp s - 1) true, gN s, gLv s)
def gEndX (s : gS) : gS := (gDp s, gSn s, up (gO s) (gDp s - 1) (gO s (gDp s - 1) || gX (gEnd s) (gDp s - 1)), up (gX (gEnd s)) (gDp s - 1) false, gA_ (gEnd s), gN s, gLv s)
/-- one character -/
def gStep (sh : Bool) (nm : Nat → Nat) (w : Nat) (c : Int) (s : gS) : gS :=
  if c = 33 then (gDp s, gSn s, gO s, gX s, gA_ s, up (gN s) (gDp s - 1) (!gN s (gDp s - 1)), gLv s)
  else if c = 40 then gOpen (gNext sh s) s
  else if c = 41 then gJoin (gO (gEndX s) (gDp s - 1)) (gDp s - 1, (gEndX s).2)
  else if c = 94 then gEnd s
  else if c = 124 then gEndX s
  else if c = 38 then s
  else gJoin (w.testBit (nm (c - 65).toNat)) (gDp s, (if gNext sh s then gSn s ||| 2 ^ nm (c - 65).toNat else gSn s), s.2.2)
def gRun (t : Nat → Int) (sh : Bool) (nm : Nat → Nat) (w : Nat) : Nat → Nat → gS → gS
  | 0, _, s => s
  | n + 1, p, s => gRun t sh nm w n (p + 1) (gStep sh nm w (t p) s)
theorem gRun_add (t : Nat → Int) (sh : Bool) (nm : Nat → Nat) (w : Nat) : ∀ (n m p : Nat) (s : gS), gRun t sh nm w (n + m) p s = gRun t sh nm w m (p + n) (gRun t sh nm w n p s)
  | 0, m, p, s => by rw [Nat.zero_add]; rfl
  | n + 1, m, p, s => by
    rw [show n + 1 + m = (n + m) + 1 by omega, gRun, gRun_add t sh nm w n m (p + 1), gRun, show p + 1 + n = p + (n + 1) by omega]
theorem gRun_to {t : Nat → Int} {sh : Bool} {nm : Nat → Nat} {w a e b : Nat} (h1 : a ≤ e) (h2 : e ≤ b) (s : gS) : gRun t sh nm w (b - a) a s = gRun t sh nm w (b - e) e (gRun t sh nm w (e - a) a s) := by
  rw [show b - a = (e - a) + (b - e) by omega, gRun_add, show a + (e - a) = e by omega]
theorem gRun_1 {t : Nat → Int} {sh : Bool} {nm : Nat → Nat} {w a b : Nat} (h : a < b) (s : gS) : gRun t sh nm w (b - a) a s = gRun t sh nm w (b - (a + 1)) (a + 1) (gStep sh nm w (t a) s) := by
  rw [show b - a = (b - (a + 1)) + 1 by omega, gRun]
/-- the truths of the nodes: their equations -/
def TE (J L R : Nat → Int) (nm : Nat → Nat) (T : Nat → BitVec 64) (n : Nat) : Prop := ∀ x, x < n →
  (J x = 4 → T x = tW (nm (L x).toNat)) ∧ (J x = 3 → T x = T (L x).toNat ^^^ MO) ∧ (J x = 2 → T x = T (L x).toNat &&& T (R x).toNat) ∧ (J x = 1 → T x = T (L x).toNat ^^^ T (R x).toNat) ∧ (J x = 0 → T x = T (L x).toNat ||| T (R x).toNat)
/-- the words for which the part behind the sign is reached -/
def opn (J L : Nat → Int) (T : Nat → BitVec 64) (sh : Bool) (x : Nat) : BitVec 64 := if sh = false then MO else if J x = 2 then T (L x).toNat else if J x = 0 then T (L x).toNat ^^^ MO else MO
/-- the words that evaluate condition i in the node x, r those that reach it -/
def ev (J L R : Nat → Int) (nm : Nat → Nat) (T : Nat → BitVec 64) (sh : Bool) (i : Nat) : Nat → Nat → BitVec 64 → BitVec 64
  | 0, _, _ => 0
  | f + 1, x, r => if J x = 4 then (if nm (L x).toNat = i then r else 0) else if J x = 3 then ev J L R nm T sh i f (L x).toNat r else ev J L R nm T sh i f (L x).toNat r ||| ev J L R nm T sh i f (R x).toNat (r &&& opn J L T sh x)
end
