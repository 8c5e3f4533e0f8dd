/-! the count of a long's bits -/
section
def cnt : Nat → Nat → Nat
  | 0, _ => 0
  | k + 1, x => x % 2 + cnt k (x / 2)
theorem cnt_add : ∀ (a b x : Nat), cnt (a + b) x = cnt a (x % 2 ^ a) + cnt b (x / 2 ^ a)
  | 0, b, x => by simp [cnt]
  | a + 1, b, x => by
    have e : a + 1 + b = (a + b) + 1 := by omega
    rw [e, cnt, cnt, cnt_add a b (x / 2)]
    have h1 : x % 2 ^ (a + 1) % 2 = x % 2 := by rw [Nat.pow_succ, Nat.mul_comm, Nat.mod_mul_right_mod]
    have h2 : x % 2 ^ (a + 1) / 2 = x / 2 % 2 ^ a := by rw [Nat.pow_succ, Nat.mul_comm, Nat.mod_mul_right_div_self]
    have h3 : x / 2 / 2 ^ a = x / 2 ^ (a + 1) := by rw [Nat.div_div_eq_div_mul, Nat.pow_succ, Nat.mul_comm]
    rw [h1, h2, h3]
    omega
def by_ (φ : Nat → Nat) : Nat → Nat → Nat
  | 0, _ => 0
  | k + 1, x => φ (x % 256) + 256 * by_ φ k (x / 256)
def msk (m : Nat) : Nat → Nat
  | 0 => 0
  | k + 1 => m + 256 * msk m k
theorem and_split (a b : Nat) : a &&& b = (a % 256 &&& b % 256) + 256 * (a / 256 &&& b / 256) := by
  have h1 : (a &&& b) % 256 = a % 256 &&& b % 256 := Nat.and_mod_two_pow (n := 8)
  have h2 : (a &&& b) / 256 = a / 256 &&& b / 256 := Nat.and_div_two_pow (n := 8)
  omega
theorem msk_mod {m : Nat} (hm : m < 256) (k : Nat) : msk m (k + 1) % 256 = m ∧ msk m (k + 1) / 256 = msk m k := by
  rw [msk]; omega
theorem and_msk {m : Nat} (hm : m < 256) : ∀ (k x : Nat), x &&& msk m (k + 1) = (x % 256 &&& m) + 256 * (x / 256 &&& msk m k) := fun k x => by
  rw [and_split, (msk_mod hm k).1, (msk_mod hm k).2]
theorem t_55 : ∀ r, r < 256 → ∀ e, e < 2 → (r / 2 + 128 * e) &&& 85 = r / 2 &&& 85 := by decide +kernel
theorem t_55l : ∀ r, r < 256 → r / 2 &&& 85 ≤ r := by decide +kernel
theorem t_33 : ∀ r, r < 256 → ∀ e, e < 4 → (r / 4 + 64 * e) &&& 51 = r / 4 &&& 51 := by decide +kernel
theorem st1 : ∀ (k x : Nat), x < 256 ^ k → (x / 2) &&& msk 85 k ≤ x ∧ x - ((x / 2) &&& msk 85 k) = by_ (fun r => r - (r / 2 &&& 85)) k x
  | 0, x, h => by
    have : x = 0 := by rw [Nat.pow_zero] at h; omega
    subst this; exact ⟨Nat.zero_le _, rfl⟩
  | k + 1, x, h => by
    have hx : x / 256 < 256 ^ k := by rw [Nat.pow_succ] at h; omega
    obtain ⟨i1, i2⟩ := st1 k (x / 256) hx
    have e1 : x / 2 % 256 = x % 256 / 2 + 128 * (x / 256 % 2) := by omega
    have e2 : x / 2 / 256 = x / 256 / 2 := by omega
    have e3 := t_55 (x % 256) (by omega) (x / 256 % 2) (by omega)
    have e4 := t_55l (x % 256) (by omega)
    rw [and_msk (by omega), e1, e2, e3]
    rw [by_, ← i2]
    generalize (x / 256 / 2 &&& msk 85 k) = u at i1 ⊢
    generalize (x % 256 / 2 &&& 85) = v at e4 ⊢
    omega
theorem st2 : ∀ (k x : Nat), x < 256 ^ k → (x &&& msk 51 k) + ((x / 4) &&& msk 51 k) = by_ (fun r => (r &&& 51) + (r / 4 &&& 51)) k x
  | 0, x, h => by
    have : x = 0 := by rw [Nat.pow_zero] at h; omega
    subst this; rfl
  | k + 1, x, h => by
    have hx : x / 256 < 256 ^ k := by rw [Nat.pow_succ] at h; omega
    have i2 := st2 k (x / 256) hx
    have e1 : x / 4 % 256 = x % 256 / 4 + 64 * (x / 256 % 4) := by omega
    have e2 : x / 4 / 256 = x / 256 / 4 := by omega
    have e3 := t_33 (x % 256) (by omega) (x / 256 % 4) (by omega)
    rw [and_msk (by omega), and_msk (by omega), e1, e2, e3, by_, ← i2]
    omega
theorem by_comp {φ ψ : Nat → Nat} (hφ : ∀ r, r < 256 → φ r < 256) : ∀ (k x : Nat), by_ ψ k (by_ φ k x) = by_ (fun r => ψ (φ r)) k x
  | 0, x => rfl
  | k + 1, x => by
    have h1 := hφ (x % 256) (by omega)
    rw [by_, by_, by_]
    have e1 : (φ (x % 256) + 256 * by_ φ k (x / 256)) % 256 = φ (x % 256) := by omega
    have e2 : (φ (x % 256) + 256 * by_ φ k (x / 256)) / 256 = by_ φ k (x / 256) := by omega
    rw [e1, e2, by_comp hφ k (x / 256)]
theorem by_lt {φ : Nat → Nat} (hφ : ∀ r, r < 256 → φ r < 256) : ∀ (k x : Nat), by_ φ k x < 256 ^ k
  | 0, x => by rw [by_, Nat.pow_zero]; omega
  | k + 1, x => by
    have h1 := hφ (x % 256) (by omega)
    have h2 := by_lt hφ k (x / 256)
    rw [by_, Nat.pow_succ]
    omega
theorem by_ext {φ ψ : Nat → Nat} (h : ∀ r, r < 256 → φ r = ψ r) : ∀ (k x : Nat), by_ φ k x = by_ ψ k x
  | 0, x => rfl
  | k + 1, x => by rw [by_, by_, h _ (by omega), by_ext h k]
def g2 (r : Nat) : Nat := (r - (r / 2 &&& 85) &&& 51) + ((r - (r / 2 &&& 85)) / 4 &&& 51)
theorem g2_lt : ∀ r, r < 256 → g2 r % 16 ≤ 4 ∧ g2 r ≤ 68 := by decide +kernel
theorem g1_lt : ∀ r, r < 256 → r - (r / 2 &&& 85) < 256 := by decide +kernel
theorem and15 : ∀ r, r < 256 → r &&& 15 = r % 16 := by decide +kernel
theorem g2_m : ∀ (k x : Nat), by_ g2 k x % 16 ≤ 4
  | 0, x => by rw [by_]; omega
  | k + 1, x => by
    have := g2_lt (x % 256) (by omega)
    rw [by_]; omega
theorem st3 : ∀ (k x : Nat), (by_ g2 k x + by_ g2 k x / 16) &&& msk 15 k = by_ (fun r => (g2 r + g2 r / 16) % 16) k x
  | 0, x => by simp only [by_, msk]; rfl
  | k + 1, x => by
    have h1 := g2_lt (x % 256) (by omega)
    have h2 := g2_m k (x / 256)
    have i := st3 k (x / 256)
    rw [by_, by_, ← i, and_msk (by omega)]
    generalize by_ g2 k (x / 256) = Y at h2 ⊢
    generalize g2 (x % 256) = v at h1 ⊢
    have e0 : (v + 256 * Y) / 16 = v / 16 + 16 * Y := by omega
    have e1 : (v + 256 * Y + (v / 16 + 16 * Y)) % 256 = v + v / 16 + 16 * (Y % 16) := by omega
    have e2 : (v + 256 * Y + (v / 16 + 16 * Y)) / 256 = Y + Y / 16 := by omega
    rw [e0, e1, e2, and15 _ (by omega)]
    have e3 : (v + v / 16 + 16 * (Y % 16)) % 16 = (v + v / 16) % 16 := by omega
    rw [e3]
theorem g3 : ∀ r, r < 256 → (g2 r + g2 r / 16) % 16 = cnt 8 r := by decide +kernel
theorem c8_le : ∀ r, r < 256 → cnt 8 r ≤ 8 := by decide +kernel
theorem dv {c m Y : Nat} (h : c < m) : (c + m * Y) / m = Y := by
  rw [Nat.add_mul_div_left _ _ (by omega), Nat.div_eq_of_lt h, Nat.zero_add]
theorem s4a (p0 p1 p2 p3 p4 p5 p6 p7 : Nat) : p0 + 256 * (p1 + 256 * (p2 + 256 * (p3 + 256 * (p4 + 256 * (p5 + 256 * (p6 + 256 * p7)))))) + (p1 + 256 * (p2 + 256 * (p3 + 256 * (p4 + 256 * (p5 + 256 * (p6 + 256 * p7)))))) =
    ((p0 + p1) + 256 * (p1 + p2)) + 65536 * ((p2 + p3) + 256 * ((p3 + p4) + 256 * ((p4 + p5) + 256 * ((p5 + p6) + 256 * ((p6 + p7) + 256 * p7))))) := by omega
theorem s4b (p0 p1 p2 p3 p4 p5 p6 p7 : Nat) : ((p0 + p1) + 256 * (p1 + p2)) + 65536 * ((p2 + p3) + 256 * ((p3 + p4) + 256 * ((p4 + p5) + 256 * ((p5 + p6) + 256 * ((p6 + p7) + 256 * p7))))) + ((p2 + p3) + 256 * ((p3 + p4) + 256 * ((p4 + p5) + 256 * ((p5 + p6) + 256 * ((p6 + p7) + 256 * p7))))) =
    ((p0 + p1 + p2 + p3) + 256 * (p1 + p2 + p3 + p4) + 65536 * (p2 + p3 + p4 + p5) + 16777216 * (p3 + p4 + p5 + p6)) + 4294967296 * ((p4 + p5 + p6 + p7) + 256 * ((p5 + p6 + p7) + 256 * ((p6 + p7) + 256 * p7))) := by omega
theorem s4c (p0 p1 p2 p3 p4 p5 p6 p7 : Nat) : ((p0 + p1 + p2 + p3) + 256 * (p1 + p2 + p3 + p4) + 65536 * (p2 + p3 + p4 + p5) + 16777216 * (p3 + p4 + p5 + p6)) + 4294967296 * ((p4 + p5 + p6 + p7) + 256 * ((p5 + p6 + p7) + 256 * ((p6 + p7) + 256 * p7))) + ((p4 + p5 + p6 + p7) + 256 * ((p5 + p6 + p7) + 256 * ((p6 + p7) + 256 * p7))) =
    (p0 + p1 + p2 + p3 + p4 + p5 + p6 + p7) + 128 * (2 * (p1 + p2 + p3 + p4) + 512 * (p2 + p3 + p4 + p5) + 131072 * (p3 + p4 + p5 + p6) + 33554432 * ((p4 + p5 + p6 + p7) + 256 * ((p5 + p6 + p7) + 256 * ((p6 + p7) + 256 * p7))) + 2 * ((p5 + p6 + p7) + 256 * ((p6 + p7) + 256 * p7))) := by omega
/-- bytes of at most 8 added up -/
theorem st4 {p0 p1 p2 p3 p4 p5 p6 p7 : Nat} (h0 : p0 ≤ 8) (h1 : p1 ≤ 8) (h2 : p2 ≤ 8) (h3 : p3 ≤ 8) (h4 : p4 ≤ 8) (h5 : p5 ≤ 8) (h6 : p6 ≤ 8) (h7 : p7 ≤ 8) {y i4 i5 i6 : Nat}
    (hy : y = p0 + 256 * (p1 + 256 * (p2 + 256 * (p3 + 256 * (p4 + 256 * (p5 + 256 * (p6 + 256 * p7))))))) (e4 : i4 = y + y / 256) (e5 : i5 = i4 + i4 / 65536) (e6 : i6 = i5 + i5 / 4294967296) : i6 % 128 = p0 + p1 + p2 + p3 + p4 + p5 + p6 + p7 ∧ i6 < 2 ^ 64 ∧ i5 < 2 ^ 64 ∧ i4 < 2 ^ 64 := by
  subst hy
  rw [dv (by omega), s4a] at e4
  subst e4
  rw [dv (by omega), s4b] at e5
  subst e5
  rw [dv (by omega)] at e6
  have e7 := e6.trans (s4c p0 p1 p2 p3 p4 p5 p6 p7)
  refine ⟨by rw [e7, Nat.add_mul_mod_self_left, Nat.mod_eq_of_lt (by omega)], by rw [e6]; omega, by omega, by omega⟩
end
