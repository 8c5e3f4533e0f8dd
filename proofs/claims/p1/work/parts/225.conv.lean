/-! the calls' facts in one, and their rows -/
section
def CVok (own : String) (idx n : Nat) (z : aY) : Prop := cdY z ∈ TB ∧ Cond.initialized z.1.cls ∈ TB ∧ MK own idx z.1 ∧ Cond.instanceMethod z.1 ∈ TB ∧ Cond.selects z.1.cls z.1 z.1 ∈ TB ∧ mhOK z.1 n ∧ z.2.2.1 ≤ 21
def CSok (own : String) (idx n : Nat) (z : aY) : Prop := cdY z ∈ TB ∧ Cond.initialized z.1.cls ∈ TB ∧ MK own idx z.1 ∧ Cond.static z.1 ∈ TB ∧ mhOK z.1 n ∧ z.2.2.1 ≤ 21
def CIok (own : String) (idx n : Nat) (z : aY) : Prop := Cond.code z.1 z.2.1 z.2.2.1 none ∈ TB ∧ cdY z ∈ TB ∧ Cond.initialized z.1.cls ∈ TB ∧ MK own idx z.1 ∧ Cond.instanceMethod z.1 ∈ TB ∧ z.1.name = "<init>" ∧ mhOK z.1 n ∧ z.2.2.1 ≤ 21
def Qe (v : Option aV) (n : Nat) (μ : aM) : aQ → Nat → aM → Prop := fun r n' μ' => r = .inl v ∧ n' = n ∧ μ' = μ
variable {G : aG} {x : Bool} {y : aY} {d bc bs : Nat} {Q : aQ → Nat → aM → Prop} {pc : Nat} {lst : List (Option aV)} {st : List aV} {nn : Nat} {μ : aM}
/-- a call whose answer and memory are known -/
theorem aw_ve {z : aY} {as rest : List aV} {v : Option aV} {n1 : Nat} {μ1 : aM} {d' idx k ci len : Nat} (hst : as.reverse ++ aP k :: rest = st) (hc : CVok y.1.cls idx as.length z) (hk : k < nn) (hq : shL[k]? = some (ci + 10, len)) (hci : (cls0[ci]?).map (fun q => q.1) = some z.1.cls) (hd : decode y.2.1 pc = .ok (.invokevirtual idx, 3))
    (h8 : ((rest.map (cv G)).map fun v => v.category).sum ≤ 8) (hd' : d' + 1 ≤ d) (hM : AM G false d' 0 0 z (aP k :: as) nn μ (Qe v n1 μ1)) (kr : AW G false y d bc bs Q (pc + 3) lst (v.toList ++ rest) n1 μ1) : AW G false y d bc bs Q pc lst st nn μ :=
  aw_callV hst hc.1 hc.2.1 hc.2.2.1 hc.2.2.2.1 hc.2.2.2.2.1 hc.2.2.2.2.2.1 hk hq hci hM hd' (Nat.zero_le _) (Nat.zero_le _) hc.2.2.2.2.2.2 h8 (fun h => by cases h) hd (fun v' n' μ' h => by obtain ⟨h1, rfl, rfl⟩ := h; cases h1; exact kr) (fun E n' μ' h => by cases h.1)
theorem aw_se {z : aY} {as rest : List aV} {v : Option aV} {n1 : Nat} {μ1 : aM} {d' idx : Nat} (hst : as.reverse ++ rest = st) (hc : CSok y.1.cls idx as.length z) (hd : decode y.2.1 pc = .ok (.invokestatic idx, 3))
    (h8 : ((rest.map (cv G)).map fun v => v.category).sum ≤ 8) (hd' : d' + 1 ≤ d) (hM : AM G false d' 0 0 z as nn μ (Qe v n1 μ1)) (kr : AW G false y d bc bs Q (pc + 3) lst (v.toList ++ rest) n1 μ1) : AW G false y d bc bs Q pc lst st nn μ :=
  aw_callS hst hc.1 hc.2.1 hc.2.2.1 hc.2.2.2.1 hc.2.2.2.2.1 hM hd' (Nat.zero_le _) (Nat.zero_le _) hc.2.2.2.2.2 h8 (fun h => by cases h) hd (fun v' n' μ' h => by obtain ⟨h1, rfl, rfl⟩ := h; cases h1; exact kr) (fun E n' μ' h => by cases h.1)
/-- .. of which something is known -/
theorem aw_vn {z : aY} {as rest : List aV} {P : Option aV → Nat → aM → Prop} {d' idx k ci len : Nat} (hst : as.reverse ++ aP k :: rest = st) (hc : CVok y.1.cls idx as.length z) (hk : k < nn) (hq : shL[k]? = some (ci + 10, len)) (hci : (cls0[ci]?).map (fun q => q.1) = some z.1.cls) (hd : decode y.2.1 pc = .ok (.invokevirtual idx, 3))
    (h8 : ((rest.map (cv G)).map fun v => v.category).sum ≤ 8) (hd' : d' + 1 ≤ d) (hM : AM G false d' 0 0 z (aP k :: as) nn μ (Qn P)) (kr : ∀ v n1 μ1, P v n1 μ1 → AW G false y d bc bs Q (pc + 3) lst (v.toList ++ rest) n1 μ1) : AW G false y d bc bs Q pc lst st nn μ :=
  aw_callV hst hc.1 hc.2.1 hc.2.2.1 hc.2.2.2.1 hc.2.2.2.2.1 hc.2.2.2.2.2.1 hk hq hci hM hd' (Nat.zero_le _) (Nat.zero_le _) hc.2.2.2.2.2.2 h8 (fun h => by cases h) hd (fun v' n' μ' h => kr v' n' μ' h) (fun E n' μ' h => h.elim)
/-- a call that may throw, in a method without handlers here -/
theorem aw_vx {z : aY} {as rest : List aV} {Q' : aQ → Nat → aM → Prop} {d' bc' bs' idx k ci len : Nat} (hst : as.reverse ++ aP k :: rest = st) (hc : CVok y.1.cls idx as.length z) (hk : k < nn) (hq : shL[k]? = some (ci + 10, len)) (hci : (cls0[ci]?).map (fun q => q.1) = some z.1.cls) (hd : decode y.2.1 pc = .ok (.invokevirtual idx, 3))
    (h8 : ((rest.map (cv G)).map fun v => v.category).sum ≤ 8) (hd' : d' + 1 ≤ d) (hbc : bc' ≤ bc) (hbs : bs' ≤ bs) (hM : AM G false d' bc' bs' z (aP k :: as) nn μ Q') (kr : ∀ v n1 μ1, Q' (.inl v) n1 μ1 → AW G false y d (bc - bc') (bs - bs') Q (pc + 3) lst (v.toList ++ rest) n1 μ1) (kt : ∀ E n1 μ1, Q' (.inr E) n1 μ1 → AT G false y d (bc - bc') (bs - bs') Q pc lst rest n1 μ1 E) : AW G false y d bc bs Q pc lst st nn μ :=
  aw_callV hst hc.1 hc.2.1 hc.2.2.1 hc.2.2.2.1 hc.2.2.2.2.1 hc.2.2.2.2.2.1 hk hq hci hM hd' hbc hbs hc.2.2.2.2.2.2 h8 (fun h => by cases h) hd kr kt
theorem aw_sx {z : aY} {as rest : List aV} {Q' : aQ → Nat → aM → Prop} {d' bc' bs' idx : Nat} (hst : as.reverse ++ rest = st) (hc : CSok y.1.cls idx as.length z) (hd : decode y.2.1 pc = .ok (.invokestatic idx, 3))
    (h8 : ((rest.map (cv G)).map fun v => v.category).sum ≤ 8) (hd' : d' + 1 ≤ d) (hbc : bc' ≤ bc) (hbs : bs' ≤ bs) (hM : AM G false d' bc' bs' z as nn μ Q') (kr : ∀ v n1 μ1, Q' (.inl v) n1 μ1 → AW G false y d (bc - bc') (bs - bs') Q (pc + 3) lst (v.toList ++ rest) n1 μ1) (kt : ∀ E n1 μ1, Q' (.inr E) n1 μ1 → AT G false y d (bc - bc') (bs - bs') Q pc lst rest n1 μ1 E) : AW G false y d bc bs Q pc lst st nn μ :=
  aw_callS hst hc.1 hc.2.1 hc.2.2.1 hc.2.2.2.1 hc.2.2.2.2.1 hM hd' hbc hbs hc.2.2.2.2.2 h8 (fun h => by cases h) hd kr kt
/-- a constructor, while cells are made -/
theorem aw_ie {z : aY} {as rest : List aV} {n1 : Nat} {μ1 : aM} {d' bc' bs' idx k : Nat} (hst : as.reverse ++ aP k :: rest = st) (hc : CIok y.1.cls idx as.length z) (hd : decode y.2.1 pc = .ok (.invokespecial idx, 3))
    (h8 : ((rest.map (cv G)).map fun v => v.category).sum ≤ 8) (hd' : d' + 1 ≤ d) (hbc : bc' ≤ bc) (hbs : bs' ≤ bs) (hn : n1 = nn + bc') (hM : AM G x d' bc' bs' z (aP k :: as) nn μ (Qe none n1 μ1)) (kr : AW G x y d (bc - bc') (bs - bs') Q (pc + 3) lst rest n1 μ1) : AW G x y d bc bs Q pc lst st nn μ :=
  aw_callI hst hc.1 hc.2.1 hc.2.2.1 hc.2.2.2.1 hc.2.2.2.2.1 hc.2.2.2.2.2.1 hc.2.2.2.2.2.2.1 hM hd' hbc hbs hc.2.2.2.2.2.2.2 h8 (fun _ r n' μ' h => by rw [h.2.1]; exact hn) hd (fun v' n' μ' h => by obtain ⟨h1, rfl, rfl⟩ := h; cases h1; exact kr) (fun E n' μ' h => by cases h.1)
end
