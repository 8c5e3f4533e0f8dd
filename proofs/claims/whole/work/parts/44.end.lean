/-! the entry -/
section
def R_law : String := "MaskedCausesLaw"
def lw_P (b : Addr) (xs : List Int32) (args : Array Value) (s : State) : Prop := args = #[.ref b] ∧ s.IntsAt b xs ∧ xs.length ≤ 2560 ∧ (Jvm.Cond.and given_1 narrow_1).before args s = true
def lw_Q (_ : Array Value) (s : State) (o : Outcome) (t : State) : Prop := o = .returned (some (.int 1)) ∧ Framed s o t [] 601024 7293034
def lw_Z (below : List Frame) (a : Array Value) (s : State) : State → Prop := fun t => ∃ o, t.status = .running ∧ Ended t below o ∧ lw_Q a s o t
def lw_At (p : Program) (s : State) (m : MethodId) (meth : Method) (c : Code) (b L : Nat) (xs : Nat → Int32) : Prop :=
  p.tables.exec = Jvm.exec ∧ c.code = code ∧ meth.sig.returnType = ret ∧ c.maxLocals = 7 ∧ s.vm.findClass R_law = some m.cls ∧ (∀ w ∈ lw_tbl, w.before #[Value.ref b] s = true) ∧ va_X b L xs s s.heap ∧ b < s.heap.size ∧ meth.locks = false ∧ (Jvm.Cond.and given_1 narrow_1).before #[Value.ref b] s = true
theorem arr_p {s : State} {args : Array Value} {ty : FieldType} (h : (Cond.arrayClass ty).before args s = true) (hty : ∀ C, ty ≠ .object C) : ∃ c : ClassId, ArrOfT s c ty ∧ va_RA s c ty := by
  obtain ⟨c, k, comp, h1, h2, h3⟩ := Cond.arrayClass_spec h
  refine ⟨c, fun N z => ⟨(fun k h => by cases h), k, h2, comp, h3⟩, ?_⟩
  cases ty <;> first | exact h1 | exact absurd rfl (hty _)
theorem arr_d {s : State} {args : Array Value} {C : String} (h : (Cond.arrayOver (.object C)).before args s = true) : ∃ c : ClassId, ArrOfT s c (.object C) ∧ va_RA s c (.object C) := by
  obtain ⟨comp, c, k, h1, -, h2, h3, h4⟩ := Cond.arrayOver_spec h
  exact ⟨c, fun N z => ⟨(fun k h => by cases h), k, h2, comp, h3⟩, k, comp, h2, h3, h1, h4⟩
theorem arr_a {s : State} {args : Array Value} (h : (Cond.arrayOver (.array .int)).before args s = true) : ∃ c : ClassId, ArrOfT s c (.array .int) ∧ va_RA s c (.array .int) := by
  obtain ⟨comp, c, k, h1, -, h2, h3, h4⟩ := arrayOverA_spec h
  exact ⟨c, fun N z => ⟨(fun k h => by cases h), k, h2, comp, h3⟩, h4⟩
theorem cas_of {E : Nat} {s : State} {args : Array Value} (h : (Cond.castable (exN E) (exN E)).before args s = true) : casX E s := by
  simp only [Cond.before, Cond.holds, Cond.value] at h
  cases h1 : s.vm.findClass (exN E) with
  | none => simp [h1] at h
  | some c =>
    simp only [h1] at h
    refine ⟨c, h1, ?_⟩
    simpa using h
theorem same_old {s t : State} {Lc : List Loc} {a b : Nat} (h : s.sameButNew t Lc a b) (hq : ∀ q ∈ Lc, s.heap.size ≤ q.base) : s.sameButNew t [] a b := by
  obtain ⟨h1, h2, h3, h4, h5, h6⟩ := h
  refine ⟨h1, h2, h3, h4, h5, fun k c hc => ?_⟩
  obtain ⟨c', e1, e2, e3, e4⟩ := h6 k c hc
  refine ⟨c', e1, e2, e3, fun i _ => e4 i (fun hm => ?_)⟩
  have g1 := hq _ hm
  have g2 := (Array.getElem?_eq_some_iff.mp hc).1
  have g3 : s.heap.size ≤ k := g1
  omega
theorem cls_of {s : State} {args : Array Value} (hTB : ∀ w ∈ TB, w.before args s = true) : ∀ c : Nat, ∃ z : ClassId × (Nat → Nat), ∀ q : vw_C, cls0[c]? = some q → u_Kn s q.1 q.2.1 q.2.2 z.1 z.2
  | 0 => by
    obtain ⟨cC, iS, h⟩ := u_known (ws := TB) hTB ino_MC (hTB _ it_MC)
    exact ⟨(cC, iS), fun q hq => by have h9 := Option.some.inj hq; subst h9; exact h⟩
  | 1 => by
    obtain ⟨cC, iS, h⟩ := u_known (ws := TB) hTB ino_In (hTB _ it_In)
    exact ⟨(cC, iS), fun q hq => by have h9 := Option.some.inj hq; subst h9; exact h⟩
  | 2 => by
    obtain ⟨cC, iS, h⟩ := u_known (ws := TB) hTB ino_Co (hTB _ it_Co)
    exact ⟨(cC, iS), fun q hq => by have h9 := Option.some.inj hq; subst h9; exact h⟩
  | 3 => by
    obtain ⟨cC, iS, h⟩ := u_known (ws := TB) hTB ino_Li (hTB _ it_Li)
    exact ⟨(cC, iS), fun q hq => by have h9 := Option.some.inj hq; subst h9; exact h⟩
  | 4 => by
    obtain ⟨cC, iS, h⟩ := u_known (ws := TB) hTB ino_Tr (hTB _ it_Tr)
    exact ⟨(cC, iS), fun q hq => by have h9 := Option.some.inj hq; subst h9; exact h⟩
  | 5 => by
    obtain ⟨cC, iS, h⟩ := u_known (ws := TB) hTB ino_Re (hTB _ it_Re)
    exact ⟨(cC, iS), fun q hq => by have h9 := Option.some.inj hq; subst h9; exact h⟩
  | 6 => by
    obtain ⟨cC, iS, h⟩ := u_known (ws := TB) hTB ino_De (hTB _ it_De)
    exact ⟨(cC, iS), fun q hq => by have h9 := Option.some.inj hq; subst h9; exact h⟩
  | 7 => by
    obtain ⟨cC, iS, h⟩ := u_known (ws := TB) hTB ino_Wa (hTB _ it_Wa)
    exact ⟨(cC, iS), fun q hq => by have h9 := Option.some.inj hq; subst h9; exact h⟩
  | 8 => by
    obtain ⟨cC, iS, h⟩ := u_known (ws := TB) hTB ino_Su (hTB _ it_Su)
    exact ⟨(cC, iS), fun q hq => by have h9 := Option.some.inj hq; subst h9; exact h⟩
  | 9 => by
    obtain ⟨cC, iS, h⟩ := u_known (ws := TB) hTB ino_Fe (hTB _ it_Fe)
    exact ⟨(cC, iS), fun q hq => by have h9 := Option.some.inj hq; subst h9; exact h⟩
  | 10 => by
    obtain ⟨cC, iS, h⟩ := u_known (ws := TB) hTB ino_Rc (hTB _ it_Rc)
    exact ⟨(cC, iS), fun q hq => by have h9 := Option.some.inj hq; subst h9; exact h⟩
  | 11 => by
    obtain ⟨cC, iS, h⟩ := u_known (ws := TB) hTB ino_Mo (hTB _ it_Mo)
    exact ⟨(cC, iS), fun q hq => by have h9 := Option.some.inj hq; subst h9; exact h⟩
  | n + 12 => ⟨(0, fun _ => 0), fun q hq => by
    have h9 : cls0[n + 12]? = none := List.getElem?_eq_none (Nat.le_add_left 12 n)
    rw [h9] at hq; cases hq⟩
theorem sc_of {s : State} {args : Array Value} {t : Term} {A : Nat → Prop} (hex : (Cond.exactly t "java/lang/String").before args s = true) (hco : (Cond.eq (.field t "java/lang/String" "coder" "B") (.int 0)).before args s = true) (har : (Cond.arrayOf (.field t "java/lang/String" "value" "[B") .byte).before args s = true) (hle : (Cond.eq (.length (.field t "java/lang/String" "value" "[B")) (.int (Int32.ofNat 4))).before args s = true)
    (hel : ∀ j : Nat, j < 4 → (Cond.eq (.elem (.field t "java/lang/String" "value" "[B") (.int (Int32.ofNat j))) (.int (scB.getD j 0))).before args s = true) (hA : ∀ a : Nat, a < s.heap.size → ¬ A a) : ∃ k v, t.eval args s none [] s = some (.ref k) ∧ SCx k v A s s.heap := by
  obtain ⟨a, c, cA, kA, q1, q2, q3, q4, q5, q6, -⟩ := Cond.exactly_spec (args := args) (first := s) (o := none) (s := s) (idx := []) (t := t) (cls := "java/lang/String") hex
  obtain ⟨v, ht, hT⟩ := va_Tof (f := fun j => .int (scB.getD j 0)) (A := A) (by decide) har (va_eqt hle) (fun j hj => va_eqt (hel j hj)) hA
  exact ⟨a, v, q1, ⟨cA, q3, q5, by rw [q6]; exact q2, hA a (Array.getElem?_eq_some_iff.mp q3).1⟩, vk_OFof q1 (va_eqt hco) hA, vk_OFof q1 ht hA, hT⟩
theorem str_of {s : State} {b : Nat} (hts : ∀ w ∈ lw_tbl, w.before #[Value.ref b] s = true) (hgv : (Jvm.Cond.and given_1 narrow_1).before #[Value.ref b] s = true) : ∃ q1 v1 q2 v2 fo : Nat, vk_R "MaskedCauses$Reader" 52 "|^&!" q1 s ∧ vk_R "MaskedCauses$Tree" 78 "|^&!" q2 s ∧ SCx q1 v1 (fun q => s.heap.size ≤ q) s s.heap ∧ SCx q2 v2 (fun q => s.heap.size ≤ q) s s.heap ∧ va_Z "java/lang/String" "COMPACT_STRINGS" "Z" (.int 1) (fun q => s.heap.size ≤ q) s s.heap ∧ (va_Z "jdk/internal/util/Preconditions" "SIOOBE_FORMATTER" "Ljava/util/function/BiFunction;" (.ref fo) (fun q => s.heap.size ≤ q) s s.heap ∨ va_Z "jdk/internal/util/Preconditions" "SIOOBE_FORMATTER" "Ljava/util/function/BiFunction;" .null (fun q => s.heap.size ≤ q) s s.heap) := by
  have hs := flat_of_before _ hgv
  have hA : ∀ a : Nat, a < s.heap.size → ¬ (s.heap.size ≤ a) := fun a h1 h2 => by omega
  obtain ⟨q1, v1, e1, h1⟩ := sc_of (A := fun q => s.heap.size ≤ q) (t := .string "MaskedCauses$Reader" 52) (hs _ (by decide +kernel)) (hs _ (by decide +kernel)) (hs _ (by decide +kernel)) (hs _ (by decide +kernel)) (fun j hj => match j, hj with
    | 0, _ => hs _ (by decide +kernel)
    | 1, _ => hs _ (by decide +kernel)
    | 2, _ => hs _ (by decide +kernel)
    | 3, _ => hs _ (by decide +kernel)
    | j + 4, h => absurd h (by omega)) hA
  obtain ⟨q2, v2, e2, h2⟩ := sc_of (A := fun q => s.heap.size ≤ q) (t := .string "MaskedCauses$Tree" 78) (hs _ (by decide +kernel)) (hs _ (by decide +kernel)) (hs _ (by decide +kernel)) (hs _ (by decide +kernel)) (fun j hj => match j, hj with
    | 0, _ => hs _ (by decide +kernel)
    | 1, _ => hs _ (by decide +kernel)
    | 2, _ => hs _ (by decide +kernel)
    | 3, _ => hs _ (by decide +kernel)
    | j + 4, h => absurd h (by omega)) hA
  have hZ := va_Zof (A := fun q => s.heap.size ≤ q) (v := .int 1) (hts (.laysStatic "java/lang/String" "COMPACT_STRINGS" "Z") (by decide +kernel)) (hts (.initialized "java/lang/String") (by decide +kernel)) (va_eqt (hs _ (by decide +kernel))) hA
  have hr : (Cond.isRef (.static "jdk/internal/util/Preconditions" "SIOOBE_FORMATTER" "Ljava/util/function/BiFunction;")).before #[Value.ref b] s = true := hs _ (by decide +kernel)
  have hl : (Cond.laysStatic "jdk/internal/util/Preconditions" "SIOOBE_FORMATTER" "Ljava/util/function/BiFunction;").before #[Value.ref b] s = true := hts _ (by decide +kernel)
  have hi9 : (Cond.initialized "jdk/internal/util/Preconditions").before #[Value.ref b] s = true := hts _ (by decide +kernel)
  have hv9 : (∃ a, (Term.static "jdk/internal/util/Preconditions" "SIOOBE_FORMATTER" "Ljava/util/function/BiFunction;").eval #[Value.ref b] s none [] s = some (.ref a)) ∨ (Term.static "jdk/internal/util/Preconditions" "SIOOBE_FORMATTER" "Ljava/util/function/BiFunction;").eval #[Value.ref b] s none [] s = some .null := by
    simp only [Cond.before, Cond.holds, Cond.value] at hr
    cases he : (Term.static "jdk/internal/util/Preconditions" "SIOOBE_FORMATTER" "Ljava/util/function/BiFunction;").eval #[Value.ref b] s none [] s with
    | none => rw [he] at hr; simp at hr
    | some v =>
      rw [he] at hr
      cases v with
      | ref a => exact Or.inl ⟨a, rfl⟩
      | null => exact Or.inr rfl
      | _ => simp [Value.isRef] at hr
  rcases hv9 with ⟨a, ha⟩ | ha
  · exact ⟨q1, v1, q2, v2, a, vk_R.of (hts _ (by decide +kernel)) e1, vk_R.of (hts _ (by decide +kernel)) e2, h1, h2, hZ, Or.inl (va_Zof hl hi9 ha hA)⟩
  · exact ⟨q1, v1, q2, v2, 0, vk_R.of (hts _ (by decide +kernel)) e1, vk_R.of (hts _ (by decide +kernel)) e2, h1, h2, hZ, Or.inr (va_Zof hl hi9 ha hA)⟩
set_option maxHeartbeats 4000000 in
theorem env_of {l : Launch} (htr : l.stackTraces = false) {s : State} {b n : Nat} {xs : Nat → Int32} (hn : n ≤ 2560) (hts : ∀ w ∈ lw_tbl, w.before #[Value.ref b] s = true) (hX : va_X b n xs s s.heap) (hbl : b < s.heap.size) (hgv : (Jvm.Cond.and given_1 narrow_1).before #[Value.ref b] s = true) :
    ∃ G : aG, gl G = l ∧ gb G = s.heap.size ∧ go G 0 = b ∧ gn G = n ∧ KX G s := by
  have hTB : ∀ w ∈ TB, w.before #[Value.ref b] s = true := fun w h => hts w (List.mem_filter.mp h).1
  have ht1 : ∀ w ∈ tables_1, w.before #[Value.ref b] s = true := fun w h => hts w (List.mem_append_right _ h)
  have hs := flat_of_before _ hgv
  have hA : ∀ a : Nat, a < s.heap.size → ¬ (s.heap.size ≤ a) := fun a h1 h2 => by omega
  obtain ⟨f, hf⟩ := Classical.axiomOfChoice (cls_of hTB)
  obtain ⟨c0, h0⟩ := arr_p (hTB _ ac_int) (fun C h => by cases h)
  obtain ⟨c1, h1⟩ := arr_p (hTB _ ac_long) (fun C h => by cases h)
  obtain ⟨c2, h2⟩ := arr_p (hTB _ ac_char) (fun C h => by cases h)
  obtain ⟨c3, h3⟩ := arr_p (hTB _ ac_boolean) (fun C h => by cases h)
  obtain ⟨c4, h4⟩ := arr_d (ht1 _ ao_d)
  obtain ⟨c5, h5⟩ := arr_a (ht1 _ ao_i)
  have hel : ∀ j : Nat, j < 6 → (Term.elem (.static "MaskedCauses" "TRUE_WORDS" "[J") (.int (Int32.ofNat j))).eval #[Value.ref b] s none [] s = some (twV j) := fun j hj => match j, hj with
    | 0, _ => va_eqtl (hs _ (by decide +kernel))
    | 1, _ => va_eqtl (hs _ (by decide +kernel))
    | 2, _ => va_eqtl (hs _ (by decide +kernel))
    | 3, _ => va_eqtl (hs _ (by decide +kernel))
    | 4, _ => va_eqtl (hs _ (by decide +kernel))
    | 5, _ => va_eqtl (hs _ (by decide +kernel))
    | j + 6, h => absurd h (by omega)
  obtain ⟨tw, htw, hT⟩ := va_Tof (tm := .static "MaskedCauses" "TRUE_WORDS" "[J") (ty := .long) (N := 6) (f := twV) (A := fun q => s.heap.size ≤ q) (by decide) (hs _ (by decide +kernel)) (va_eqt (hs _ (by decide +kernel))) hel hA
  have hZ := va_Zof (A := fun q => s.heap.size ≤ q) (hts (.laysStatic "MaskedCauses" "TRUE_WORDS" "[J") (by decide +kernel)) (hTB _ in_MC) htw hA
  obtain ⟨q1, v1, q2, v2, fo, hS1, hS2, hS3, hS4, hS5, hS6⟩ := str_of hts hgv
  refine ⟨(l, s.heap.size, fun k => if k = 0 then b else if k = 1 then tw else if k = 2 then q1 else if k = 3 then v1 else if k = 4 then q2 else if k = 5 then v2 else fo, (n, fun j => (xs j).toInt), (fun c => (f c).1, fun c => (f c).2), fun k => if k = 0 then c0 else if k = 1 then c1 else if k = 2 then c2 else if k = 3 then c3 else if k = 4 then c4 else c5), rfl, rfl, rfl, rfl, ?_, ⟨hf, ?_⟩, ?_, Nat.le_refl _⟩
  · exact fun w hw => va_Nw.of (nw_ot w hw) (ht1 w (nw_in w hw))
  · intro k q hk
    match k, hk with
    | 0, hk => have h9 := Option.some.inj hk; subst h9; exact h0
    | 1, hk => have h9 := Option.some.inj hk; subst h9; exact h1
    | 2, hk => have h9 := Option.some.inj hk; subst h9; exact h2
    | 3, hk => have h9 := Option.some.inj hk; subst h9; exact h3
    | 4, hk => have h9 := Option.some.inj hk; subst h9; exact h4
    | 5, hk => have h9 := Option.some.inj hk; subst h9; exact h5
    | k + 6, hk => cases hk
  · refine ⟨htr, sf_of (hts _ (by decide +kernel)) (hs _ (by decide +kernel)) hA, sf_of (hts _ (by decide +kernel)) (hs _ (by decide +kernel)) hA, hZ, hT, ?_, hbl, ?_, hn, ?_, ?_, ht1 _ ao_d, ht1 _ ao_i, ⟨hS1, hS2, hS3, hS4, hS5, hS6⟩⟩
    · have e : (fun j => Int32.ofInt (xs j).toInt) = xs := funext fun j => Int32.ofInt_toInt _
      show va_X b n (fun j => Int32.ofInt (xs j).toInt) s s.heap
      rw [e]; exact hX
    · intro j
      show inR (xs j).toInt
      have g1 := Int32.le_toInt (xs j)
      have g2 := Int32.toInt_lt (xs j)
      unfold inR
      omega
    · intro q hq
      simp only [ncL, List.mem_cons, List.not_mem_nil, or_false] at hq
      rcases hq with rfl | rfl | rfl | rfl | rfl | rfl <;> exact va_Nc.of (hs _ (by decide +kernel))
    · intro E hE
      match E, hE with
      | 0, _ => exact cas_of (ht1 _ ca_0)
      | 1, _ => exact cas_of (ht1 _ ca_1)
      | 2, _ => exact cas_of (ht1 _ ca_2)
      | E + 3, h => exact absurd h (by omega)
theorem start_of {p : Program} {e : Env} {s : State} {m : MethodId} {below : List Frame} {meth : Method} {c : Code} (l : Launch) (htr : l.stackTraces = false) {b n : Nat} {xs : Nat → Int32} (hnm : meth.name = x.name) (hex : c.exceptionTable.toList = []) (hn : n ≤ 2560) (C0 : lw_At p s m meth c b n xs)
    (hAW : ∀ G : aG, gn G = n → (∀ j, inR (gx G j)) → AW G true y_La_law 2048 601024 7293034 (fun r _ _ => r = .inl (some (aI 1))) 0 [some (aP 1000), none, none, none, none, none, none] [] 0 mz) :
    W p l e room_1 s m #[Value.ref b] below meth c s.heap [] 0 0 (lw_Z below #[Value.ref b] s) (entryFrame m ([Value.ref b] : List Value).toArray 7) := by
  obtain ⟨hx, hb, hr, hml, hown, hts, hX, hbl, hlk, hgv⟩ := C0
  obtain ⟨G, rfl, g2, g3, g4, hK⟩ := env_of htr hn hts hX hbl hgv
  have hTB : ∀ w ∈ TB, w.before #[Value.ref b] s = true := fun w h => hts w (List.mem_filter.mp h).1
  have hC : CX G y_La_law p s m #[Value.ref b] meth c := ⟨hx, hb, hml, hr, hown, hlk, hnm, hex, hTB, hK⟩
  have hP : PX G (0, mz) s.heap := ⟨fun k q h => by simp [wld] at h, Nat.zero_le _, fun _ _ => inR_0⟩
  have ha : cv G (aP 1000) = .ref b := by show Value.ref (adr G (1000 + 0)) = _; rw [adr_old, g3]
  have hv := lv_entry [Value.ref b] (n := 7) (by show 1 ≤ 7; omega)
  rw [lg_entry_eq]
  have hL : LX G 7 [some (aP 1000), none, none, none, none, none, none] ((lg_sl [Value.ref b] ++ List.replicate (7 - (lg_sl [Value.ref b]).length) Slot.unset).toArray) := by
    refine ⟨hv.1, hv.2.1, fun i v hi => ?_⟩
    match i, hi with
    | 0, hi =>
      cases hi
      rw [ha]
      exact ⟨hv.2.2 (0, Value.ref b) (by simp [lv_args]), trivial⟩
    | i + 1, hi =>
      have h9 : ([none, none, none, none, none, none] : List (Option aV))[i]? = some (some v) := hi
      have h8 := List.mem_of_getElem? h9
      simp at h8
  have hw := hAW G g4 hK.2.2.1.2.2.2.2.2.2.2.1 p e room_1 s m #[Value.ref b] below meth c s.heap [] 0 0 _ hC ⟨hP, va_S.rf⟩ hL (fun v hv => by cases hv) (by show 0 + 601024 ≤ 601024; omega) (by show 0 + 7293034 ≤ 7293034; omega) (by show 2048 ≤ 2048 ∧ 40 * 2048 ≤ 84000; omega) (fun _ => by rw [g2]; exact Nat.le_refl _)
  intro T hT X
  obtain ⟨t, a1, o, b1, b2, ⟨r, n9, μ9, rfl, ⟨ho, -⟩, -, -⟩, Lc, f1, f2, f3⟩ := hw T hT X
  refine ⟨t, a1, o, b1, b2, ho, ⟨_, ho⟩, f1, same_old f2 (fun q hq => ?_)⟩
  have := f3 q hq
  rw [g2] at this
  exact this
theorem five_start {p : Program} {e : Env} {s : State} {m : MethodId} {below : List Frame} {meth : Method} {c : Code} (l : Launch) (htr : l.stackTraces = false) {b n : Nat} {xs : Nat → Int32} (hnm : meth.name = x.name) (hex : c.exceptionTable.toList = []) (hn : n ≤ 5) (C0 : lw_At p s m meth c b n xs) :
    W p l e room_1 s m #[Value.ref b] below meth c s.heap [] 0 0 (lw_Z below #[Value.ref b] s) (entryFrame m ([Value.ref b] : List Value).toArray 7) :=
  start_of l htr hnm hex (by omega) C0 (fun G h1 h2 => law_five (by omega) (by omega) (by omega) (by omega) h2)
end
