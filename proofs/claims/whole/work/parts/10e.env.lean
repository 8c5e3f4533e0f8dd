/-! what is known of the old heap: statics, the script -/
section
/-- a static field that holds a reference or null, where its class's cell lies -/
def sf (C n d : String) (A : Nat → Prop) (U : State) (H : Heap) : Prop := ∃ (c : ClassId) (k : Class) (i : Nat) (f : Field) (a : Nat) (cell : Cell) (v : Value), U.vm.findClass C = some c ∧ U.fieldFound? C n d = some (c, k, i, f) ∧ f.isStatic = true ∧ k.statics = some a ∧ H[a]? = some cell ∧
  cell.vm.isStatics = true ∧ cell.cls = c ∧ f.slot < cell.slots.size ∧ k.staticTypes[f.slot]? = some f.type ∧ cell.slots[f.slot]? = some v ∧ v.isRef = true ∧ ¬ A a
theorem sf.step {C n d : String} {A : Nat → Prop} {u U : State} {H H1 : Heap} (hvm : u.vm.Alike U.vm) (hq : ∀ a : Nat, a < H.size → ¬ A a → H1[a]? = H[a]?) (h : sf C n d A u H) : sf C n d A U H1 := by
  obtain ⟨c, k, i, f, a, cell, v, h1, h2, h3, h4, h5, h6, h7, h8, h9, h10, h11, h12⟩ := h
  obtain ⟨k', hi', he⟩ := State.fieldFound?_setVm hvm h2
  exact ⟨c, k', i, f, a, cell, v, by rw [hvm.findClass]; exact h1, hi', h3, by rw [he]; exact h4, by rw [hq a (Array.getElem?_eq_some_iff.mp h5).1 h12]; exact h5, h6, h7, h8, by rw [he]; exact h9, h10, h11, h12⟩
theorem sf.lays {C n d : String} {A : Nat → Prop} {s : State} {args : Array Value} (h : sf C n d A s s.heap) : (Cond.laysStatic C n d).before args s = true := by
  obtain ⟨c, k, i, f, a, cell, v, h1, h2, h3, h4, h5, h6, h7, h8, h9, -⟩ := h
  show (Cond.laysStatic C n d).holds args s none s [] = true
  exact Cond.laysStatic_of h1 h2 h3 h4 h5 h6 h7 h8 h9
theorem sf.isr {C n d : String} {A : Nat → Prop} {s : State} {args : Array Value} (h : sf C n d A s s.heap) : (Cond.isRef (.static C n d)).before args s = true := by
  obtain ⟨c, k, i, f, a, cell, v, h1, h2, h3, h4, h5, h6, h7, h8, h9, h10, h11, -⟩ := h
  have he : (Term.static C n d).eval args s none [] s = some v := by simp [Term.eval, State.fieldNamed?, h2, h3, h4, h5, h6, h10]
  simp only [Cond.before, Cond.holds, Cond.value, he]
  cases v <;> simp_all [Value.isRef]
theorem sf_of {C n d : String} {A : Nat → Prop} {s : State} {args : Array Value} (hl : (Cond.laysStatic C n d).before args s = true) (hr : (Cond.isRef (.static C n d)).before args s = true) (hA : ∀ a : Nat, a < s.heap.size → ¬ A a) : sf C n d A s s.heap := by
  obtain ⟨c, k, i, f, a, cell, h1, h2, h3, h4, h5, h6, h7, h8, h9⟩ := Cond.laysStatic_spec hl
  have hs : cell.slots[f.slot]? = some (cell.slots[f.slot]) := Array.getElem?_eq_getElem h8
  have he : (Term.static C n d).eval args s none [] s = some (cell.slots[f.slot]) := by simp [Term.eval, State.fieldNamed?, h2, h3, h4, h5, h6, hs]
  refine ⟨c, k, i, f, a, cell, _, h1, h2, h3, h4, h5, h6, h7, h8, h9, hs, ?_, hA a (Array.getElem?_eq_some_iff.mp h5).1⟩
  simp only [Cond.before, Cond.holds, Cond.value, he] at hr
  generalize cell.slots[f.slot] = v at hr
  cases v <;> simp_all [Value.isRef]
def twL : List Int64 := [-6148914691236517206, -3689348814741910324, -1085102592571150096, -71777214294589696, -281470681808896, -4294967296]
def twV (j : Nat) : Value := .long (twL.getD j 0)
def tyL (G : aG) : List (ClassId × FieldType) := [(gt G 0, .int), (gt G 1, .long), (gt G 2, .char), (gt G 3, .boolean), (gt G 4, .object "MaskedCauses$Decision"), (gt G 5, .array .int)]
def ncL : List (Nat × Nat) := [(1, 0), (2, 0), (0, 1), (2, 1), (0, 2), (1, 2)]
def casX (E : Nat) (U : State) : Prop := ∃ c, U.vm.findClass (exN E) = some c ∧ U.vm.assignable c c = true
theorem casX.moved {E : Nat} {u U : State} (hvm : u.vm.Alike U.vm) (h : casX E u) : casX E U := by
  obtain ⟨c, h1, h2⟩ := h
  exact ⟨c, by rw [hvm.findClass]; exact h1, by rw [hvm.assignable]; exact h2⟩
theorem casX.word {E : Nat} {s : State} {args : Array Value} (h : casX E s) : (Cond.castable (exN E) (exN E)).before args s = true := by
  obtain ⟨c, h1, h2⟩ := h
  simp [Cond.before, Cond.holds, Cond.value, h1, h2]
def aoI (U : State) : Prop := (Cond.arrayOver (.array .int)).before #[] U = true
theorem aoI.moved {u U : State} (hvm : u.vm.Alike U.vm) (h : aoI u) : aoI U := by
  obtain ⟨comp, c, k, h1, h2, h3, h4, h5⟩ := arrayOverA_spec h
  obtain ⟨k', hk', he⟩ := hvm.2.2 _ _ h3
  have hi : (U.vm.classes.findIdx? fun (x : Class) => match x.kind with | .array component _ => component == comp | _ => false) = some c := by
    rw [hvm.findIdx?_eq _ (fun _ => rfl)]
    exact h2
  have hkind : k'.kind = .array comp (.array .int) := by rw [he]; exact h4
  have f1 : U.vm.findClass (FieldType.array .int).toString = some comp := by rw [hvm.findClass]; exact h1
  have f2 : U.vm.findClass ("[" ++ (FieldType.array .int).toString) = some c := by rw [hvm.findClass]; exact h5
  unfold aoI Cond.before Cond.holds
  simp only [Cond.value]
  rw [f1, Option.bind_some]
  refine (congrArg (fun o : Option Nat => (o.bind (fun c => (U.vm.classes[c]?).map fun (k : Class) => match k.kind with | .array _ ty => decide (ty = FieldType.array .int) && decide (U.vm.findClass ("[" ++ (FieldType.array .int).toString) = some c) | _ => false) == some true)) hi).trans ?_
  simp [hk', hkind, f2]
def scB : List Int32 := [124, 94, 38, 33]
def SCx (k v : Nat) (A : Nat → Prop) (U : State) (H : Heap) : Prop := va_O "java/lang/String" k A U H ∧ va_OF "java/lang/String" "coder" "B" (.int 0) k A U H ∧ va_OF "java/lang/String" "value" "[B" (.ref v) k A U H ∧ va_T .byte v 4 (fun j => .int (scB.getD j 0)) A U H
theorem SCx.step {k v : Nat} {A : Nat → Prop} {u U : State} {H H1 : Heap} (hvm : u.vm.Alike U.vm) (hq : ∀ a : Nat, a < H.size → ¬ A a → H1[a]? = H[a]?) (h : SCx k v A u H) : SCx k v A U H1 :=
  ⟨(va_O.moved hvm h.1).kept hq, (va_OF.moved hvm h.2.1).kept hq, (va_OF.moved hvm h.2.2.1).kept hq, (va_T.moved hvm h.2.2.2).kept hq⟩
def EVS (f : Nat → Nat) (A : Nat → Prop) (U : State) (H : Heap) : Prop := vk_R "MaskedCauses$Reader" 52 "|^&!" (f 2) U ∧ vk_R "MaskedCauses$Tree" 78 "|^&!" (f 4) U ∧ SCx (f 2) (f 3) A U H ∧ SCx (f 4) (f 5) A U H ∧ va_Z "java/lang/String" "COMPACT_STRINGS" "Z" (.int 1) A U H ∧ (va_Z "jdk/internal/util/Preconditions" "SIOOBE_FORMATTER" "Ljava/util/function/BiFunction;" (.ref (f 6)) A U H ∨ va_Z "jdk/internal/util/Preconditions" "SIOOBE_FORMATTER" "Ljava/util/function/BiFunction;" .null A U H)
theorem EVS.step {f : Nat → Nat} {A : Nat → Prop} {s U : State} {H1 : Heap} (h : EVS f A s s.heap) (hW : s.WarmedH U.vm) (hq : ∀ a : Nat, a < s.heap.size → ¬ A a → H1[a]? = s.heap[a]?) : EVS f A U H1 :=
  ⟨h.1.warm hW, h.2.1.warm hW, h.2.2.1.step hW.alike hq, h.2.2.2.1.step hW.alike hq, (va_Z.moved hW.alike h.2.2.2.2.1).kept hq, h.2.2.2.2.2.imp (fun z => (va_Z.moved hW.alike z).kept hq) (fun z => (va_Z.moved hW.alike z).kept hq)⟩
def EV (G : aG) (U : State) (H : Heap) : Prop := (gl G).stackTraces = false ∧ sf "java/lang/Throwable" "UNASSIGNED_STACK" "[Ljava/lang/StackTraceElement;" (gA G) U H ∧ sf "java/lang/Throwable" "SUPPRESSED_SENTINEL" "Ljava/util/List;" (gA G) U H ∧
  va_Z "MaskedCauses" "TRUE_WORDS" "[J" (.ref (go G 1)) (gA G) U H ∧ va_T .long (go G 1) 6 twV (gA G) U H ∧ va_X (go G 0) (gn G) (fun j => Int32.ofInt (gx G j)) U H ∧ go G 0 < gb G ∧ (∀ j, inR (gx G j)) ∧ gn G ≤ 2560 ∧ (∀ q ∈ ncL, va_Nc (exN q.1) (exN q.2) U) ∧ (∀ E, E < 3 → casX E U) ∧ va_AO "MaskedCauses$Decision" U ∧ aoI U ∧ EVS (go G) (gA G) U H
theorem EV.step {G : aG} {s U : State} {locs : List Loc} (h : EV G s s.heap) (hW : s.WarmedH U.vm) (hS : va_S (gA G) s.heap U.heap locs) (hb : gb G ≤ s.heap.size) : EV G U U.heap := by
  obtain ⟨h0, h1, h2, h3, h4, h5, h6, h7, h8, h9, h10, h11, h12, h13⟩ := h
  refine ⟨h0, h1.step hW.alike hS.2.1, h2.step hW.alike hS.2.1, (va_Z.moved hW.alike h3).kept hS.2.1, (va_T.moved hW.alike h4).kept hS.2.1, (va_X.moved hW.alike h5).kept (hS.2.1 _ (Nat.lt_of_lt_of_le h6 hb) (fun z => ?_)), h6, h7, h8, fun q hq => va_Nc.moved hW.alike (h9 q hq), fun E hE => casX.moved hW.alike (h10 E hE), va_AO.moved hW.alike h11, aoI.moved hW.alike h12, h13.step hW hS.2.1⟩
  have : gb G ≤ go G 0 := z
  omega
end
