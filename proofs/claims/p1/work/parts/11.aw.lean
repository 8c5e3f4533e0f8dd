/-! the judgements over the abstract machine -/
section
abbrev aY : Type := MethodName × ByteArray × Nat × Option FieldType × List (Nat × Nat × Nat × Nat)
abbrev aQ : Type := Option aV ⊕ Nat
/-- what holds of the tables and of the old heap, at any state -/
def KX (G : aG) (U : State) : Prop := (∀ w ∈ NW, va_Nw w U) ∧ va_K (gD G) cls0 (tyL G) U ∧ EV G U U.heap ∧ gb G ≤ U.heap.size
def CX (G : aG) (y : aY) (p : Program) (s : State) (m : MethodId) (args : Array Value) (meth : Method) (c : Code) : Prop :=
  p.tables.exec = Jvm.exec ∧ c.code = y.2.1 ∧ c.maxLocals = y.2.2.1 ∧ meth.sig.returnType = y.2.2.2.1 ∧ s.vm.findClass y.1.cls = some m.cls ∧ meth.locks = false ∧ meth.name = y.1.name ∧
    c.exceptionTable.toList = tableOf y.2.2.2.2 ∧ (∀ w ∈ TB, w.before args s = true) ∧ KX G s
def PX (G : aG) (σ : aS) (H : Heap) : Prop := va_P (gD G) cls0 (wld G σ) H ∧ σ.1 ≤ shL.length ∧ ∀ k i, inR (σ.2.1 k i)
def HX (G : aG) (s : State) (σ : aS) (H : Heap) (locs : List Loc) : Prop := PX G σ H ∧ va_S (gA G) s.heap H locs
def LX (G : aG) (nL : Nat) (lst : List (Option aV)) (ls : Array Slot) : Prop := ls.size = nL ∧ lv_wf ls ∧ ∀ (i : Nat) (v : aV), lst[i]? = some (some v) → ls[i]? = some (.val (cv G v)) ∧ okv v
def OX (G : aG) (s t : State) (r : aQ) (o : Outcome) : Prop := match r with
  | .inl none => o = .returned none
  | .inl (some v) => o = .returned (some (cv G v)) ∧ okv v
  | .inr E => ∃ (q : Addr) (ce : Cell), o = .threw q ∧ t.heap[q]? = some ce ∧ ce.vm = .none ∧ s.vm.findClass (exN E) = some ce.cls
def EX (G : aG) (Q : aQ → Nat → aM → Prop) (s : State) (o : Outcome) (t : State) : Prop := ∃ (r : aQ) (nn : Nat) (μ : aM), Q r nn μ ∧ OX G s t r o ∧ PX G (nn, μ) t.heap ∧ va_F (gA G) s t
def FX (G : aG) (s t : State) (mc ms : Nat) : Prop := ∃ L : List Loc, s.WarmedH t.vm ∧ s.sameButNew ({ t with vm := s.vm } : State) L mc ms ∧ ∀ q ∈ L, gb G ≤ q.base
def MX (G : aG) (Q : aQ → Nat → aM → Prop) (below : List Frame) (s : State) (mc ms : Nat) : State → Prop := fun t => ∃ o, t.status = .running ∧ Ended t below o ∧ EX G Q s o t ∧ FX G s t mc ms
/-- from here on, with depth d and room for bc cells of bs slots, the method comes to an end with Q -/
def AW (G : aG) (x : Bool) (y : aY) (d bc bs : Nat) (Q : aQ → Nat → aM → Prop) (pc : Nat) (lst : List (Option aV)) (st : List aV) (nn : Nat) (μ : aM) : Prop :=
  ∀ (p : Program) (e : Env) (R : Room) (s : State) (m : MethodId) (args : Array Value) (below : List Frame) (meth : Method) (c : Code) (H : Heap) (locs : List Loc) (cells slots : Nat) (ls : Array Slot),
    CX G y p s m args meth c → HX G s (nn, μ) H locs → LX G y.2.2.1 lst ls → (∀ v ∈ st, okv v) → cells + bc ≤ R.cells → slots + bs ≤ R.slots → d ≤ R.frames ∧ 40 * d ≤ R.locals → (x = true → s.heap.size + cells ≤ gb G + nn) →
    W p (gl G) e R s m args below meth c H locs cells slots (MX G Q below s R.cells R.slots) (F0 m pc ls (st.map (cv G)))
variable {G : aG} {x : Bool} {y : aY} {d bc bs : Nat} {Q : aQ → Nat → aM → Prop} {pc : Nat} {lst : List (Option aV)} {st : List aV} {nn : Nat} {μ : aM}
/-- an instruction that turns the stack alone -/
theorem aw_st {pc' : Nat} {st' : List aV} (hok : (∀ v ∈ st, okv v) → ∀ v ∈ st', okv v)
    (hW : ∀ (p : Program) (e : Env) (R : Room) (s : State) (m : MethodId) (args : Array Value) (below : List Frame) (meth : Method) (c : Code) (H : Heap) (locs : List Loc) (cells slots : Nat) (ls : Array Slot) (Z : State → Prop), p.tables.exec = Jvm.exec → c.code = y.2.1 → (∀ v ∈ st, okv v) →
      W p (gl G) e R s m args below meth c H locs cells slots Z (F0 m pc' ls (st'.map (cv G))) → W p (gl G) e R s m args below meth c H locs cells slots Z (F0 m pc ls (st.map (cv G))))
    (k : AW G x y d bc bs Q pc' lst st' nn μ) : AW G x y d bc bs Q pc lst st nn μ :=
  fun p e R s m args below meth c H locs cells slots ls hC hH hL hs h1 h2 h3 h4 => hW p e R s m args below meth c H locs cells slots ls _ hC.1 hC.2.1 hs (k p e R s m args below meth c H locs cells slots ls hC hH hL (hok hs) h1 h2 h3 h4)
theorem ok_c {v : aV} (h : okv v) {l l' : List aV} (hl : (∀ w ∈ l, okv w) → ∀ w ∈ l', okv w) : (∀ w ∈ l, okv w) → ∀ w ∈ v :: l', okv w := fun h0 w hw => by
  rcases List.mem_cons.mp hw with rfl | hw
  · exact h
  · exact hl h0 w hw
theorem ok_t {v : aV} {l l' : List aV} (hl : (∀ w ∈ l, okv w) → ∀ w ∈ l', okv w) : (∀ w ∈ v :: l, okv w) → ∀ w ∈ l', okv w := fun h0 => hl fun w hw => h0 w (List.mem_cons_of_mem _ hw)
theorem ok_i {l : List aV} : (∀ w ∈ l, okv w) → ∀ w ∈ l, okv w := fun h => h
theorem ok_h {v : aV} {l : List aV} (h : ∀ w ∈ v :: l, okv w) : okv v := h v List.mem_cons_self
theorem ok_s {v : aV} {l : List aV} (h : ∀ w ∈ v :: l, okv w) : ∀ w ∈ l, okv w := fun w hw => h w (List.mem_cons_of_mem _ hw)
theorem ok_k {v : aV} {l : List aV} (h : okv v) (h0 : ∀ w ∈ l, okv w) : ∀ w ∈ v :: l, okv w := fun w hw => by
  rcases List.mem_cons.mp hw with rfl | hw
  · exact h
  · exact h0 w hw
theorem ok_ki {z : Int} {l : List aV} (h : inR z) (h0 : ∀ w ∈ l, okv w) : ∀ w ∈ aI z :: l, okv w := ok_k (v := aI z) h h0
theorem ok_kr {v : BitVec 64 ⊕ Option Nat} {l : List aV} (h0 : ∀ w ∈ l, okv w) : ∀ w ∈ (Sum.inr v : aV) :: l, okv w := ok_k (v := Sum.inr v) trivial h0
-- constants
theorem aw_iconst {n : Int} (hd : decode y.2.1 pc = .ok (.iconst n, 1)) (hr : inR n) (k : AW G x y d bc bs Q (pc + 1) lst (aI n :: st) nn μ) : AW G x y d bc bs Q pc lst st nn μ :=
  aw_st (fun h => ok_ki hr h) (fun p e R s m args below meth c H locs cells slots ls Z hx hb _ kk => lv_iconst hx hb hd rfl kk) k
theorem aw_bipush {n z : Int} (hd : decode y.2.1 pc = .ok (.bipush n, 2)) (hr : inR z) (hz : (Int8.ofInt n).toInt32 = Int32.ofInt z) (k : AW G x y d bc bs Q (pc + 2) lst (aI z :: st) nn μ) : AW G x y d bc bs Q pc lst st nn μ :=
  aw_st (fun h => ok_ki hr h) (fun p e R s m args below meth c H locs cells slots ls Z hx hb _ kk => lv_bipush hx hb hd hz kk) k
theorem aw_sipush {n z : Int} (hd : decode y.2.1 pc = .ok (.sipush n, 3)) (hr : inR z) (hz : (Int16.ofInt n).toInt32 = Int32.ofInt z) (k : AW G x y d bc bs Q (pc + 3) lst (aI z :: st) nn μ) : AW G x y d bc bs Q pc lst st nn μ :=
  aw_st (fun h => ok_ki hr h) (fun p e R s m args below meth c H locs cells slots ls Z hx hb _ kk => lv_sipush hx hb hd hz kk) k
theorem aw_lconst {n : Fin 2} {b : BitVec 64} (hd : decode y.2.1 pc = .ok (.lconst n, 1)) (hz : Int64.ofNat (n : Nat) = Int64.ofBitVec b) (k : AW G x y d bc bs Q (pc + 1) lst (aL b :: st) nn μ) : AW G x y d bc bs Q pc lst st nn μ :=
  aw_st (fun h => ok_kr h) (fun p e R s m args below meth c H locs cells slots ls Z hx hb _ kk => lv_lconst hx hb hd hz kk) k
-- arithmetic
theorem aw_iadd {a b : Int} (hd : decode y.2.1 pc = .ok (.iadd, 1)) (hr : inR (a + b)) (k : AW G x y d bc bs Q (pc + 1) lst (aI (a + b) :: st) nn μ) : AW G x y d bc bs Q pc lst (aI b :: aI a :: st) nn μ :=
  aw_st (fun h => ok_ki hr (ok_s (ok_s h))) (fun p e R s m args below meth c H locs cells slots ls Z hx hb _ kk => lv_iadd hx hb hd (by rw [← Int32.ofInt_add]; exact kk)) k
theorem aw_isub {a b : Int} (hd : decode y.2.1 pc = .ok (.isub, 1)) (hr : inR (a - b)) (k : AW G x y d bc bs Q (pc + 1) lst (aI (a - b) :: st) nn μ) : AW G x y d bc bs Q pc lst (aI b :: aI a :: st) nn μ :=
  aw_st (fun h => ok_ki hr (ok_s (ok_s h))) (fun p e R s m args below meth c H locs cells slots ls Z hx hb _ kk => lv_isub hx hb hd (by rw [← Int32.ofInt_sub]; exact kk)) k
theorem aw_imul {a b : Int} (hd : decode y.2.1 pc = .ok (.imul, 1)) (hr : inR (a * b)) (k : AW G x y d bc bs Q (pc + 1) lst (aI (a * b) :: st) nn μ) : AW G x y d bc bs Q pc lst (aI b :: aI a :: st) nn μ :=
  aw_st (fun h => ok_ki hr (ok_s (ok_s h))) (fun p e R s m args below meth c H locs cells slots ls Z hx hb _ kk => lv_imul hx hb hd (by rw [← Int32.ofInt_mul]; exact kk)) k
theorem aw_ineg {a : Int} (hd : decode y.2.1 pc = .ok (.ineg, 1)) (hr : inR (-a)) (k : AW G x y d bc bs Q (pc + 1) lst (aI (-a) :: st) nn μ) : AW G x y d bc bs Q pc lst (aI a :: st) nn μ :=
  aw_st (fun h => ok_ki hr (ok_s h)) (fun p e R s m args below meth c H locs cells slots ls Z hx hb _ kk => lv_ineg hx hb hd (by rw [← Int32.ofInt_neg]; exact kk)) k
-- the stack
theorem aw_cat (v : aV) : (cv G v).category = match v with | .inr (.inl _) => 2 | _ => 1 := by
  rcases v with z | b | _ | k <;> rfl
theorem aw_dup {v : aV} (hd : decode y.2.1 pc = .ok (.dup, 1)) (hc : (cv G v).category = 1) (k : AW G x y d bc bs Q (pc + 1) lst (v :: v :: st) nn μ) : AW G x y d bc bs Q pc lst (v :: st) nn μ :=
  aw_st (fun h => ok_k (ok_h h) h) (fun p e R s m args below meth c H locs cells slots ls Z hx hb _ kk => lv_dup hx hb hd hc kk) k
theorem aw_pop {v : aV} (hd : decode y.2.1 pc = .ok (.pop, 1)) (hc : (cv G v).category = 1) (k : AW G x y d bc bs Q (pc + 1) lst st nn μ) : AW G x y d bc bs Q pc lst (v :: st) nn μ :=
  aw_st (fun h => ok_s h) (fun p e R s m args below meth c H locs cells slots ls Z hx hb _ kk => lv_pop hx hb hd hc kk) k
theorem aw_dup2 {v w : aV} (hd : decode y.2.1 pc = .ok (.dup2, 1)) (hc : (cv G v).category = 1) (hc2 : (cv G w).category = 1) (k : AW G x y d bc bs Q (pc + 1) lst (v :: w :: v :: w :: st) nn μ) : AW G x y d bc bs Q pc lst (v :: w :: st) nn μ :=
  aw_st (fun h => ok_k (ok_h h) (ok_k (ok_h (ok_s h)) h)) (fun p e R s m args below meth c H locs cells slots ls Z hx hb _ kk => lv_dup2_11 hx hb hd hc hc2 kk) k
theorem aw_dup_x1 {v w : aV} (hd : decode y.2.1 pc = .ok (.dup_x1, 1)) (hc : (cv G v).category = 1) (hc2 : (cv G w).category = 1) (k : AW G x y d bc bs Q (pc + 1) lst (v :: w :: v :: st) nn μ) : AW G x y d bc bs Q pc lst (v :: w :: st) nn μ :=
  aw_st (fun h => ok_k (ok_h h) (ok_k (ok_h (ok_s h)) (ok_k (ok_h h) (ok_s (ok_s h))))) (fun p e R s m args below meth c H locs cells slots ls Z hx hb _ kk => lv_dup_x1 hx hb hd hc hc2 kk) k
-- jumps
theorem aw_goto {off : Int} {tgt : Nat} (hd : decode y.2.1 pc = .ok (.goto off, 3)) (ht : (pc : Int) + off = (tgt : Int)) (k : AW G x y d bc bs Q tgt lst st nn μ) : AW G x y d bc bs Q pc lst st nn μ :=
  aw_st (fun h => h) (fun p e R s m args below meth c H locs cells slots ls Z hx hb _ kk => lv_goto hx hb hd ht kk) k
end
