/-! calls -/
section
def cdY (y : aY) : Cond := if y.2.2.2.2.isEmpty then .code y.1 y.2.1 y.2.2.1 y.2.2.2.1 else .codeWith y.1 y.2.1 y.2.2.1 y.2.2.2.1 y.2.2.2.2
def WY (y : aY) : List Cond := cdY y :: TB
theorem cd_sp {y : aY} {args : Array Value} {s : State} (h : (cdY y).before args s = true) : ∃ m meth c, s.methodNamed? y.1 = some m ∧ s.vm.method? m = some meth ∧ meth.code = some c ∧ c.code = y.2.1 ∧ c.maxLocals = y.2.2.1 ∧ meth.sig.returnType = y.2.2.2.1 ∧ meth.locks = false ∧
    c.exceptionTable.toList = tableOf y.2.2.2.2 ∧ parseMethodDescriptor y.1.desc = some meth.sig := by
  unfold cdY at h
  split at h
  · rename_i he
    obtain ⟨m, hn⟩ := Cond.code_named h
    obtain ⟨meth, c, h1, h2, h3, h4, h5, h6, h7, h8⟩ := Cond.code_spec hn h
    refine ⟨m, meth, c, hn, h1, h2, h3, h4, h5, h6, ?_, h8⟩
    rw [List.isEmpty_iff.mp he, Array.isEmpty_iff.mp h7]
    rfl
  · obtain ⟨m, meth, c, hn, h1, h2, h3, h4, h7, h5, h6, h8⟩ := Cond.codeWith_spec h
    refine ⟨m, meth, c, hn, h1, h2, h3, h4, h5, h6, ?_, h8⟩
    rw [← h7, table_eq]
def rmX (d bc bs : Nat) : Room := { frames := d, cells := bc, slots := bs, locals := 40 * d }
def PcX (G : aG) (x : Bool) (as : List aV) (nn : Nat) (μ : aM) : Array Value → State → Prop := fun a U => a = (as.map (cv G)).toArray ∧ PX G (nn, μ) U.heap ∧ KX G U ∧ (x = true → U.heap.size ≤ gb G + nn)
def QmX (G : aG) (Q : aQ → Nat → aM → Prop) (bc bs : Nat) : Array Value → State → Outcome → State → Prop := fun _ st o t => EX G Q st o t ∧ FX G st t bc bs
/-- the method's contract -/
def AM (G : aG) (x : Bool) (d bc bs : Nat) (y : aY) (as : List aV) (nn : Nat) (μ : aM) (Q : aQ → Nat → aM → Prop) : Prop :=
  MetFree (gl G) y.1 (headSpec (WY y) (rmX d bc bs)) (PcX G x as nn μ) (fun _ _ _ _ _ => True) (QmX G Q bc bs)
def lay : List aV → List (Option aV)
  | [] => []
  | .inr (.inl b) :: l => some (aL b) :: none :: lay l
  | .inl z :: l => some (aI z) :: lay l
  | .inr (.inr o) :: l => some (aR o) :: lay l
theorem lay_in {G : aG} : ∀ (as : List aV) (k i : Nat) (v : aV), (lay as)[i]? = some (some v) → (k + i, cv G v) ∈ lv_args k (as.map (cv G)) ∧ v ∈ as
  | [], k, i, v, h => by simp [lay] at h
  | .inr (.inl b) :: l, k, i, v, h => by
    rcases i with _ | _ | i
    · simp [lay] at h; subst h; exact ⟨by simp [lv_args, cv], List.mem_cons_self⟩
    · simp [lay] at h
    · simp only [lay, List.getElem?_cons_succ] at h
      obtain ⟨a, b'⟩ := lay_in (G := G) l (k + 2) i v h
      refine ⟨?_, List.mem_cons_of_mem _ b'⟩
      simp only [List.map_cons, lv_args]
      refine List.mem_cons_of_mem _ ?_
      rw [if_pos (show (cv G (.inr (.inl b))).category = 2 from rfl), show k + (i + 1 + 1) = k + 2 + i by omega]
      exact a
  | .inl z :: l, k, i, v, h => by
    rcases i with _ | i
    · simp [lay] at h; subst h; exact ⟨by simp [lv_args, cv], List.mem_cons_self⟩
    · simp only [lay, List.getElem?_cons_succ] at h
      obtain ⟨a, b'⟩ := lay_in (G := G) l (k + 1) i v h
      refine ⟨?_, List.mem_cons_of_mem _ b'⟩
      simp only [List.map_cons, lv_args]
      refine List.mem_cons_of_mem _ ?_
      rw [if_neg (show ¬ (cv G (.inl z)).category = 2 from fun h => by cases h), show k + (i + 1) = k + 1 + i by omega]
      exact a
  | .inr (.inr o) :: l, k, i, v, h => by
    rcases i with _ | i
    · simp [lay] at h; subst h; exact ⟨by simp [lv_args], List.mem_cons_self⟩
    · simp only [lay, List.getElem?_cons_succ] at h
      obtain ⟨a, b'⟩ := lay_in (G := G) l (k + 1) i v h
      refine ⟨?_, List.mem_cons_of_mem _ b'⟩
      simp only [List.map_cons, lv_args]
      refine List.mem_cons_of_mem _ ?_
      rw [if_neg (show ¬ (cv G (.inr (.inr o))).category = 2 from fun h => by cases o <;> cases h), show k + (i + 1) = k + 1 + i by omega]
      exact a
def lsz : List aV → Nat
  | [] => 0
  | .inr (.inl _) :: l => lsz l + 2
  | .inl _ :: l => lsz l + 1
  | .inr (.inr _) :: l => lsz l + 1
theorem lsz_sl {G : aG} : ∀ as : List aV, (lg_sl (as.map (cv G))).length = lsz as
  | [] => rfl
  | .inr (.inl b) :: l => by
    have h := lsz_sl (G := G) l
    have hc : (cv G (.inr (.inl b))).category = 2 := rfl
    simp only [lg_sl, List.map_cons, List.flatMap_cons, List.length_append, hc] at h ⊢
    simp only [lsz, ← h]
    simp; omega
  | .inl z :: l => by
    have h := lsz_sl (G := G) l
    have hc : (cv G (.inl z)).category = 1 := rfl
    simp only [lg_sl, List.map_cons, List.flatMap_cons, List.length_append, hc] at h ⊢
    simp only [lsz, ← h]
    simp; omega
  | .inr (.inr o) :: l => by
    have h := lsz_sl (G := G) l
    have hc : (cv G (.inr (.inr o))).category = 1 := by cases o <;> rfl
    simp only [lg_sl, List.map_cons, List.flatMap_cons, List.length_append, hc] at h ⊢
    simp only [lsz, ← h]
    simp; omega
variable {G : aG} {x : Bool} {y : aY} {d bc bs : Nat} {Q : aQ → Nat → aM → Prop} {nn : Nat} {μ : aM}
/-- a contract out of the walk of the body -/
theorem am_of {as : List aV} {lst : List (Option aV)} {n : Nat} (hy : plainFor y.1 = true) (hz : lsz as ≤ y.2.2.1) (hok : ∀ v ∈ as, okv v) (hl : lay as ++ List.replicate n none = lst) (k : AW G x y d bc bs Q 0 lst [] nn μ) : AM G x d bc bs y as nn μ Q := by
  refine MetFree.of_bodySF (code := y.2.1) (maxLocals := y.2.2.1) (ret := y.2.2.2.1) hy ?_ ?_
  · intro args s m h hn
    obtain ⟨m', meth, c, hn', h1, h2, h3, h4, h5, h6, -⟩ := cd_sp (atoms_spec (ws := WY y) h _ List.mem_cons_self)
    cases hn.symm.trans hn'
    exact ⟨meth, c, h1, h2, h3, h4, h5, h6⟩
  · intro p e s m args below meth c s₁ B hml hP _
    obtain ⟨rfl, hPX, hKX, hxs⟩ := hP
    have hts := atoms_spec (ws := WY y) B.pre
    obtain ⟨m', meth', c', hn', g1, g2, g3, g4, g5, g6, g7, -⟩ := cd_sp (hts _ List.mem_cons_self)
    cases Option.some.inj (hn'.symm.trans B.named)
    cases Option.some.inj (g1.symm.trans B.method)
    cases Option.some.inj (g2.symm.trans (Stand.of_body B).code)
    have hC : CX G y p s m (as.map (cv G)).toArray meth c :=
      ⟨B.exec, B.bytes, hml, B.returns, findClass_of_methodNamed B.named, B.notSynchronized, (name_of_methodNamed B.named B.method).1, g7, fun w hw => hts w (List.mem_cons_of_mem _ hw), hKX⟩
    have hle : (lg_sl (as.map (cv G))).length ≤ y.2.2.1 := by rw [lsz_sl]; exact hz
    have hv := lv_entry (as.map (cv G)) hle
    have hLX : LX G y.2.2.1 lst ((lg_sl (as.map (cv G)) ++ List.replicate (y.2.2.1 - (lg_sl (as.map (cv G))).length) Slot.unset).toArray) := by
      refine ⟨hv.1, hv.2.1, fun i v hi => ?_⟩
      rw [← hl] at hi
      have hi' : (lay as)[i]? = some (some v) := by
        rw [List.getElem?_append] at hi
        split at hi
        · exact hi
        · rw [List.getElem?_replicate] at hi
          split at hi <;> cases hi
      obtain ⟨a, b⟩ := lay_in (G := G) as 0 i v hi'
      exact ⟨by simpa using hv.2.2 _ a, hok v b⟩
    have hh0 : s₁.heap = s.heap := by rw [B.state]; rfl
    have hw := k p e (rmX d bc bs) s m _ below meth c s.heap [] 0 0 _ hC ⟨hPX, va_S.rf⟩ hLX (fun v hv => by cases hv) (by show 0 + bc ≤ bc; omega) (by show 0 + bs ≤ bs; omega) ⟨Nat.le_refl _, Nat.le_refl _⟩ (fun h => by have := hxs h; omega)
    obtain ⟨t, a1, o, b1, b2, b3, b4⟩ := hw s₁ hh0 (Stand.of_body B)
    rw [lg_entry_eq]
    exact ⟨t, o, a1, b1, b2, b3, b4⟩
section
variable {p : Program} {l : Launch} {e : Env} {R : Room} {s : State} {m : MethodId} {args : Array Value} {below : List Frame} {meth : Method} {c : Code} {U : State} {locs : List Loc} {cells slots : Nat}
theorem cl_pay {rm : Room} {Pc : Array Value → State → Prop} {Qm : Array Value → State → Outcome → State → Prop} {g : JFrame} {mk : MethodId} {a : Array Value} {ig : Instr} {len : Nat}
    (X : Stand p l e R s m args below meth c U locs cells slots) (hM : MetFree l y.1 (headSpec (WY y) rm) Pc (fun _ _ _ _ _ => True) Qm) (hg : g.method = m) (hsize : g.locals.size = c.maxLocals) (hdg : decode c.code g.pc = .ok (ig, len))
    (hn : U.methodNamed? y.1 = some mk) (hw : ∀ w ∈ WY y, w.before a U = true) (hini : (Cond.initialized y.1.cls).before a U = true) (hfr : rm.frames + 1 ≤ R.frames)
    (hlo : 2 * g.monitorRoom + (g.stack.map fun v => v.category).sum + (y.2.2.1 + 11) + rm.locals ≤ R.locals) (hc : cells + rm.cells ≤ R.cells) (hs : slots + rm.slots ≤ R.slots) (hP : Pc a (U.calling g mk a)) :
    ∃ o s₂, Steps p.tables e below (doInvoke e (U.setTop g) [] mk a).1 s₂ ∧ Ended s₂ (U.setTop g).frames o ∧ Qm a (U.calling g mk a) o s₂ := by
  obtain ⟨m', methY, cY, hn', hmY, hcY, -, hlY, -⟩ := cd_sp (hw _ List.mem_cons_self)
  cases Option.some.inj (hn'.symm.trans hn)
  obtain ⟨kY, hkY, -⟩ := className_of_methodNamed hn
  have hinitY : kY.init = .initialized := Cond.initialized_spec (findClass_of_methodNamed hn) hkY hini
  have h : At U g.method c below := by rw [hg]; exact X.here
  have happ : (headSpec (WY y) rm).appliesLoose y.1 e.platform (U.calling g mk a) = true :=
    Spec.appliesLoose_calling (g := g) h hdg hn hkY hinitY (X.room_calling (g := g) (R' := (headSpec (WY y) rm).room) hsize hmY hcY hfr (by rw [hlY]; exact hlo) hc hs) (atoms_intro hw)
  obtain ⟨mid, hmid⟩ := h.above
  have hfrs : (U.setTop g).frames = (.java g :: mid) ++ below := by rw [State.frames_setTop' g h.top, hmid]; rfl
  obtain ⟨o, s₂, hst, -, hend, hq⟩ := Steps.callFree hM p X.admits X.cas X.clock (acts := []) hfrs happ hP trivial
  exact ⟨o, s₂, hst, hend, hq⟩
theorem cl_back {g : JFrame} {mk : MethodId} {a : Array Value} {ig : Instr} {len k n : Nat} {L : List Loc} {o : Outcome} {s₂ : State}
    (X : Stand p l e R s m args below meth c U locs cells slots) (hg : g.method = m) (hdg : decode c.code g.pc = .ok (ig, len)) (hend : Ended s₂ (U.setTop g).frames o) (hW : (U.calling g mk a).WarmedH s₂.vm) (hsm : (U.calling g mk a).sameButNew ({ s₂ with vm := (U.calling g mk a).vm } : State) L k n) :
    ∃ U' : State, U'.heap = s₂.heap ∧ U'.vm = s₂.vm ∧ Stand p l e R s m args below meth c U' (locs ++ L) (cells + k) (slots + n) ∧ (∀ v, o = .returned v → s₂ = U'.setTop { g with pc := g.pc + len, stack := v.toList ++ g.stack }) ∧ (∀ q, o = .threw q → s₂ = (U'.setTop g).pushFrame (.throwing q)) := by
  have h : At U g.method c below := by rw [hg]; exact X.here
  obtain ⟨e2, q2, q3, q4, q5, q6⟩ := id hsm
  have e3 : s₂ = ({ (U.calling g mk a).setFrames s₂.frames with heap := s₂.heap, slotsUsed := s₂.slotsUsed } : State).setVm s₂.vm := by
    have : s₂ = ({ s₂ with vm := (U.calling g mk a).vm } : State).setVm s₂.vm := rfl
    rw [e2] at this
    exact this
  rw [State.frames_setTop' g h.top] at hend
  obtain ⟨g₀, hg0⟩ := Option.isSome_iff_exists.mp h.top
  obtain ⟨r, hr⟩ := State.topJava?_eq_some.mp hg0
  have hr' : (({ U with heap := s₂.heap, slotsUsed := s₂.slotsUsed } : State).setVm s₂.vm).frames = .java g₀ :: r := hr
  have hW' : U.WarmedH s₂.vm := hW
  have hsame : U.sameButNew ({ U with heap := s₂.heap, slotsUsed := s₂.slotsUsed } : State) L k n := by
    refine ⟨?_, q2, q3, q4, q5, q6⟩
    obtain ⟨t, ht, -⟩ := State.frames_cons hr
    show ({ U with heap := s₂.heap, slotsUsed := s₂.slotsUsed } : State) = { U.setFrames U.frames with heap := s₂.heap, slotsUsed := s₂.slotsUsed }
    rw [State.setFrames_self ht]
  refine ⟨({ U with heap := s₂.heap, slotsUsed := s₂.slotsUsed } : State).setVm s₂.vm, rfl, rfl,
    ⟨X.admits, X.cas, X.clock, X.frames, X.room, X.hears, X.method, X.code, (X.here.setHeapUsed s₂.heap s₂.slotsUsed).setVm hW'.alike, X.tail, State.WarmedH.trans X.warmed hW', X.limits, X.bytes, X.same.trans (hsame.setVm s.vm)⟩, ?_, ?_⟩
  · rintro v rfl
    obtain ⟨c₂, i₂, len₂, hc₂, hd₂, hf₂⟩ := hend
    have hcc : c₂ = c := by
      have h1 : s₂.code? g.method = U.code? g.method := by rw [State.code?_eq, State.code?_eq, hW'.alike.method?]
      exact Option.some.inj (hc₂.symm.trans (h1.trans h.code))
    subst hcc
    have hlen : len₂ = len := by rw [hdg] at hd₂; cases hd₂; rfl
    subst hlen
    refine e3.trans ?_
    rw [hf₂, State.calling_eq h.top, State.setFrames_setFrames, State.setTop_of_frames _ hr', hr]
    rfl
  · rintro q rfl
    have hf₂ : s₂.frames = .throwing q :: .java g :: U.frames.tail := hend
    refine e3.trans ?_
    rw [hf₂, State.calling_eq h.top, State.setFrames_setFrames, State.pushFrame, State.frames_setTop _ hr', State.setTop_of_frames _ hr', State.setFrames_setFrames, hr]
    rfl
end
/-- an exception of class E over this frame -/
def AT (G : aG) (x : Bool) (y : aY) (d bc bs : Nat) (Q : aQ → Nat → aM → Prop) (pc : Nat) (lst : List (Option aV)) (st : List aV) (nn : Nat) (μ : aM) (E : Nat) : Prop :=
  ∀ (p : Program) (e : Env) (R : Room) (s : State) (m : MethodId) (args : Array Value) (below : List Frame) (meth : Method) (c : Code) (H : Heap) (locs : List Loc) (cells slots : Nat) (ls : Array Slot) (q : Addr) (ce : Cell),
    CX G y p s m args meth c → HX G s (nn, μ) H locs → LX G y.2.2.1 lst ls → (∀ v ∈ st, okv v) → cells + bc ≤ R.cells → slots + bs ≤ R.slots → d ≤ R.frames ∧ 40 * d ≤ R.locals → (x = true → s.heap.size + cells ≤ gb G + nn) →
    H[q]? = some ce → ce.vm = .none → s.vm.findClass (exN E) = some ce.cls →
    ∀ T : State, T.heap = H → Stand p (gl G) e R s m args below meth c T locs cells slots → ∃ t, Steps p.tables e below ((T.setTop (F0 m pc ls (st.map (cv G)))).pushFrame (.throwing q)) t ∧ MX G Q below s R.cells R.slots t
theorem KX.step {s U : State} {locs : List Loc} (h : KX G s) (hW : s.WarmedH U.vm) (hS : va_S (gA G) s.heap U.heap locs) : KX G U :=
  ⟨nw_step h.1 hW, va_K.moved hW.alike h.2.1, EV.step h.2.2.1 hW hS h.2.2.2, Nat.le_trans h.2.2.2 hS.1⟩
variable {pc : Nat} {lst : List (Option aV)} {st : List aV}
theorem aw_call {y' : aY} {as rest : List aV} {Q' : aQ → Nat → aM → Prop} {d' bc' bs' : Nat} {ig : Instr} (hcd : cdY y' ∈ TB) (hini : Cond.initialized y'.1.cls ∈ TB) (hM : AM G x d' bc' bs' y' as nn μ Q') (hd' : d' + 1 ≤ d) (hbc : bc' ≤ bc) (hbs : bs' ≤ bs) (hmax : y'.2.2.1 ≤ 21)
    (h8 : ((rest.map (cv G)).map fun v => v.category).sum ≤ 8) (hx : x = true → ∀ r n' μ', Q' r n' μ' → n' = nn + bc') (hok : (∀ v ∈ st, okv v) → ∀ v ∈ rest, okv v) (hd : decode y.2.1 pc = .ok (ig, 3))
    (hent : ∀ (p : Program) (e : Env) (R : Room) (s : State) (m : MethodId) (args : Array Value) (below : List Frame) (meth : Method) (c : Code) (T : State) (locs : List Loc) (cells slots : Nat) (ls : Array Slot), CX G y p s m args meth c → HX G s (nn, μ) T.heap locs → Stand p (gl G) e R s m args below meth c T locs cells slots →
      ∃ (vm₁ : Vm) (mk : MethodId), s.WarmedH vm₁ ∧ s.methodNamed? y'.1 = some mk ∧ ∀ target, (∀ acts, Steps p.tables e below (doInvoke e ((T.setVm vm₁).setTop (F0 m pc ls (rest.map (cv G)))) acts mk (as.map (cv G)).toArray).1 target) → Steps p.tables e below (T.setTop (F0 m pc ls (st.map (cv G)))) target)
    (kr : ∀ v n' μ', Q' (.inl v) n' μ' → AW G x y d (bc - bc') (bs - bs') Q (pc + 3) lst (v.toList ++ rest) n' μ') (kt : ∀ E n' μ', Q' (.inr E) n' μ' → AT G x y d (bc - bc') (bs - bs') Q pc lst rest n' μ' E) : AW G x y d bc bs Q pc lst st nn μ := by
  intro p e R s m args below meth c H locs cells slots ls hC hH hL hs h1 h2 h3 h4 T hT X
  subst hT
  obtain ⟨vm₁, mk, hW₁, hn, hgo⟩ := hent p e R s m args below meth c T locs cells slots ls hC hH X
  have X₁ := X.noted hW₁
  have hsz : x = true → T.heap.size ≤ gb G + nn := fun h => Nat.le_trans X.heapSize (h4 h)
  have hPc : PcX G x as nn μ (as.map (cv G)).toArray ((T.setVm vm₁).calling (F0 m pc ls (rest.map (cv G))) mk (as.map (cv G)).toArray) := ⟨rfl, hH.1, hC.kx.step (U := (T.setVm vm₁).calling (F0 m pc ls (rest.map (cv G))) mk (as.map (cv G)).toArray) hW₁ hH.2, hsz⟩
  obtain ⟨o, s₂, hst, hend, ⟨r, n', μ', hQ, hO, hPX, hF⟩, L, hW₂, hsm, hLb⟩ := cl_pay X₁ hM (g := F0 m pc ls (rest.map (cv G))) rfl (by show ls.size = _; rw [hL.1, hC.2.2.1]) (by rw [hC.2.1]; exact hd) (X₁.named hn)
    (fun w hw => word_at X₁.warmed (good_of_word (tb_good w (by rcases List.mem_cons.mp hw with rfl | hw; exact hcd; exact hw))) (hC.tb w (by rcases List.mem_cons.mp hw with rfl | hw; exact hcd; exact hw)))
    (word_at X₁.warmed (good_of_word (tb_good _ hini)) (hC.tb _ hini)) (by show d' + 1 ≤ _; omega) (by show 2 * 0 + ((rest.map (cv G)).map fun v => v.category).sum + (y'.2.2.1 + 11) + 40 * d' ≤ _; omega) (by show cells + bc' ≤ _; omega) (by show slots + bs' ≤ _; omega) hPc
  obtain ⟨U', hU1, hU2, X', hret, hthr⟩ := cl_back X₁ (g := F0 m pc ls (rest.map (cv G))) rfl (by rw [hC.2.1]; exact hd) hend hW₂ hsm
  have hF1 : T.heap.size ≤ s₂.heap.size := hF.1
  have hF2 : ∀ q : Nat, q < T.heap.size → ¬ gA G q → s₂.heap[q]? = T.heap[q]? := hF.2
  have hS' : va_S (gA G) s.heap U'.heap (locs ++ L) := by
    rw [hU1]
    refine ⟨Nat.le_trans hH.2.1 hF1, fun q a b => ?_, fun q hq => ?_⟩
    · rw [hF2 q (Nat.lt_of_lt_of_le a hH.2.1) b]
      exact hH.2.2.1 q a b
    · rcases List.mem_append.mp hq with h | h
      · exact hH.2.2.2 q h
      · exact hLb q h
  have hPX' : PX G (n', μ') U'.heap := by rw [hU1]; exact hPX
  have hx4 : x = true → s.heap.size + (cells + bc') ≤ gb G + n' := fun h => by
    have a := h4 h
    have b := hx h r n' μ' hQ
    omega
  rcases r with v | E
  · have ho : o = .returned (v.map (cv G)) ∧ ∀ w ∈ v.toList, okv w := by
      cases v with
      | none => exact ⟨hO, fun w hw => by cases hw⟩
      | some v => exact ⟨hO.1, fun w hw => by simp at hw; subst hw; exact hO.2⟩
    have hk := kr v n' μ' hQ p e R s m args below meth c U'.heap (locs ++ L) (cells + bc') (slots + bs') ls hC ⟨hPX', hS'⟩ hL (fun w hw => by
      rcases List.mem_append.mp hw with h | h
      · exact ho.2 w h
      · exact hok hs w h) (by omega) (by omega) h3 hx4 U' rfl X'
    obtain ⟨t, a1, b1⟩ := hk
    refine ⟨t, hgo t (fun acts => ?_), b1⟩
    rw [doInvoke_state]
    refine hst.trans ?_
    rw [hret _ ho.1]
    have e9 : (v.map (cv G)).toList ++ rest.map (cv G) = (v.toList ++ rest).map (cv G) := by cases v <;> rfl
    show Steps p.tables e below (U'.setTop (F0 m (pc + 3) ls ((v.map (cv G)).toList ++ rest.map (cv G)))) t
    rw [e9]
    exact a1
  · obtain ⟨q, ce, rfl, hce, hcv, hcl⟩ := hO
    have hcl' : s.vm.findClass (exN E) = some ce.cls := by
      have h9 : vm₁.findClass (exN E) = some ce.cls := hcl
      rw [hW₁.alike.findClass] at h9
      exact h9
    obtain ⟨t, a1, b1⟩ := kt E n' μ' hQ p e R s m args below meth c U'.heap (locs ++ L) (cells + bc') (slots + bs') ls q ce hC ⟨hPX', hS'⟩ hL (hok hs) (by omega) (by omega) h3 hx4 (by rw [hU1]; exact hce) hcv hcl' U' rfl X'
    refine ⟨t, hgo t (fun acts => ?_), b1⟩
    rw [doInvoke_state]
    refine hst.trans ?_
    rw [hthr _ rfl]
    exact a1
end
