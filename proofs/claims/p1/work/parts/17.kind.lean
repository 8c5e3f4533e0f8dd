/-! the kinds of calls; ends -/
section
def MK (own : String) (idx : Nat) (z : MethodName) : Prop := Cond.methodLink own idx z ∈ TB ∨ ∃ host, Cond.methodLinkNest own idx z host ∈ NW
def mhOK (z : MethodName) (n : Nat) : Prop := (z.cls ≠ "java/lang/invoke/MethodHandle" ∧ z.cls ≠ "java/lang/invoke/VarHandle") ∧ (parseMethodDescriptor z.desc).map (fun q => q.parameters.length) = some n
def Qn (P : Option aV → Nat → aM → Prop) : aQ → Nat → aM → Prop := fun r n μ => match r with
  | .inl v => P v n μ
  | .inr _ => False
theorem mh_len {z : MethodName} {n : Nat} (h : mhOK z n) {sig : MethodDescriptor} (hs : parseMethodDescriptor z.desc = some sig) : n = sig.parameters.length := by
  have := h.2
  rw [hs] at this
  exact (Option.some.inj this).symm
variable {G : aG} {x : Bool} {y : aY} {d bc bs : Nat} {Q : aQ → Nat → aM → Prop} {nn : Nat} {μ : aM} {pc : Nat} {lst : List (Option aV)} {st : List aV}
theorem aw_callV {y' : aY} {as rest : List aV} {Q' : aQ → Nat → aM → Prop} {d' bc' bs' idx k ci len : Nat} (hst : as.reverse ++ aP k :: rest = st) (hcd : cdY y' ∈ TB) (hini : Cond.initialized y'.1.cls ∈ TB) (L : MK y.1.cls idx y'.1) (hin : Cond.instanceMethod y'.1 ∈ TB) (hse : Cond.selects y'.1.cls y'.1 y'.1 ∈ TB) (hmh : mhOK y'.1 as.length)
    (hk : k < nn) (hq : shL[k]? = some (ci + 10, len)) (hci : (cls0[ci]?).map (fun q => q.1) = some y'.1.cls) (hM : AM G x d' bc' bs' y' (aP k :: as) nn μ Q') (hd' : d' + 1 ≤ d) (hbc : bc' ≤ bc) (hbs : bs' ≤ bs) (hmax : y'.2.2.1 ≤ 21)
    (h8 : ((rest.map (cv G)).map fun v => v.category).sum ≤ 8) (hx : x = true → ∀ r n' μ', Q' r n' μ' → n' = nn + bc') (hd : decode y.2.1 pc = .ok (.invokevirtual idx, 3))
    (kr : ∀ v n' μ', Q' (.inl v) n' μ' → AW G x y d (bc - bc') (bs - bs') Q (pc + 3) lst (v.toList ++ rest) n' μ') (kt : ∀ E n' μ', Q' (.inr E) n' μ' → AT G x y d (bc - bc') (bs - bs') Q pc lst rest n' μ' E) : AW G x y d bc bs Q pc lst st nn μ := by
  subst hst
  refine aw_call hcd hini hM hd' hbc hbs hmax h8 hx (fun h w hw => h w (List.mem_append_right _ (List.mem_cons_of_mem _ hw))) hd ?_ kr kt
  intro p e R s m args below meth c T locs cells slots ls hC hH X
  have hw := wld_at (G := G) (σ := (nn, μ)) hk hq
  rw [kE_o] at hw
  cases hcl : cls0[ci]? with
  | none => rw [hcl] at hci; cases hci
  | some q0 =>
    rw [hcl] at hci
    obtain ⟨cellB, hcB, hoB, hclB⟩ := va_recv hC.kx.2.1 hH.1.1 hcl hw
    have hq0 : q0.1 = y'.1.cls := Option.some.inj hci
    rw [hq0] at hclB
    obtain ⟨mk, methM, hnamed, hmethM, hstM, habM⟩ := Cond.instanceMethod_spec (hC.tb _ hin)
    obtain ⟨m', methM', cM, hn', hmethM', -, -, -, -, -, -, hsigM⟩ := cd_sp (hC.tb _ hcd)
    cases Option.some.inj (hnamed.symm.trans hn')
    cases Option.some.inj (hmethM.symm.trans hmethM')
    obtain ⟨c2, r2, m2, q1, q2, q3, q4, kP, hkP, hkPi⟩ := Cond.selects_spec (hC.tb _ hse)
    cases Option.some.inj (hclB.symm.trans q1)
    cases Option.some.inj ((State.methodFound?_of_named hnamed hmh.1).symm.trans q2)
    cases Option.some.inj (hnamed.symm.trans q3)
    have hselP : selectMethod e.platform s.vm cellB.cls mk = .method mk := by rw [Launch.admits_selectMethod X.admits]; exact q4
    have ha : cv G (aP k) = .ref (gb G + k) := by show Value.ref (adr G k) = _; rw [adr_sh hq]
    have hstk : (as.reverse ++ aP k :: rest).map (cv G) = (as.map (cv G)).reverse ++ .ref (gb G + k) :: rest.map (cv G) := by rw [List.map_append, List.map_cons, ha, List.map_reverse]
    rw [hstk]
    have hargs : (aP k :: as).map (cv G) = Value.ref (gb G + k) :: as.map (cv G) := by rw [List.map_cons, ha]
    rw [hargs]
    have hdc : decode c.code pc = .ok (.invokevirtual idx, 3) := by rw [hC.2.1]; exact hd
    have hlen : (as.map (cv G)).length = methM.sig.parameters.length := by rw [List.length_map]; exact mh_len hmh hsigM
    rcases L with L | ⟨host, L⟩
    · obtain ⟨vm₁, X₁, hstep₁⟩ := X.invokevirtual hC.1 hC.own (hC.tb _ L) hnamed hmethM hstM hkP hkPi hmh.1 (a := gb G + k) (cell := cellB) hcB (fun z h => by rw [h] at hoB; cases hoB) hselP hmethM habM hkP hkPi
        (g := F0 m pc ls ((as.map (cv G)).reverse ++ .ref (gb G + k) :: rest.map (cv G))) rfl (argsL := as.map (cv G)) (rest := rest.map (cv G)) hlen rfl hdc
      exact ⟨vm₁, mk, X₁.warmed, hnamed, hstep₁⟩
    · obtain ⟨vm₁, X₁, hstep₁⟩ := X.invokevirtualNest hC.1 hC.own (va_Nw.use rfl (hC.kx.1 _ L)) hnamed hmethM hstM hkP hkPi hmh.1 (a := gb G + k) (cell := cellB) hcB (fun z h => by rw [h] at hoB; cases hoB) hselP hmethM habM hkP hkPi
        (g := F0 m pc ls ((as.map (cv G)).reverse ++ .ref (gb G + k) :: rest.map (cv G))) rfl (argsL := as.map (cv G)) (rest := rest.map (cv G)) hlen rfl hdc
      exact ⟨vm₁, mk, X₁.warmed, hnamed, hstep₁⟩
theorem aw_callS {y' : aY} {as rest : List aV} {Q' : aQ → Nat → aM → Prop} {d' bc' bs' idx : Nat} (hst : as.reverse ++ rest = st) (hcd : cdY y' ∈ TB) (hini : Cond.initialized y'.1.cls ∈ TB) (L : MK y.1.cls idx y'.1) (hin : Cond.static y'.1 ∈ TB) (hmh : mhOK y'.1 as.length)
    (hM : AM G x d' bc' bs' y' as nn μ Q') (hd' : d' + 1 ≤ d) (hbc : bc' ≤ bc) (hbs : bs' ≤ bs) (hmax : y'.2.2.1 ≤ 21)
    (h8 : ((rest.map (cv G)).map fun v => v.category).sum ≤ 8) (hx : x = true → ∀ r n' μ', Q' r n' μ' → n' = nn + bc') (hd : decode y.2.1 pc = .ok (.invokestatic idx, 3))
    (kr : ∀ v n' μ', Q' (.inl v) n' μ' → AW G x y d (bc - bc') (bs - bs') Q (pc + 3) lst (v.toList ++ rest) n' μ') (kt : ∀ E n' μ', Q' (.inr E) n' μ' → AT G x y d (bc - bc') (bs - bs') Q pc lst rest n' μ' E) : AW G x y d bc bs Q pc lst st nn μ := by
  subst hst
  refine aw_call hcd hini hM hd' hbc hbs hmax h8 hx (fun h w hw => h w (List.mem_append_right _ hw)) hd ?_ kr kt
  intro p e R s m args below meth c T locs cells slots ls hC hH X
  obtain ⟨mk, methM, cM, hnamed, hmethM, -, -, -, -, -, -, hsigM⟩ := cd_sp (hC.tb _ hcd)
  have hstatic : methM.isStatic = true := Cond.static_spec hnamed hmethM (hC.tb _ hin)
  obtain ⟨kP, hkP, -⟩ := className_of_methodNamed hnamed
  have hinitP : kP.init = .initialized := Cond.initialized_spec (findClass_of_methodNamed hnamed) hkP (hC.tb _ hini)
  have hstk : (as.reverse ++ rest).map (cv G) = (as.map (cv G)).reverse ++ rest.map (cv G) := by rw [List.map_append, List.map_reverse]
  rw [hstk]
  have hdc : decode c.code pc = .ok (.invokestatic idx, 3) := by rw [hC.2.1]; exact hd
  have hlen : (as.map (cv G)).length = methM.sig.parameters.length := by rw [List.length_map]; exact mh_len hmh hsigM
  rcases L with L | ⟨host, L⟩
  · obtain ⟨vm₁, X₁, hstep₁⟩ := X.invokestatic hC.1 hC.own (hC.tb _ L) hnamed hmethM hstatic hkP hinitP hmh.1 (g := F0 m pc ls ((as.map (cv G)).reverse ++ rest.map (cv G))) rfl (argsL := as.map (cv G)) (rest := rest.map (cv G)) hlen rfl hdc
    exact ⟨vm₁, mk, X₁.warmed, hnamed, hstep₁⟩
  · obtain ⟨vm₁, X₁, hstep₁⟩ := X.invokestaticNest hC.1 hC.own (va_Nw.use rfl (hC.kx.1 _ L)) hnamed hmethM hstatic hkP hinitP hmh.1 (g := F0 m pc ls ((as.map (cv G)).reverse ++ rest.map (cv G))) rfl (argsL := as.map (cv G)) (rest := rest.map (cv G)) hlen rfl hdc
    exact ⟨vm₁, mk, X₁.warmed, hnamed, hstep₁⟩
theorem aw_callI {y' : aY} {as rest : List aV} {Q' : aQ → Nat → aM → Prop} {d' bc' bs' idx k : Nat} (hst : as.reverse ++ aP k :: rest = st) (hcd : Cond.code y'.1 y'.2.1 y'.2.2.1 none ∈ TB) (hcd' : cdY y' ∈ TB) (hini : Cond.initialized y'.1.cls ∈ TB) (L : MK y.1.cls idx y'.1) (hin : Cond.instanceMethod y'.1 ∈ TB) (hnm : y'.1.name = "<init>") (hmh : mhOK y'.1 as.length)
    (hM : AM G x d' bc' bs' y' (aP k :: as) nn μ Q') (hd' : d' + 1 ≤ d) (hbc : bc' ≤ bc) (hbs : bs' ≤ bs) (hmax : y'.2.2.1 ≤ 21)
    (h8 : ((rest.map (cv G)).map fun v => v.category).sum ≤ 8) (hx : x = true → ∀ r n' μ', Q' r n' μ' → n' = nn + bc') (hd : decode y.2.1 pc = .ok (.invokespecial idx, 3))
    (kr : ∀ v n' μ', Q' (.inl v) n' μ' → AW G x y d (bc - bc') (bs - bs') Q (pc + 3) lst (v.toList ++ rest) n' μ') (kt : ∀ E n' μ', Q' (.inr E) n' μ' → AT G x y d (bc - bc') (bs - bs') Q pc lst rest n' μ' E) : AW G x y d bc bs Q pc lst st nn μ := by
  subst hst
  refine aw_call hcd' hini hM hd' hbc hbs hmax h8 hx (fun h w hw => h w (List.mem_append_right _ (List.mem_cons_of_mem _ hw))) hd ?_ kr kt
  intro p e R s m args below meth c T locs cells slots ls hC hH X
  have hpl : e.platform.magicAccessors = ({} : Platform).magicAccessors := by rw [X.admits.platform]
  have hstk : (as.reverse ++ aP k :: rest).map (cv G) = (as.map (cv G)).reverse ++ .ref (adr G k) :: rest.map (cv G) := by rw [List.map_append, List.map_cons, List.map_reverse]; rfl
  rw [hstk]
  have hdc : decode c.code pc = .ok (.invokespecial idx, 3) := by rw [hC.2.1]; exact hd
  have hlen : ∀ sig, parseMethodDescriptor y'.1.desc = some sig → (as.map (cv G)).length = sig.parameters.length := fun sig h => by rw [List.length_map]; exact mh_len hmh h
  rcases L with L | ⟨host, L⟩
  · obtain ⟨mk, methM, cM, kP, vm₁, hnamed, hmethM, hcodeM, -, hlocalsM, -, hkP, -, hW₁, hstep₁⟩ := Steps.initColdArgs (e := e) X.here hC.1 X.warmed hpl hC.own hnm hmh.1 (hC.tb _ L) (hC.tb _ hin) (hC.tb _ hcd)
      (f := F0 m pc ls ((as.map (cv G)).reverse ++ .ref (adr G k) :: rest.map (cv G))) rfl (a := adr G k) (argsL := as.map (cv G)) (rest := rest.map (cv G)) hlen rfl hdc
    exact ⟨vm₁, mk, hW₁, hnamed, hstep₁⟩
  · obtain ⟨mk, methM, cM, kP, vm₁, hnamed, hmethM, hcodeM, -, hlocalsM, -, hkP, -, hW₁, hstep₁⟩ := Steps.initColdArgsNest (e := e) X.here hC.1 X.warmed hpl hC.own hnm hmh.1 (va_Nw.use rfl (hC.kx.1 _ L)) (hC.tb _ hin) (hC.tb _ hcd)
      (f := F0 m pc ls ((as.map (cv G)).reverse ++ .ref (adr G k) :: rest.map (cv G))) rfl (a := adr G k) (argsL := as.map (cv G)) (rest := rest.map (cv G)) hlen rfl hdc
    exact ⟨vm₁, mk, hW₁, hnamed, hstep₁⟩
theorem aw_oinit {k idx : Nat} (hl : Cond.methodLink y.1.cls idx objectInit ∈ TB) (hin : Cond.instanceMethod objectInit ∈ TB) (hcd : Cond.code objectInit ⟨#[0xb1]⟩ 1 none ∈ TB) (hd : decode y.2.1 pc = .ok (.invokespecial idx, 3)) (hd1 : 1 ≤ d) (h8 : ((st.map (cv G)).map fun v => v.category).sum ≤ 8)
    (kk : AW G x y d bc bs Q (pc + 3) lst st nn μ) : AW G x y d bc bs Q pc lst (aP k :: st) nn μ := by
  intro p e R s m args below meth c H locs cells slots ls hC hH hL hs h1 h2 h3 h4
  exact W.objInit hC.1 hC.2.1 hC.own (hC.tb _ hl) (hC.tb _ hin) (hC.tb _ hcd) rfl (by show ls.size = _; rw [hL.1, hC.2.2.1]) (a := adr G k) (rest := st.map (cv G)) rfl hd (by omega) (by show 2 * 0 + ((st.map (cv G)).map fun v => v.category).sum + 12 ≤ R.locals; omega)
    (kk p e R s m args below meth c H locs cells slots ls hC hH hL (ok_s hs) h1 h2 h3 h4)
-- ends
theorem mx_of {s : State} {below : List Frame} {args : Array Value} {mc ms : Nat} {t : State} (h : MQ below (fun _ st o t => EX G Q st o t) args s mc ms (gA G) t) : MX G Q below s mc ms t := by
  obtain ⟨o, h1, h2, h3, L, ⟨-, h4, h5⟩, h6⟩ := h
  exact ⟨o, h1, h2, h3, L, h4, h5, h6⟩
theorem aw_iret {z : Int} (hd : decode y.2.1 pc = .ok (.ireturn, 1)) (hr : y.2.2.2.1 = some .int) (hq : Q (.inl (some (aI z))) nn μ) : AW G x y d bc bs Q pc lst [aI z] nn μ := by
  intro p e R s m args below meth c H locs cells slots ls hC hH hL hs h1 h2 h3 h4 T hT X
  obtain ⟨t, a, b⟩ := W.widen (k := R.cells) (n := R.slots) (by omega) (by omega) (W.iret (Qc := fun _ st o t => EX G Q st o t) (free := gA G) (v := Int32.ofInt z) hC.1 hC.2.1 (hC.2.2.2.1.trans hr) (fun t ht hW => ⟨.inl (some (aI z)), nn, μ, hq, ⟨rfl, ok_h hs⟩, by rw [ht]; exact hH.1, hH.2.F ht⟩) hH.2.2.2 hd (hlocks := hC.2.2.2.2.2.1)) T hT X
  exact ⟨t, a, mx_of b⟩
theorem aw_zret {z : Int} {ty : FieldType} (hd : decode y.2.1 pc = .ok (.ireturn, 1)) (hr : y.2.2.2.1 = some ty) (hn : narrow ty (.int (Int32.ofInt z)) = .int (Int32.ofInt z)) (hq : Q (.inl (some (aI z))) nn μ) : AW G x y d bc bs Q pc lst [aI z] nn μ := by
  intro p e R s m args below meth c H locs cells slots ls hC hH hL hs h1 h2 h3 h4 T hT X
  obtain ⟨t, a, b⟩ := W.widen (k := R.cells) (n := R.slots) (by omega) (by omega) (W.zret (Qc := fun _ st o t => EX G Q st o t) (free := gA G) (v := Int32.ofInt z) hC.1 hC.2.1 (hC.2.2.2.1.trans hr) hn (fun t ht hW => ⟨.inl (some (aI z)), nn, μ, hq, ⟨rfl, ok_h hs⟩, by rw [ht]; exact hH.1, hH.2.F ht⟩) hH.2.2.2 hd (hlocks := hC.2.2.2.2.2.1)) T hT X
  exact ⟨t, a, mx_of b⟩
theorem aw_lret {z : BitVec 64} (hd : decode y.2.1 pc = .ok (.lreturn, 1)) (hr : y.2.2.2.1 = some .long) (hq : Q (.inl (some (aL z))) nn μ) : AW G x y d bc bs Q pc lst [aL z] nn μ := by
  intro p e R s m args below meth c H locs cells slots ls hC hH hL hs h1 h2 h3 h4 T hT X
  obtain ⟨t, a, b⟩ := W.widen (k := R.cells) (n := R.slots) (by omega) (by omega) (W.lret (Qc := fun _ st o t => EX G Q st o t) (free := gA G) (v := Int64.ofBitVec z) hC.1 hC.2.1 (hC.2.2.2.1.trans hr) (fun t ht hW => ⟨.inl (some (aL z)), nn, μ, hq, ⟨rfl, trivial⟩, by rw [ht]; exact hH.1, hH.2.F ht⟩) hH.2.2.2 hd (hlocks := hC.2.2.2.2.2.1)) T hT X
  exact ⟨t, a, mx_of b⟩
theorem aw_aret {k : Nat} {rt : FieldType} (hd : decode y.2.1 pc = .ok (.areturn, 1)) (hr : y.2.2.2.1 = some rt) (hrt : (∃ n, rt = .object n) ∨ ∃ t, rt = .array t) (hq : Q (.inl (some (aP k))) nn μ) : AW G x y d bc bs Q pc lst [aP k] nn μ := by
  intro p e R s m args below meth c H locs cells slots ls hC hH hL hs h1 h2 h3 h4 T hT X
  obtain ⟨t, a, b⟩ := W.widen (k := R.cells) (n := R.slots) (by omega) (by omega) (W.aret (Qc := fun _ st o t => EX G Q st o t) (free := gA G) (v := cv G (aP k)) hC.1 hC.2.1 (hC.2.2.2.1.trans hr) hrt (Or.inr ⟨_, rfl⟩) (fun t ht hW => ⟨.inl (some (aP k)), nn, μ, hq, ⟨rfl, trivial⟩, by rw [ht]; exact hH.1, hH.2.F ht⟩) hH.2.2.2 hd (hlocks := hC.2.2.2.2.2.1)) T hT X
  exact ⟨t, a, mx_of b⟩
theorem aw_vret (hd : decode y.2.1 pc = .ok (.return_, 1)) (hr : y.2.2.2.1 = none) (hq : Q (.inl none) nn μ) : AW G x y d bc bs Q pc lst [] nn μ := by
  intro p e R s m args below meth c H locs cells slots ls hC hH hL hs h1 h2 h3 h4 T hT X
  obtain ⟨t, a, b⟩ := W.widen (k := R.cells) (n := R.slots) (by omega) (by omega) (W.vret (Qc := fun _ st o t => EX G Q st o t) (free := gA G) hC.1 hC.2.1 (hC.2.2.2.1.trans hr) (fun t ht hW => ⟨.inl none, nn, μ, hq, rfl, by rw [ht]; exact hH.1, hH.2.F ht⟩) hH.2.2.2 hd (hlocks := hC.2.2.2.2.2.1)) T hT X
  exact ⟨t, a, mx_of b⟩
theorem at_out {E : Nat} (hno : ∀ z ∈ tableOf y.2.2.2.2, covers z pc = false) (hq : Q (.inr E) nn μ) : AT G x y d bc bs Q pc lst st nn μ E := by
  intro p e R s m args below meth c H locs cells slots ls q ce hC hH hL hs h1 h2 h3 h4 hce hcv hcl T hT X
  obtain ⟨st1, hrun, hend, hW, hsm⟩ := X.leaveThrown q (g := F0 m pc ls (st.map (cv G))) rfl rfl rfl (by rw [hC.2.2.2.2.2.2.2.1]; exact hno) hC.2.2.2.2.2.1
  refine ⟨_, st1, .threw q, hrun, hend, ⟨.inr E, nn, μ, hq, ⟨q, ce, rfl, ?_, hcv, hcl⟩, ?_, hH.2.F hT⟩, locs, hW, hsm.mono (by omega) (by omega), hH.2.2.2⟩
  · show T.heap[q]? = some ce
    rw [hT]; exact hce
  · show PX G (nn, μ) T.heap
    rw [hT]; exact hH.1
end
