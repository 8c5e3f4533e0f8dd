/-! throwing, catching; the script and the static array; a table of rows -/
section
variable {p : Program} {l : Launch} {e : Env} {R : Room} {s : State} {m : MethodId} {args : Array Value} {below : List Frame} {meth : Method} {c : Code} {T : State} {locs : List Loc} {cells slots : Nat}
/-- the same frame, as if its method were called in the heap of now -/
theorem st_base (X : Stand p l e R s m args below meth c T locs cells slots) {c1 s1 : Nat} (hc : cells + c1 ≤ R.cells) (hs : slots + s1 ≤ R.slots) :
    Stand p l e { frames := R.frames, cells := c1, slots := s1, locals := R.locals } ((T.setVm s.vm).setFrames (.invoking m args :: below)) m args below meth c T [] 0 0 := by
  have htop : (T.setVm s.vm).topJava?.isSome := X.here.top
  have hF : ((T.setVm s.vm).setFrames (.invoking m args :: below)).frames = .invoking m args :: below := State.frames_setFrames _ (State.cur_lt_of_top htop)
  obtain ⟨g₀, hg0⟩ := Option.isSome_iff_exists.mp htop
  obtain ⟨r, hr⟩ := State.topJava?_eq_some.mp hg0
  obtain ⟨th, hth, -⟩ := State.frames_cons hr
  have hdrop : (T.heap.toList.drop T.heap.size) = [] := List.drop_eq_nil_of_le (Nat.le_of_eq Array.length_toList)
  refine { admits := X.admits, cas := X.cas, clock := X.clock, frames := hF, room := ?_, hears := X.hears, method := X.method, code := X.code, here := X.here, tail := X.tail, warmed := X.warmed, limits := ?_, bytes := ?_, same := ⟨?_, Nat.le_refl _, Nat.le_refl _, ?_, ?_, fun a c9 h9 => ⟨c9, h9, rfl, rfl, fun _ _ => rfl⟩⟩ }
  · have hl9 : e.platform.stackLimits (T.setVm s.vm).me = e.platform.stackLimits s.me := X.limits
    have hb9 : (T.setVm s.vm).me.stackBytes = s.me.stackBytes := X.bytes
    have hU : ((T.setVm s.vm).setFrames (.invoking m args :: below)).localsInUse = s.localsInUse := by
      rw [State.localsInUse_invoking hF (meth := meth) (c := c) X.method X.code, State.localsInUse_invoking X.frames X.method X.code]
    have h := X.room
    simp only [State.hasRoom, Bool.and_eq_true, decide_eq_true_eq] at h ⊢
    obtain ⟨⟨⟨⟨h1, h2, h3, h4, h5, h6⟩, h7⟩, h8⟩, h9⟩ := h
    rw [X.frames, List.length_cons] at h2 h3
    have z1 := X.heapSize
    have z2 := X.used
    simp only [hF, hU, List.length_cons, State.stackLimits_setFrames, State.stackBytes_setFrames, hl9, hb9]
    refine ⟨⟨⟨⟨by omega, by omega, by omega, by omega, by omega, h6⟩, ?_⟩, ?_⟩, X.book⟩
    · show T.heap.size + c1 ≤ e.platform.maxCells
      omega
    · show T.slotsUsed + s1 ≤ e.platform.maxSlots
      omega
  · rw [State.stackLimits_setFrames]; rfl
  · rw [State.stackBytes_setFrames]; rfl
  · show T.setVm s.vm = { ((T.setVm s.vm).setFrames (.invoking m args :: below)).setFrames (T.setVm s.vm).frames with heap := T.heap, slotsUsed := T.slotsUsed }
    rw [State.setFrames_setFrames, State.setFrames_self hth]
    rfl
  · show T.slotsUsed = T.slotsUsed + ((T.heap.toList.drop T.heap.size).map (·.slots.size)).sum
    rw [hdrop]; rfl
  · show ((T.heap.toList.drop T.heap.size).map (·.slots.size)).sum ≤ 0
    rw [hdrop]; exact Nat.le_refl _
end
section
variable {G : aG} {x : Bool} {y : aY} {d bc bs : Nat} {Q : aQ → Nat → aM → Prop} {pc : Nat} {lst : List (Option aV)} {st : List aV} {nn : Nat} {μ : aM}
def own4 : List Cond := [.isRef (.static "java/lang/Throwable" "UNASSIGNED_STACK" "[Ljava/lang/StackTraceElement;"), .isRef (.static "java/lang/Throwable" "SUPPRESSED_SENTINEL" "Ljava/util/List;"), .laysStatic "java/lang/Throwable" "UNASSIGNED_STACK" "[Ljava/lang/StackTraceElement;", .laysStatic "java/lang/Throwable" "SUPPRESSED_SENTINEL" "Ljava/util/List;"]
def own5 (E : Nat) : List Cond := .castable (exN E) (exN E) :: own4
def exS : List String := ["java/lang/RuntimeException", "java/lang/Exception"]
/-- all that 'throw new E()' asks of the tables -/
def THR (own : String) (ik ic E : Nat) : Prop := E < 3 ∧ Cond.classLink own ik (exN E) ∈ TB ∧ Cond.initialized (exN E) ∈ TB ∧ Bundle.fit (exN E) = true ∧ ∀ w ∈ Bundle.ownAtoms0 own ic (exN E) exS, w ∈ TB ∨ w ∈ own5 E ∨ w ∈ NW
theorem exS_fit : ∀ n ∈ exS, Bundle.fit n = true := by decide +kernel
theorem aw_throw {E ik ic : Nat} (hT : THR y.1.cls ik ic E) (d0 : decode y.2.1 pc = .ok (.new ik, 3)) (d3 : decode y.2.1 (pc + 3) = .ok (.dup, 1)) (d4 : decode y.2.1 (pc + 4) = .ok (.invokespecial ic, 3)) (d7 : decode y.2.1 (pc + 7) = .ok (.athrow, 1)) (hno : ∀ z ∈ tableOf y.2.2.2.2, covers z (pc + 7) = false)
    (hd : 7 ≤ d) (hbc : 1 ≤ bc) (hbs : 6 ≤ bs) (h8 : ((st.map (cv G)).map fun v => v.category).sum ≤ 8) (hq : Q (.inr E) nn μ) : AW G x y d bc bs Q pc lst st nn μ := by
  intro p e R s m args below meth c H locs cells slots ls hC hH hL hs h1 h2 h3 h4 T hT0 X
  obtain ⟨hE, hk, hini, hfit, hat⟩ := hT
  have hev := hC.kx.2.2.1
  have htr : e.platform.stackTraces = false := (show e.platform.stackTraces = (gl G).stackTraces by rw [X.admits.platform]).trans hev.1
  have Y := st_base X (c1 := 1) (s1 := 6) (by omega) (by omega)
  obtain ⟨s', hA⟩ : ∃ z, z = (T.setVm s.vm).setFrames (.invoking m args :: below) := ⟨_, rfl⟩
  rw [← hA] at Y
  have hvm : s'.vm = s.vm := by rw [hA]; rfl
  have hhp : s'.heap = H := by rw [hA]; exact hT0
  have hW0 : s.WarmedH s'.vm := by rw [hvm]; exact State.WarmedH.refl s
  have hw : ∀ w ∈ TB, w.before args s' = true := fun w h => word_at hW0 (good_of_word (tb_good w h)) (hC.tb w h)
  have hev' : EV G s' s'.heap := hev.step hW0 (by rw [hhp]; exact hH.2) hC.kx.2.2.2
  have h : ∀ w ∈ Bundle.ownAtoms0 y.1.cls ic (exN E) exS, w.before args s' = true := by
    intro w hw9
    rcases hat w hw9 with h9 | h9 | h9
    · exact hw w h9
    · simp only [own5, own4, List.mem_cons, List.not_mem_nil, or_false] at h9
      rcases h9 with rfl | rfl | rfl | rfl | rfl
      · exact (hev'.2.2.2.2.2.2.2.2.2.2.1 E hE).word
      · exact hev'.2.1.isr
      · exact hev'.2.2.1.isr
      · exact hev'.2.1.lays
      · exact hev'.2.2.1.lays
    · exact va_Nw.use (nw_ot w h9) (nw_step hC.kx.1 hW0 w h9)
  have hown' : s'.vm.findClass y.1.cls = some m.cls := by rw [hvm]; exact hC.own
  have hins : (Cond.instantiable (exN E) 6).before args s' = true := h _ (by simp [Bundle.ownAtoms0])
  have hcc : ∀ {k : Nat} {i : Instr} {n : Nat}, decode y.2.1 k = .ok (i, n) → decode c.code k = .ok (i, n) := fun h => by rw [hC.2.1]; exact h
  obtain ⟨vm₁, cX, kX, hfX, hkX, -, -, X₁, st1⟩ := Y.newCold hC.1 (own := y.1.cls) (C := exN E) (index := ik) (n := 6) hown' (hw _ hk) hins (hw _ hini) (g := F0 m pc ls (st.map (cv G))) rfl (hcc d0) (Nat.le_refl _) (Nat.le_refl _)
  generalize hT1 : (T.setVm vm₁).pushCell { cls := cX, slots := kX.instanceTypes.map defaultValue, vm := .none } = T1 at X₁ st1
  have hcellA : T1.heap[T.heap.size]? = some (freshCell cX kX) := by rw [← hT1]; exact State.heap_pushCell_size _ _
  have d3' := hcc d3
  have hlen : exS.length = 2 := rfl
  have hcat : (Value.ref T.heap.size).category = 1 := rfl
  obtain ⟨U, hsteps, hrun, hend, hW, hsame, ce, hce, hO⟩ := X₁.ctorThrow0 hC.1 htr (own := y.1.cls) (cls := exN E) (names := exS) (ic := ic) hown' hfit exS_fit h (fun x hx => nomatch hx) hfX hkX hcellA (by rw [hhp, hT0]; exact Nat.le_refl _)
    (g := { method := m, pc := pc + 4, locals := ls, stack := .ref T.heap.size :: .ref T.heap.size :: st.map (cv G), locked := none }) rfl (by show ls.size = _; rw [hL.1, hC.2.2.1]) rfl rfl (rest := st.map (cv G)) rfl
    (hcc d4) (hcc d7) (by rw [hC.2.2.2.2.2.2.2.1]; exact hno) (by show 2 + 3 < R.frames; omega) (by simp only [List.map_cons, List.sum_cons, hcat, hlen]; show 2 * 0 + _ + _ ≤ R.locals; omega) hC.2.2.2.2.2.1
  have hWs : s.WarmedH U.vm := State.WarmedH.trans hW0 hW
  have hcl : s.vm.findClass (exN E) = some ce.cls := by
    have h9 := hO.cls
    rw [hvm] at h9
    exact h9
  have hf : H.size ≤ U.heap.size ∧ ∀ q : Nat, q < H.size → U.heap[q]? = H[q]? := by
    obtain ⟨-, g2, -, -, -, g6⟩ := hsame
    have g2' : s'.heap.size ≤ U.heap.size := g2
    rw [hhp] at g2' g6
    refine ⟨g2', fun q hq9 => ?_⟩
    obtain ⟨c9, e1, e2, e3, e4⟩ := g6 q _ (Array.getElem?_eq_getElem hq9)
    have hs9 : c9.slots = (H[q]).slots := Array.ext_getElem? fun i => e4 i (fun hm => nomatch hm)
    have h9 : c9 = H[q] := by
      rw [hs9] at e2
      exact e2
    have e5 : U.heap[q]? = some c9 := e1
    rw [e5, h9, Array.getElem?_eq_getElem hq9]
  have hall : s.sameButNew ({ U with vm := s.vm } : State) locs R.cells R.slots := by
    subst hA
    obtain ⟨e1, e2⟩ := hsame
    rw [State.setFrames_setFrames] at e1
    have h2' : (T.setVm s.vm).sameButNew ({ U with vm := s.vm } : State) [] (0 + 1) (0 + 6) := ⟨e1, e2⟩
    have h3' := X.same.trans h2'
    rw [List.append_nil] at h3'
    exact h3'.mono (by omega) (by omega)
  have hPXU : PX G (nn, μ) U.heap := by
    refine ⟨fun k q hk9 => (hH.1.1 k q hk9).kept ?_, hH.1.2.1, hH.1.2.2⟩
    exact hf.2 _ (at_lt (hH.1.1 k q hk9))
  have hFU : va_F (gA G) s U := ⟨Nat.le_trans hH.2.1 hf.1, fun q a b => by rw [hf.2 q (Nat.lt_of_lt_of_le a hH.2.1)]; exact hH.2.2.1 q a b⟩
  refine ⟨U, ?_, .threw T.heap.size, hrun, hend, ⟨.inr E, nn, μ, hq, ⟨T.heap.size, ce, rfl, hce, hO.vm, hcl⟩, hPXU, hFU⟩, locs, hWs, hall, hH.2.2.2⟩
  refine st1 _ ?_
  show Steps p.tables e below (T1.setTop { method := m, pc := pc + 3, locals := ls, stack := .ref T.heap.size :: st.map (cv G), locked := none }) _
  jvm_step X₁.here [X₁.here.top, hC.1, d3', Value.category]
  exact hsteps
/-- caught by the row z, whose handler lays the exception by and returns n -/
theorem at_catch {E i : Nat} {n : Int} {pre suf : List ExceptionTableEntry} {z : ExceptionTableEntry} {pc1 pc2 : Nat} (hsp : tableOf y.2.2.2.2 = pre ++ z :: suf) (hpass : ∀ w ∈ pre, covers w pc = false ∨ (w.catchType ≠ 0 ∧ ∃ E', (E, E') ∈ ncL ∧ Cond.classLink y.1.cls w.catchType (exN E') ∈ TB)) (hz : covers z pc = true) (h0 : z.catchType ≠ 0)
    (hlink : Cond.classLink y.1.cls z.catchType (exN E) ∈ TB) (hcast : E < 3) (hn : i < y.2.2.1) (hd1 : (∃ k : Fin 4, (k : Nat) = i ∧ decode y.2.1 z.handlerPc = .ok (.astore_n k, 1) ∧ pc1 = z.handlerPc + 1) ∨ (decode y.2.1 z.handlerPc = .ok (.astore i, 2) ∧ pc1 = z.handlerPc + 2))
    (hd2 : decode y.2.1 pc1 = .ok (.iconst n, 1)) (hp2 : pc2 = pc1 + 1) (hd3 : decode y.2.1 pc2 = .ok (.ireturn, 1)) (hr : y.2.2.2.1 = some .int) (hin : inR n) (hq : Q (.inl (some (aI n))) nn μ) : AT G x y d bc bs Q pc lst st nn μ E := by
  intro p e R s m args below meth c H locs cells slots ls q ce hC hH hL hs h1 h2 h3 h4 hce hcv hcl T hT X
  have hpl : e.platform.magicAccessors = ({} : Platform).magicAccessors := by rw [X.admits.platform]
  obtain ⟨c3, hc3, hasg⟩ := hC.kx.2.2.1.2.2.2.2.2.2.2.2.2.2.1 E hcast
  cases Option.some.inj (hc3.symm.trans hcl)
  obtain ⟨c5, hc5, hcl5⟩ := Cond.classLink_spec hC.own (hC.tb _ hlink) e.platform hpl
  cases Option.some.inj (hcl.symm.trans hc5)
  obtain ⟨vm', X', st9⟩ := X.thenCaughtThrough q (g := F0 m pc ls (st.map (cv G))) rfl (Steps.refl _) (by rw [hT]; exact hce) (by rw [hcv]; rfl) (by obtain ⟨k9, h9, -⟩ := Vm.findClass_spec hcl; exact ⟨k9, h9⟩) pre z suf (by rw [hC.2.2.2.2.2.2.2.1]; exact hsp)
    (fun w hw => by
      rcases hpass w hw with h | ⟨hw0, E', hE, hl1⟩
      · exact Or.inl h
      · obtain ⟨c6, hc6, hcl6⟩ := Cond.classLink_spec hC.own (hC.tb _ hl1) e.platform hpl
        obtain ⟨a8, b8, g1, g2, g3⟩ := hC.kx.2.2.1.2.2.2.2.2.2.2.2.2.1 (E, E') hE
        cases Option.some.inj (g1.symm.trans hcl)
        cases Option.some.inj (g2.symm.trans hc6)
        exact Or.inr ⟨hw0, _, hcl6, g3⟩) hz (Or.inr ⟨h0, _, hcl5, hasg⟩)
  have hW : W p (gl G) e R s m args below meth c H locs cells slots (MX G Q below s R.cells R.slots) (F0 m z.handlerPc ls [.ref q]) := by
    have hend : ∀ ls' : Array Slot, lv_has ls' y.2.2.1 ((i, Value.ref q) :: (prs G 0 lst).filter (fun q => !(q.1 == i) && !(q.1 + 1 == i && q.2.category == 2))) → W p (gl G) e R s m args below meth c H locs cells slots (MX G Q below s R.cells R.slots) (F0 m pc1 ls' []) := by
      intro ls' h'
      subst hp2
      exact lv_iconst hC.1 hC.2.1 hd2 rfl (aw_iret (lst := []) (x := x) (d := d) (bc := bc) (bs := bs) hd3 hr hq p e R s m args below meth c H locs cells slots ls' hC hH ⟨h'.1, h'.2.1, fun j v hj => by simp at hj⟩ (ok_ki hin (fun w hw => by cases hw)) h1 h2 h3 h4)
    rcases hd1 with ⟨k, hk, hd1, rfl⟩ | ⟨hd1, rfl⟩
    · exact lv_astore_n hC.1 hC.2.1 hd1 hk hL.has hn rfl hend
    · exact lv_astore hC.1 hC.2.1 hd1 hL.has hn rfl hend
  obtain ⟨t, a1, b1⟩ := hW (T.setVm vm') hT X'
  exact ⟨t, st9.trans a1, b1⟩
-- the script
theorem adr_old (G : aG) (k : Nat) : adr G (1000 + k) = go G k := by
  unfold adr
  rw [if_neg (by omega), Nat.add_sub_cancel_left]
theorem aw_sld {n : Nat} {i : Int} (hi : i = (n : Int)) (hn : n < gn G) (hd : decode y.2.1 pc = .ok (.iaload, 1)) (kk : AW G x y d bc bs Q (pc + 1) lst (aI (gx G n) :: st) nn μ) : AW G x y d bc bs Q pc lst (aI i :: aP 1000 :: st) nn μ := by
  subst hi
  intro p e R s m args below meth c0 H locs cells slots ls hC hH hL hs h1 h2 h3 h4
  obtain ⟨-, -, -, -, -, h5, h6, h7, -⟩ := hC.kx.2.2.1
  have ha : cv G (aP 1000) = .ref (go G 0) := by show Value.ref (adr G (1000 + 0)) = _; rw [adr_old]
  rw [List.map_cons, List.map_cons, ha]
  have hr : inR (n : Int) := ok_h hs
  refine va_sld hC.1 hC.2.1 h5 (Nat.lt_of_lt_of_le h6 hC.kx.2.2.2) (fun z => by have : gb G ≤ go G 0 := z; omega) hH.2 (n_in hr (by omega) (by omega)) hd ?_
  rw [n_cl hr, Int.toNat_natCast]
  exact kk p e R s m args below meth c0 H locs cells slots ls hC hH hL (ok_ki (h7 n) (ok_s (ok_s hs))) h1 h2 h3 h4
theorem aw_slen (hd : decode y.2.1 pc = .ok (.arraylength, 1)) (kk : AW G x y d bc bs Q (pc + 1) lst (aI (gn G : Int) :: st) nn μ) : AW G x y d bc bs Q pc lst (aP 1000 :: st) nn μ := by
  intro p e R s m args below meth c0 H locs cells slots ls hC hH hL hs h1 h2 h3 h4
  obtain ⟨-, -, -, -, -, h5, h6, h7, h8, -⟩ := hC.kx.2.2.1
  have ha : cv G (aP 1000) = .ref (go G 0) := by show Value.ref (adr G (1000 + 0)) = _; rw [adr_old]
  rw [List.map_cons, ha]
  refine va_slen hC.1 hC.2.1 h5 (Nat.lt_of_lt_of_le h6 hC.kx.2.2.2) (fun z => by have : gb G ≤ go G 0 := z; omega) hH.2 hd ?_
  rw [← Int32.ofInt_eq_ofNat]
  exact kk p e R s m args below meth c0 H locs cells slots ls hC hH hL (ok_ki (by unfold inR; omega) (ok_s hs)) h1 h2 h3 h4
-- the static array
theorem aw_tw {idx : Nat} {host : String} (hl : Cond.fieldLinkNest y.1.cls idx "MaskedCauses" "TRUE_WORDS" "[J" host ∈ NW) (hd : decode y.2.1 pc = .ok (.getstatic idx, 3)) (kk : AW G x y d bc bs Q (pc + 3) lst (aP 1001 :: st) nn μ) : AW G x y d bc bs Q pc lst st nn μ := by
  intro p e R s m args below meth c0 H locs cells slots ls hC hH hL hs h1 h2 h3 h4
  obtain ⟨-, -, -, hz, -⟩ := hC.kx.2.2.1
  have ha : cv G (aP 1001) = .ref (go G 1) := by show Value.ref (adr G (1000 + 1)) = _; rw [adr_old]
  have hk := kk p e R s m args below meth c0 H locs cells slots ls hC hH hL (ok_kr hs) h1 h2 h3 h4
  rw [List.map_cons, ha] at hk
  exact va_getsN hC.1 hC.2.1 hz hH.2 hC.own (va_Nw.use rfl (hC.kx.1 _ hl)) (fun _ h => h) hd hk
theorem aw_twld {n : Nat} {i : Int} (hi : i = (n : Int)) (hn : n < 6) (hd : decode y.2.1 pc = .ok (.laload, 1)) (kk : AW G x y d bc bs Q (pc + 1) lst (aL ((twL.getD n 0).toBitVec) :: st) nn μ) : AW G x y d bc bs Q pc lst (aI i :: aP 1001 :: st) nn μ := by
  subst hi
  intro p e R s m args below meth c0 H locs cells slots ls hC hH hL hs h1 h2 h3 h4
  obtain ⟨-, -, -, -, hz, -⟩ := hC.kx.2.2.1
  have ha : cv G (aP 1001) = .ref (go G 1) := by show Value.ref (adr G (1000 + 1)) = _; rw [adr_old]
  rw [List.map_cons, List.map_cons, ha]
  have hr : inR (n : Int) := ok_h hs
  refine va_tl hC.1 hC.2.1 hz hH.2 (n_in hr (by omega) (by omega)) (v := .long (twL.getD n 0)) (by rw [n_cl hr, Int.toNat_natCast]; rfl) hd ?_
  exact kk p e R s m args below meth c0 H locs cells slots ls hC hH hL (ok_kr (ok_s (ok_s hs))) h1 h2 h3 h4
end
