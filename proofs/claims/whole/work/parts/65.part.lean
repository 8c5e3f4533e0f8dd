/-! the class: partners -/
section
theorem aw_look {G : aG} {x : Bool} {y : aY} {d bc bs : Nat} {Q : aQ → Nat → aM → Prop} {pc : Nat} {lst : List (Option aV)} {st : List aV} {nn : Nat} {μ : aM} {z : Int} {dflt : Int} {ps : Array (Int × Int)} {len : Nat} {off : Int} {tgt : Nat} (hd : decode y.2.1 pc = .ok (.lookupswitch dflt ps, len)) (hp : (ps.toList.zip (ps.toList.drop 1)).all (fun (a, next) => a.1 < next.1) = true) (ho : Op.lookupswitch.offset ps.toList dflt z = off) (ht : (pc : Int) + off = (tgt : Int)) (k : AW G x y d bc bs Q tgt lst st nn μ) : AW G x y d bc bs Q pc lst (aI z :: st) nn μ := by
  intro p e R s m args below meth c H locs cells slots ls hC hH hL hs h1' h2' h3 h4
  have hz : inR z := ok_h hs
  exact lv_lookup hC.1 hC.2.1 hd hp (by rw [n_ti hz]; exact ho) ht (k p e R s m args below meth c H locs cells slots ls hC hH hL (ok_s hs) h1' h2' h3 h4)
theorem aw_tl {G : aG} {x : Bool} {y : aY} {d bc bs : Nat} {Q : aQ → Nat → aM → Prop} {pc : Nat} {lst : List (Option aV)} {st : List aV} {nn : Nat} {μ : aM} {v v' : BitVec 64} (h : v = v') (k : AW G x y d bc bs Q pc lst (aL v' :: st) nn μ) : AW G x y d bc bs Q pc lst (aL v :: st) nn μ := h ▸ k
def MO : BitVec 64 := 18446744073709551615
def lkW (b : BitVec 64) (w : Nat) : BitVec 64 := if b.getLsbD w then b else b ^^^ MO
def tW (j : Nat) : BitVec 64 := (twL.getD j 0).toBitVec
def hdF (μ : aM) (D c : Nat) (q : Int) : Int := if q = 0 then -1 - ((2 ^ c : Nat) : Int) else if q = 1 then 0 else mI μ (D + 4) c
def abF (μ : aM) (D c : Nat) (q : Int) : BitVec 64 := if q = 0 then mL μ D 9 &&& mL μ (D + 5) c else (mL μ D 9 &&& mL μ (D + 5) c) &&& mL μ (D + 6) c
def pfF (μ : aM) (D c : Nat) (q : Int) (w : Nat) : Nat → BitVec 64
  | 0 => (abF μ D c q &&& (lkW (tW c) w ^^^ MO)) &&& (lkW (mL μ D 8) w ^^^ MO)
  | j + 1 => if ¬ ush (hdF μ D c q) j % 2 = 0 ∧ (mL μ (D + 5) j).getLsbD w = true then pfF μ D c q w j &&& ((mL μ (D + 5) j ^^^ MO) ||| lkW (tW j) w) else pfF μ D c q w j
def ptF (μ : aM) (D k c : Nat) (q : Int) (w : Nat) : BitVec 64 := if (abF μ D c q).getLsbD w then pfF μ D c q w k else 0
theorem sF_none {f : Nat → Bool} (hf : ∀ w, f w = false) : ∀ (m w : Nat), sF f m w = none
  | 0, _ => rfl
  | m + 1, w => by rw [sF, hf w]; exact sF_none hf m (w + 1)
variable {G : aG} {pg : Nat} {μ : aM}
set_option maxRecDepth 100000 in
theorem m_De_likeWord {d : Nat} (hd : 1 ≤ d) {b : BitVec 64} {w : Nat} (hw : w < 64) : AM G false d 0 0 y_De_likeWord [aL b, aI (w : Int)] 94 μ (Qe (some (aL (lkW b w))) 94 μ) := by
  refine am_of (n := 0) pf_De_likeWord (Nat.le_of_ble_eq_true rfl) (by intro v hv; simp only [List.mem_cons, List.not_mem_nil, or_false] at hv; rcases hv with rfl | rfl <;> first | trivial | assumption | exact in_c rfl | exact bI_in _ | (show inR _; unfold inR; omega)) rfl ?_
  refine aw_lload_n d_De_likeWord_0 rfl rfl ?_
  refine aw_iload_n d_De_likeWord_1 rfl rfl ?_
  refine aw_se (as := [_, _]) rfl cs_De_93 d_De_likeWord_2 (Nat.le_of_ble_eq_true rfl) (d' := d - 1) (by omega) (m_MC_contains (by omega) (by omega)) ?_
  refine aw_if_eq (tgt := 12) d_De_likeWord_5 rfl (fun h5 => ?_) (fun h5 => ?_)
  · replace h5 := ite_z h5
    refine aw_lload_n d_De_likeWord_12 rfl rfl ?_
    refine aw_ldc2 (b := MO) kc_De_86 rfl d_De_likeWord_13 ?_
    refine aw_lxor d_De_likeWord_16 ?_
    exact aw_lret d_De_likeWord_17 rfl ⟨by unfold lkW; rw [if_neg h5], rfl, rfl⟩
  · replace h5 := ite_n h5
    refine aw_lload_n d_De_likeWord_8 rfl rfl ?_
    refine aw_goto (tgt := 17) d_De_likeWord_9 rfl ?_
    exact aw_lret d_De_likeWord_17 rfl ⟨by unfold lkW; rw [if_pos h5], rfl, rfl⟩
set_option maxRecDepth 100000 in
theorem m_De_heldFor_0 {d : Nat} (hd : 0 ≤ d) {D : Nat} (hD : isD D) (hR : ∀ k j, mR μ k j = R0 pg k j) {c : Nat} (hc : c < 6) : AM G false d 0 0 y_De_heldFor [aP D, aI (c : Int), aI 0] 94 μ (Qe (some (aI (hdF μ D c 0))) 94 μ) := by
  refine am_of (n := 0) pf_De_heldFor (Nat.le_of_ble_eq_true rfl) (by intro v hv; simp only [List.mem_cons, List.not_mem_nil, or_false] at hv; rcases hv with rfl | rfl | rfl <;> first | trivial | assumption | exact in_c rfl | exact bI_in _ | (show inR _; unfold inR; omega)) rfl ?_
  refine aw_iload_n d_De_heldFor_0 rfl rfl ?_
  refine aw_look (tgt := 28) d_De_heldFor_1 rfl rfl rfl ?_
  refine aw_iconst d_De_heldFor_28 (in_c rfl) ?_
  refine aw_iload_n d_De_heldFor_29 rfl rfl ?_
  refine aw_ishl (a := 1) (k0 := c) rfl rfl (by omega) (by have := Nat.pow_le_pow_right (n := 2) (by omega) (show c ≤ 5 by omega); omega) d_De_heldFor_30 ?_
  refine aw_iconst d_De_heldFor_31 (in_c rfl) ?_
  refine aw_inot d_De_heldFor_32 ?_
  exact aw_iret d_De_heldFor_33 rfl ⟨by unfold hdF; rw [if_pos rfl, Nat.one_mul], rfl, rfl⟩
set_option maxRecDepth 100000 in
theorem m_De_heldFor_1 {d : Nat} (hd : 0 ≤ d) {D : Nat} (hD : isD D) (hR : ∀ k j, mR μ k j = R0 pg k j) {c : Nat} (hc : c < 6) : AM G false d 0 0 y_De_heldFor [aP D, aI (c : Int), aI 1] 94 μ (Qe (some (aI (hdF μ D c 1))) 94 μ) := by
  refine am_of (n := 0) pf_De_heldFor (Nat.le_of_ble_eq_true rfl) (by intro v hv; simp only [List.mem_cons, List.not_mem_nil, or_false] at hv; rcases hv with rfl | rfl | rfl <;> first | trivial | assumption | exact in_c rfl | exact bI_in _ | (show inR _; unfold inR; omega)) rfl ?_
  refine aw_iload_n d_De_heldFor_0 rfl rfl ?_
  refine aw_look (tgt := 34) d_De_heldFor_1 rfl rfl rfl ?_
  refine aw_iconst d_De_heldFor_34 (in_c rfl) ?_
  exact aw_iret d_De_heldFor_35 rfl ⟨rfl, rfl, rfl⟩
set_option maxRecDepth 100000 in
theorem m_De_heldFor_2 {d : Nat} (hd : 0 ≤ d) {D : Nat} (hD : isD D) (hR : ∀ k j, mR μ k j = R0 pg k j) {c : Nat} (hc : c < 6) : AM G false d 0 0 y_De_heldFor [aP D, aI (c : Int), aI 2] 94 μ (Qe (some (aI (hdF μ D c 2))) 94 μ) := by
  refine am_of (n := 0) pf_De_heldFor (Nat.le_of_ble_eq_true rfl) (by intro v hv; simp only [List.mem_cons, List.not_mem_nil, or_false] at hv; rcases hv with rfl | rfl | rfl <;> first | trivial | assumption | exact in_c rfl | exact bI_in _ | (show inR _; unfold inR; omega)) rfl ?_
  refine aw_iload_n d_De_heldFor_0 rfl rfl ?_
  refine aw_look (tgt := 36) d_De_heldFor_1 rfl rfl rfl ?_
  refine aw_aload_n d_De_heldFor_36 rfl rfl ?_
  refine aw_getR fd_De_strangers lk_De_22 (Nat.lt_of_le_of_lt (Nat.le_add_right _ 7) (ltD hD)) (shD0 hD) d_De_heldFor_37 ((hR _ _).trans (rD3 hD)) ?_
  refine aw_iload_n d_De_heldFor_40 rfl rfl ?_
  refine aw_iald (n := c) (by have := ltD hD; omega) (shD4 hD) rfl (by omega) d_De_heldFor_41 ?_
  exact aw_iret d_De_heldFor_42 rfl ⟨rfl, rfl, rfl⟩
theorem m_De_heldFor {d : Nat} (hd : 0 ≤ d) {D : Nat} (hD : isD D) (hR : ∀ k j, mR μ k j = R0 pg k j) {c : Nat} (hc : c < 6) {q : Int} (hq0 : 0 ≤ q) (hq2 : q ≤ 2) : AM G false d 0 0 y_De_heldFor [aP D, aI (c : Int), aI q] 94 μ (Qe (some (aI (hdF μ D c q))) 94 μ) := by
  rcases (show q = 0 ∨ q = 1 ∨ q = 2 by omega) with rfl | rfl | rfl
  · exact m_De_heldFor_0 hd hD hR hc
  · exact m_De_heldFor_1 hd hD hR hc
  · exact m_De_heldFor_2 hd hD hR hc
set_option maxRecDepth 100000 in
theorem m_De_partnersOf {d : Nat} (hd : 2 ≤ d) {D : Nat} (hD : isD D) (hR : ∀ k j, mR μ k j = R0 pg k j) {k : Nat} (hk : mI μ D 7 = (k : Int)) (h6 : k ≤ 6) {w c : Nat} {q : Int} (hw : w < 64) (hc : c < k) (hq0 : 0 ≤ q) (hq2 : q ≤ 2) (hst : inR (mI μ (D + 4) c)) : AM G false d 0 0 y_De_partnersOf [aP D, aI (w : Int), aI (c : Int), aI q] 94 μ (Qe (some (aL (ptF μ D k c q w))) 94 μ) := by
  refine am_of (n := 6) pf_De_partnersOf (Nat.le_of_ble_eq_true rfl) (by intro v hv; simp only [List.mem_cons, List.not_mem_nil, or_false] at hv; rcases hv with rfl | rfl | rfl | rfl <;> first | trivial | assumption | exact in_c rfl | exact bI_in _ | (show inR _; unfold inR; omega)) rfl ?_
  have hhd : inR (hdF μ D c q) := by
    unfold hdF
    split
    · have := Nat.pow_le_pow_right (n := 2) (by omega) (show c ≤ 5 by omega)
      generalize 2 ^ c = t at this ⊢
      unfold inR; omega
    · split
      · exact in_c rfl
      · exact hst
  have key : ∀ (m : Nat) (j : Nat) (b4 : BitVec 64), k - j = m → (j ≤ k ∧ (abF μ D c q).getLsbD w = true) → AW G false y_De_partnersOf d 0 0 (Qe (some (aL (ptF μ D k c q w))) 94 μ) 81 [some (aP D), some (aI (w : Int)), some (aI (c : Int)), some (aI q), some (aL b4), none, some (aL (pfF μ D c q w j)), none, some (aI (hdF μ D c q)), some (aI (j : Int))] [] 94 μ := by
    intro m
    induction m using Nat.strongRecOn with | _ m ih =>
    intro j b4 hm hj
    refine aw_iload d_De_partnersOf_81 rfl ?_
    refine aw_aload_n d_De_partnersOf_83 rfl rfl ?_
    refine aw_getI fd_De_count lk_De_35 (Nat.lt_of_le_of_lt (Nat.le_add_right _ 7) (ltD hD)) (shD0 hD) d_De_partnersOf_84 ?_
    refine aw_tv (v' := (k : Int)) hk ?_
    refine aw_icmp_ge (tgt := 147) d_De_partnersOf_87 rfl (fun h87 => ?_) (fun h87 => ?_)
    · refine aw_lload d_De_partnersOf_147 rfl ?_
      exact aw_lret d_De_partnersOf_149 rfl ⟨by unfold ptF; rw [if_pos hj.2, show j = k by omega], rfl, rfl⟩
    · refine aw_iload d_De_partnersOf_90 rfl ?_
      refine aw_iload d_De_partnersOf_92 rfl ?_
      refine aw_se (as := [_, _]) rfl cs_De_79 d_De_partnersOf_94 (Nat.le_of_ble_eq_true rfl) (d' := d - 1) (by omega) (m_MC_hasBit (by omega) hhd (by omega)) ?_
      refine aw_if_eq (tgt := 141) d_De_partnersOf_97 rfl (fun h97 => ?_) (fun h97 => ?_)
      · replace h97 := iti_z h97
        refine aw_lc (lst' := [_, _, _, _, _, _, some (aL (pfF μ D c q w (j + 1))), _, _, _]) (by simp only [pfF]; rw [if_neg (by intro z; exact z.1 h97)]) ?_
        refine aw_iinc (lst' := [_, _, _, _, _, _, _, _, _, some (aI ((j + 1 : Nat) : Int))]) d_De_partnersOf_141 (Nat.le_of_ble_eq_true rfl) rfl (by unfold inR; omega) rfl ?_
        refine aw_goto (tgt := 81) d_De_partnersOf_144 rfl ?_
        exact ih (k - (j + 1)) (by omega) (j + 1) b4 rfl ⟨by omega, hj.2⟩
      · replace h97 := iti_n h97
        refine aw_aload_n d_De_partnersOf_100 rfl rfl ?_
        refine aw_getR fd_De_evaluating lk_De_25 (Nat.lt_of_le_of_lt (Nat.le_add_right _ 7) (ltD hD)) (shD0 hD) d_De_partnersOf_101 ((hR _ _).trans (rD4 hD)) ?_
        refine aw_iload d_De_partnersOf_104 rfl ?_
        refine aw_lald (n := j) (by have := ltD hD; omega) (shD5 hD) rfl (by omega) d_De_partnersOf_106 ?_
        refine aw_iload_n d_De_partnersOf_107 rfl rfl ?_
        refine aw_se (as := [_, _]) rfl cs_De_93 d_De_partnersOf_108 (Nat.le_of_ble_eq_true rfl) (d' := d - 1) (by omega) (m_MC_contains (by omega) (by omega)) ?_
        refine aw_if_eq (tgt := 141) d_De_partnersOf_111 rfl (fun h111 => ?_) (fun h111 => ?_)
        · replace h111 := ite_z h111
          refine aw_lc (lst' := [_, _, _, _, _, _, some (aL (pfF μ D c q w (j + 1))), _, _, _]) (by simp only [pfF]; rw [if_neg (by intro z; exact h111 z.2)]) ?_
          refine aw_iinc (lst' := [_, _, _, _, _, _, _, _, _, some (aI ((j + 1 : Nat) : Int))]) d_De_partnersOf_141 (Nat.le_of_ble_eq_true rfl) rfl (by unfold inR; omega) rfl ?_
          refine aw_goto (tgt := 81) d_De_partnersOf_144 rfl ?_
          exact ih (k - (j + 1)) (by omega) (j + 1) b4 rfl ⟨by omega, hj.2⟩
        · replace h111 := ite_n h111
          refine aw_lload d_De_partnersOf_114 rfl ?_
          refine aw_aload_n d_De_partnersOf_116 rfl rfl ?_
          refine aw_getR fd_De_evaluating lk_De_25 (Nat.lt_of_le_of_lt (Nat.le_add_right _ 7) (ltD hD)) (shD0 hD) d_De_partnersOf_117 ((hR _ _).trans (rD4 hD)) ?_
          refine aw_iload d_De_partnersOf_120 rfl ?_
          refine aw_lald (n := j) (by have := ltD hD; omega) (shD5 hD) rfl (by omega) d_De_partnersOf_122 ?_
          refine aw_ldc2 (b := MO) kc_De_86 rfl d_De_partnersOf_123 ?_
          refine aw_lxor d_De_partnersOf_126 ?_
          refine aw_tw tw_De_83 d_De_partnersOf_127 ?_
          refine aw_iload d_De_partnersOf_130 rfl ?_
          refine aw_twld (n := j) rfl (by omega) d_De_partnersOf_132 ?_
          refine aw_tl (v' := tW j) rfl ?_
          refine aw_iload_n d_De_partnersOf_133 rfl rfl ?_
          refine aw_pc (pc' := 134) rfl ?_
          refine aw_se (as := [_, _]) rfl cs_De_116 d_De_partnersOf_134 (Nat.le_of_ble_eq_true rfl) (d' := d - 1) (by omega) (m_De_likeWord (by omega) (by omega)) ?_
          refine aw_lor d_De_partnersOf_137 ?_
          refine aw_land d_De_partnersOf_138 ?_
          refine aw_lstore (lst' := [_, _, _, _, _, _, some (aL (pfF μ D c q w (j + 1))), _, _, _]) d_De_partnersOf_139 (Nat.le_of_ble_eq_true rfl) (by simp only [pfF]; rw [if_pos ⟨h97, h111⟩]; rfl) ?_
          refine aw_iinc (lst' := [_, _, _, _, _, _, _, _, _, some (aI ((j + 1 : Nat) : Int))]) d_De_partnersOf_141 (Nat.le_of_ble_eq_true rfl) rfl (by unfold inR; omega) rfl ?_
          refine aw_goto (tgt := 81) d_De_partnersOf_144 rfl ?_
          exact ih (k - (j + 1)) (by omega) (j + 1) b4 rfl ⟨by omega, hj.2⟩
  refine aw_aload_n d_De_partnersOf_0 rfl rfl ?_
  refine aw_getL fd_De_feasibleWords lk_De_43 (Nat.lt_of_le_of_lt (Nat.le_add_right _ 7) (ltD hD)) (shD0 hD) d_De_partnersOf_1 ?_
  refine aw_aload_n d_De_partnersOf_4 rfl rfl ?_
  refine aw_getR fd_De_evaluating lk_De_25 (Nat.lt_of_le_of_lt (Nat.le_add_right _ 7) (ltD hD)) (shD0 hD) d_De_partnersOf_5 ((hR _ _).trans (rD4 hD)) ?_
  refine aw_iload_n d_De_partnersOf_8 rfl rfl ?_
  refine aw_lald (n := c) (by have := ltD hD; omega) (shD5 hD) rfl (by omega) d_De_partnersOf_9 ?_
  refine aw_land d_De_partnersOf_10 ?_
  refine aw_lstore (lst' := [_, _, _, _, _, _, _, _, _, _]) d_De_partnersOf_11 (Nat.le_of_ble_eq_true rfl) rfl ?_
  refine aw_iload_n d_De_partnersOf_13 rfl rfl ?_
  refine aw_if_eq (tgt := 28) d_De_partnersOf_14 rfl (fun h14 => ?_) (fun h14 => ?_)
  · refine aw_lload d_De_partnersOf_28 rfl ?_
    refine aw_tl (v' := abF μ D c q) (by unfold abF; rw [if_pos h14]) ?_
    refine aw_iload_n d_De_partnersOf_30 rfl rfl ?_
    refine aw_se (as := [_, _]) rfl cs_De_93 d_De_partnersOf_31 (Nat.le_of_ble_eq_true rfl) (d' := d - 1) (by omega) (m_MC_contains (by omega) (by omega)) ?_
    refine aw_if_ne (tgt := 39) d_De_partnersOf_34 rfl (fun h34 => ?_) (fun h34 => ?_)
    · replace h34 := ite_n h34
      refine aw_lload d_De_partnersOf_39 rfl ?_
      refine aw_tl (v' := abF μ D c q) (by unfold abF; rw [if_pos h14]) ?_
      refine aw_tw tw_De_83 d_De_partnersOf_41 ?_
      refine aw_iload_n d_De_partnersOf_44 rfl rfl ?_
      refine aw_twld (n := c) rfl (by omega) d_De_partnersOf_45 ?_
      refine aw_tl (v' := tW c) rfl ?_
      refine aw_iload_n d_De_partnersOf_46 rfl rfl ?_
      refine aw_se (as := [_, _]) rfl cs_De_116 d_De_partnersOf_47 (Nat.le_of_ble_eq_true rfl) (d' := d - 1) (by omega) (m_De_likeWord (by omega) (by omega)) ?_
      refine aw_ldc2 (b := MO) kc_De_86 rfl d_De_partnersOf_50 ?_
      refine aw_lxor d_De_partnersOf_53 ?_
      refine aw_land d_De_partnersOf_54 ?_
      refine aw_aload_n d_De_partnersOf_55 rfl rfl ?_
      refine aw_getL fd_De_trueWords lk_De_39 (Nat.lt_of_le_of_lt (Nat.le_add_right _ 7) (ltD hD)) (shD0 hD) d_De_partnersOf_56 ?_
      refine aw_pc (pc' := 59) rfl ?_
      refine aw_iload_n d_De_partnersOf_59 rfl rfl ?_
      refine aw_se (as := [_, _]) rfl cs_De_116 d_De_partnersOf_60 (Nat.le_of_ble_eq_true rfl) (d' := d - 1) (by omega) (m_De_likeWord (by omega) (by omega)) ?_
      refine aw_ldc2 (b := MO) kc_De_86 rfl d_De_partnersOf_63 ?_
      refine aw_lxor d_De_partnersOf_66 ?_
      refine aw_land d_De_partnersOf_67 ?_
      refine aw_lstore (lst' := [_, _, _, _, _, _, _, _, _, _]) d_De_partnersOf_68 (Nat.le_of_ble_eq_true rfl) rfl ?_
      refine aw_aload_n d_De_partnersOf_70 rfl rfl ?_
      refine aw_iload_n d_De_partnersOf_71 rfl rfl ?_
      refine aw_iload_n d_De_partnersOf_72 rfl rfl ?_
      refine aw_ve (as := [_, _]) rfl cv_De_119 (by have := ltD hD; omega) (shD0 hD) rfl d_De_partnersOf_73 (Nat.le_of_ble_eq_true rfl) (d' := d - 1) (by omega) (m_De_heldFor (by omega) hD hR (by omega) hq0 hq2) ?_
      refine aw_istore (lst' := [_, _, _, _, _, _, _, _, _, _]) d_De_partnersOf_76 (Nat.le_of_ble_eq_true rfl) rfl ?_
      refine aw_iconst d_De_partnersOf_78 (in_c rfl) ?_
      refine aw_pc (pc' := 79) rfl ?_
      refine aw_istore (lst' := [_, _, _, _, _, _, _, _, _, _]) d_De_partnersOf_79 (Nat.le_of_ble_eq_true rfl) rfl ?_
      exact key (k - 0) 0 _ rfl ⟨Nat.zero_le _, h34⟩
    · replace h34 := ite_z h34
      refine aw_lconst (b := 0) d_De_partnersOf_37 rfl ?_
      exact aw_lret d_De_partnersOf_38 rfl ⟨by unfold ptF; rw [if_neg h34], rfl, rfl⟩
  · refine aw_lload d_De_partnersOf_17 rfl ?_
    refine aw_aload_n d_De_partnersOf_19 rfl rfl ?_
    refine aw_getR fd_De_decisive lk_De_29 (Nat.lt_of_le_of_lt (Nat.le_add_right _ 7) (ltD hD)) (shD0 hD) d_De_partnersOf_20 ((hR _ _).trans (rD5 hD)) ?_
    refine aw_iload_n d_De_partnersOf_23 rfl rfl ?_
    refine aw_lald (n := c) (by have := ltD hD; omega) (shD6 hD) rfl (by omega) d_De_partnersOf_24 ?_
    refine aw_land d_De_partnersOf_25 ?_
    refine aw_lstore (lst' := [_, _, _, _, _, _, _, _, _, _]) d_De_partnersOf_26 (Nat.le_of_ble_eq_true rfl) rfl ?_
    refine aw_lload d_De_partnersOf_28 rfl ?_
    refine aw_tl (v' := abF μ D c q) (by unfold abF; rw [if_neg h14]) ?_
    refine aw_iload_n d_De_partnersOf_30 rfl rfl ?_
    refine aw_se (as := [_, _]) rfl cs_De_93 d_De_partnersOf_31 (Nat.le_of_ble_eq_true rfl) (d' := d - 1) (by omega) (m_MC_contains (by omega) (by omega)) ?_
    refine aw_if_ne (tgt := 39) d_De_partnersOf_34 rfl (fun h34 => ?_) (fun h34 => ?_)
    · replace h34 := ite_n h34
      refine aw_lload d_De_partnersOf_39 rfl ?_
      refine aw_tl (v' := abF μ D c q) (by unfold abF; rw [if_neg h14]) ?_
      refine aw_tw tw_De_83 d_De_partnersOf_41 ?_
      refine aw_iload_n d_De_partnersOf_44 rfl rfl ?_
      refine aw_twld (n := c) rfl (by omega) d_De_partnersOf_45 ?_
      refine aw_tl (v' := tW c) rfl ?_
      refine aw_iload_n d_De_partnersOf_46 rfl rfl ?_
      refine aw_se (as := [_, _]) rfl cs_De_116 d_De_partnersOf_47 (Nat.le_of_ble_eq_true rfl) (d' := d - 1) (by omega) (m_De_likeWord (by omega) (by omega)) ?_
      refine aw_ldc2 (b := MO) kc_De_86 rfl d_De_partnersOf_50 ?_
      refine aw_lxor d_De_partnersOf_53 ?_
      refine aw_land d_De_partnersOf_54 ?_
      refine aw_aload_n d_De_partnersOf_55 rfl rfl ?_
      refine aw_getL fd_De_trueWords lk_De_39 (Nat.lt_of_le_of_lt (Nat.le_add_right _ 7) (ltD hD)) (shD0 hD) d_De_partnersOf_56 ?_
      refine aw_pc (pc' := 59) rfl ?_
      refine aw_iload_n d_De_partnersOf_59 rfl rfl ?_
      refine aw_se (as := [_, _]) rfl cs_De_116 d_De_partnersOf_60 (Nat.le_of_ble_eq_true rfl) (d' := d - 1) (by omega) (m_De_likeWord (by omega) (by omega)) ?_
      refine aw_ldc2 (b := MO) kc_De_86 rfl d_De_partnersOf_63 ?_
      refine aw_lxor d_De_partnersOf_66 ?_
      refine aw_land d_De_partnersOf_67 ?_
      refine aw_lstore (lst' := [_, _, _, _, _, _, _, _, _, _]) d_De_partnersOf_68 (Nat.le_of_ble_eq_true rfl) rfl ?_
      refine aw_aload_n d_De_partnersOf_70 rfl rfl ?_
      refine aw_iload_n d_De_partnersOf_71 rfl rfl ?_
      refine aw_iload_n d_De_partnersOf_72 rfl rfl ?_
      refine aw_ve (as := [_, _]) rfl cv_De_119 (by have := ltD hD; omega) (shD0 hD) rfl d_De_partnersOf_73 (Nat.le_of_ble_eq_true rfl) (d' := d - 1) (by omega) (m_De_heldFor (by omega) hD hR (by omega) hq0 hq2) ?_
      refine aw_istore (lst' := [_, _, _, _, _, _, _, _, _, _]) d_De_partnersOf_76 (Nat.le_of_ble_eq_true rfl) rfl ?_
      refine aw_iconst d_De_partnersOf_78 (in_c rfl) ?_
      refine aw_pc (pc' := 79) rfl ?_
      refine aw_istore (lst' := [_, _, _, _, _, _, _, _, _, _]) d_De_partnersOf_79 (Nat.le_of_ble_eq_true rfl) rfl ?_
      exact key (k - 0) 0 _ rfl ⟨Nat.zero_le _, h34⟩
    · replace h34 := ite_z h34
      refine aw_lconst (b := 0) d_De_partnersOf_37 rfl ?_
      exact aw_lret d_De_partnersOf_38 rfl ⟨by unfold ptF; rw [if_neg h34], rfl, rfl⟩
set_option maxRecDepth 100000 in
theorem m_De_pairWithin {d : Nat} (hd : 3 ≤ d) {D : Nat} (hD : isD D) (hR : ∀ k j, mR μ k j = R0 pg k j) {S : BitVec 64} {k : Nat} (hk : mI μ D 7 = (k : Int)) (h6 : k ≤ 6) {c : Nat} {q : Int} (hc : c < k) (hq0 : 0 ≤ q) (hq2 : q ≤ 2) (hst : inR (mI μ (D + 4) c))  : AM G false d 0 0 y_De_pairWithin [aP D, aL S, aI (c : Int), aI q] 94 μ (Qe (some (aI (pairS (fun v w => S.getLsbD v && (S &&& ptF μ D k c q v).getLsbD w) (2 ^ k)))) 94 μ) := by
  refine am_of (n := 4) pf_De_pairWithin (Nat.le_of_ble_eq_true rfl) (by intro v hv; simp only [List.mem_cons, List.not_mem_nil, or_false] at hv; rcases hv with rfl | rfl | rfl | rfl <;> first | trivial | assumption | exact in_c rfl | exact bI_in _ | (show inR _; unfold inR; omega)) rfl ?_
  have hpw : 2 ^ k ≤ 64 := Nat.pow_le_pow_right (n := 2) (by omega) h6
  have key : ∀ (m : Nat) (v : Nat) (o6 o7 o8 : Option aV), 2 ^ k - v = m → (v ≤ 2 ^ k ∧ pairS (fun v w => S.getLsbD v && (S &&& ptF μ D k c q v).getLsbD w) (2 ^ k) = oF (fun v w => S.getLsbD v && (S &&& ptF μ D k c q v).getLsbD w) (2 ^ k) (2 ^ k - v) v) → AW G false y_De_pairWithin d 0 0 (Qe (some (aI (pairS (fun v w => S.getLsbD v && (S &&& ptF μ D k c q v).getLsbD w) (2 ^ k)))) 94 μ) 3 [some (aP D), some (aL S), none, some (aI (c : Int)), some (aI q), some (aI (v : Int)), o6, o7, o8] [] 94 μ := by
    intro m
    induction m using Nat.strongRecOn with | _ m ih =>
    intro v o6 o7 o8 hm hv
    have inn : ∀ (m2 : Nat) (w : Nat), 2 ^ k - w = m2 → (v < 2 ^ k ∧ S.getLsbD v = true ∧ v + 1 ≤ w ∧ w ≤ 2 ^ k ∧ sF ((fun v w => S.getLsbD v && (S &&& ptF μ D k c q v).getLsbD w) v) (2 ^ k - (v + 1)) (v + 1) = sF ((fun v w => S.getLsbD v && (S &&& ptF μ D k c q v).getLsbD w) v) (2 ^ k - w) w) → AW G false y_De_pairWithin d 0 0 (Qe (some (aI (pairS (fun v w => S.getLsbD v && (S &&& ptF μ D k c q v).getLsbD w) (2 ^ k)))) 94 μ) 40 [some (aP D), some (aL S), none, some (aI (c : Int)), some (aI q), some (aI (v : Int)), some (aL (S &&& ptF μ D k c q v)), none, some (aI (w : Int))] [] 94 μ := by
      intro m2
      induction m2 using Nat.strongRecOn with | _ m2 ih2 =>
      intro w hm2 hw
      refine aw_lload d_De_pairWithin_40 rfl ?_
      refine aw_lconst (b := 0) d_De_pairWithin_42 rfl ?_
      refine aw_lcmp d_De_pairWithin_43 (fun z43 hz43 => ?_)
      refine aw_if_eq (tgt := 81) d_De_pairWithin_44 rfl (fun h44 => ?_) (fun h44 => ?_)
      · refine aw_iinc (lst' := [_, _, _, _, _, some (aI ((v + 1 : Nat) : Int)), _, _, _]) d_De_pairWithin_81 (Nat.le_of_ble_eq_true rfl) rfl (by unfold inR; omega) rfl ?_
        refine aw_goto (tgt := 3) d_De_pairWithin_84 rfl ?_
        exact ih (2 ^ k - (v + 1)) (by omega) (v + 1) _ _ _ rfl ⟨by omega, hv.2.trans (oF_miss hw.1 (hw.2.2.2.2.trans (sF_none (fun w => by show (S.getLsbD v && (S &&& ptF μ D k c q v).getLsbD w) = false; rw [hz43.mp h44]; simp) _ _)))⟩
      · refine aw_iload d_De_pairWithin_47 rfl ?_
        refine aw_aload_n d_De_pairWithin_49 rfl rfl ?_
        refine aw_ve (as := []) rfl cv_De_109 (by have := ltD hD; omega) (shD0 hD) rfl d_De_pairWithin_50 (Nat.le_of_ble_eq_true rfl) (d' := d - 1) (by omega) (m_De_wordCount (by omega) hD hk h6) ?_
        refine aw_icmp_ge (tgt := 81) d_De_pairWithin_53 rfl (fun h53 => ?_) (fun h53 => ?_)
        · refine aw_iinc (lst' := [_, _, _, _, _, some (aI ((v + 1 : Nat) : Int)), _, _, _]) d_De_pairWithin_81 (Nat.le_of_ble_eq_true rfl) rfl (by unfold inR; omega) rfl ?_
          refine aw_goto (tgt := 3) d_De_pairWithin_84 rfl ?_
          exact ih (2 ^ k - (v + 1)) (by omega) (v + 1) _ _ _ rfl ⟨by omega, hv.2.trans (oF_miss hw.1 (hw.2.2.2.2.trans (sF_end (by omega))))⟩
        · refine aw_lload d_De_pairWithin_56 rfl ?_
          refine aw_iload d_De_pairWithin_58 rfl ?_
          refine aw_se (as := [_, _]) rfl cs_De_93 d_De_pairWithin_60 (Nat.le_of_ble_eq_true rfl) (d' := d - 1) (by omega) (m_MC_contains (by omega) (by omega)) ?_
          refine aw_if_eq (tgt := 75) d_De_pairWithin_63 rfl (fun h63 => ?_) (fun h63 => ?_)
          · replace h63 := ite_z h63
            refine aw_iinc (lst' := [_, _, _, _, _, _, _, _, some (aI ((w + 1 : Nat) : Int))]) d_De_pairWithin_75 (Nat.le_of_ble_eq_true rfl) rfl (by unfold inR; omega) rfl ?_
            refine aw_goto (tgt := 40) d_De_pairWithin_78 rfl ?_
            exact ih2 (2 ^ k - (w + 1)) (by omega) (w + 1) rfl ⟨hw.1, hw.2.1, by omega, by omega, hw.2.2.2.2.trans (sF_miss (by omega) (by show (S.getLsbD v && _) = false; rw [show (S &&& ptF μ D k c q v).getLsbD w = false from by simpa using h63, Bool.and_false]))⟩
          · replace h63 := ite_n h63
            refine aw_bipush (z := 100) d_De_pairWithin_66 (in_c rfl) rfl ?_
            refine aw_iload d_De_pairWithin_68 rfl ?_
            refine aw_imul d_De_pairWithin_70 (by unfold inR; omega) ?_
            refine aw_iload d_De_pairWithin_71 rfl ?_
            refine aw_iadd d_De_pairWithin_73 (by unfold inR; omega) ?_
            exact aw_iret d_De_pairWithin_74 rfl ⟨by rw [hv.2, oF_hit hw.1 (hw.2.2.2.2.trans (sF_hit (by omega) (by show (S.getLsbD v && _) = true; rw [hw.2.1, h63]; rfl)))]; congr 3, rfl, rfl⟩
    refine aw_iload d_De_pairWithin_3 rfl ?_
    refine aw_aload_n d_De_pairWithin_5 rfl rfl ?_
    refine aw_ve (as := []) rfl cv_De_109 (by have := ltD hD; omega) (shD0 hD) rfl d_De_pairWithin_6 (Nat.le_of_ble_eq_true rfl) (d' := d - 1) (by omega) (m_De_wordCount (by omega) hD hk h6) ?_
    refine aw_icmp_ge (tgt := 87) d_De_pairWithin_9 rfl (fun h9 => ?_) (fun h9 => ?_)
    · refine aw_iconst d_De_pairWithin_87 (in_c rfl) ?_
      exact aw_iret d_De_pairWithin_88 rfl ⟨by rw [hv.2, oF_end (by omega)], rfl, rfl⟩
    · refine aw_lload_n d_De_pairWithin_12 rfl rfl ?_
      refine aw_iload d_De_pairWithin_13 rfl ?_
      refine aw_se (as := [_, _]) rfl cs_De_93 d_De_pairWithin_15 (Nat.le_of_ble_eq_true rfl) (d' := d - 1) (by omega) (m_MC_contains (by omega) (by omega)) ?_
      refine aw_if_eq (tgt := 81) d_De_pairWithin_18 rfl (fun h18 => ?_) (fun h18 => ?_)
      · replace h18 := ite_z h18
        refine aw_iinc (lst' := [_, _, _, _, _, some (aI ((v + 1 : Nat) : Int)), _, _, _]) d_De_pairWithin_81 (Nat.le_of_ble_eq_true rfl) rfl (by unfold inR; omega) rfl ?_
        refine aw_goto (tgt := 3) d_De_pairWithin_84 rfl ?_
        exact ih (2 ^ k - (v + 1)) (by omega) (v + 1) _ _ _ rfl ⟨by omega, hv.2.trans (oF_miss (by omega) (sF_none (fun w => by rw [show S.getLsbD v = false from by simpa using h18]; rfl) _ _))⟩
      · replace h18 := ite_n h18
        refine aw_lload_n d_De_pairWithin_21 rfl rfl ?_
        refine aw_aload_n d_De_pairWithin_22 rfl rfl ?_
        refine aw_iload d_De_pairWithin_23 rfl ?_
        refine aw_iload_n d_De_pairWithin_25 rfl rfl ?_
        refine aw_iload d_De_pairWithin_26 rfl ?_
        refine aw_ve (as := [_, _, _]) rfl cv_De_112 (by have := ltD hD; omega) (shD0 hD) rfl d_De_pairWithin_28 (Nat.le_of_ble_eq_true rfl) (d' := d - 1) (by omega) (m_De_partnersOf (by omega) hD hR hk h6 (by omega) hc hq0 hq2 hst) ?_
        refine aw_land d_De_pairWithin_31 ?_
        refine aw_lstore (lst' := [_, _, _, _, _, _, _, _, _]) d_De_pairWithin_32 (Nat.le_of_ble_eq_true rfl) rfl ?_
        refine aw_iload d_De_pairWithin_34 rfl ?_
        refine aw_iconst d_De_pairWithin_36 (in_c rfl) ?_
        refine aw_iadd d_De_pairWithin_37 (by unfold inR; omega) ?_
        refine aw_pc (pc' := 38) rfl ?_
        refine aw_istore (lst' := [_, _, _, _, _, _, _, _, _]) d_De_pairWithin_38 (Nat.le_of_ble_eq_true rfl) rfl ?_
        refine aw_lc (lst' := [some (aP D), some (aL S), none, some (aI (c : Int)), some (aI q), some (aI (v : Int)), some (aL (S &&& ptF μ D k c q v)), none, some (aI ((v + 1 : Nat) : Int))]) rfl ?_
        exact inn (2 ^ k - (v + 1)) (v + 1) rfl ⟨by omega, h18, Nat.le_refl _, by omega, rfl⟩
  refine aw_iconst d_De_pairWithin_0 (in_c rfl) ?_
  refine aw_istore (lst' := [_, _, _, _, _, _, _, _, _]) d_De_pairWithin_1 (Nat.le_of_ble_eq_true rfl) rfl ?_
  exact key (2 ^ k - 0) 0 none none none rfl ⟨Nat.zero_le _, rfl⟩
end
