section
variable {G : aG} {x : Bool} {y : aY} {d bc bs : Nat} {Q : aQ → Nat → aM → Prop} {pc : Nat} {lst : List (Option aV)} {st : List aV} {nn : Nat} {μ : aM}
theorem aw_icmp_eq {a b : Int} {off : Int} {tgt : Nat} (hd : decode y.2.1 pc = .ok (.if_icmp .eq off, 3)) (ht : (pc : Int) + off = (tgt : Int)) (kt : a = b → AW G x y d bc bs Q tgt lst st nn μ) (kf : ¬ (a = b) → AW G x y d bc bs Q (pc + 3) lst st nn μ) : AW G x y d bc bs Q pc lst (aI b :: aI a :: st) nn μ := by
  intro p e R s m args below meth c H locs cells slots ls hC hH hL hs h1 h2 h3 h4
  have kt' := fun z => kt z p e R s m args below meth c H locs cells slots ls hC hH hL (ok_s (ok_s hs)) h1 h2 h3 h4
  have kf' := fun z => kf z p e R s m args below meth c H locs cells slots ls hC hH hL (ok_s (ok_s hs)) h1 h2 h3 h4
  exact lv_icmp_eq hC.1 hC.2.1 hd ht (fun h => kt' ((n_eq (ok_h (ok_s hs)) (ok_h hs)).mp h)) (fun h => kf' (fun z => h ((n_eq (ok_h (ok_s hs)) (ok_h hs)).mpr z)))
theorem aw_if_eq {a : Int} {off : Int} {tgt : Nat} (hd : decode y.2.1 pc = .ok (.ifCond .eq off, 3)) (ht : (pc : Int) + off = (tgt : Int)) (kt : a = 0 → AW G x y d bc bs Q tgt lst st nn μ) (kf : ¬ (a = 0) → AW G x y d bc bs Q (pc + 3) lst st nn μ) : AW G x y d bc bs Q pc lst (aI a :: st) nn μ := by
  intro p e R s m args below meth c H locs cells slots ls hC hH hL hs h1 h2 h3 h4
  have kt' := fun z => kt z p e R s m args below meth c H locs cells slots ls hC hH hL (ok_s hs) h1 h2 h3 h4
  have kf' := fun z => kf z p e R s m args below meth c H locs cells slots ls hC hH hL (ok_s hs) h1 h2 h3 h4
  exact lv_if_eq hC.1 hC.2.1 hd ht (fun h => kt' ((n_eq (ok_h hs) inR_0).mp h)) (fun h => kf' (fun z => h ((n_eq (ok_h hs) inR_0).mpr z)))
theorem aw_icmp_ne {a b : Int} {off : Int} {tgt : Nat} (hd : decode y.2.1 pc = .ok (.if_icmp .ne off, 3)) (ht : (pc : Int) + off = (tgt : Int)) (kt : ¬ a = b → AW G x y d bc bs Q tgt lst st nn μ) (kf : a = b → AW G x y d bc bs Q (pc + 3) lst st nn μ) : AW G x y d bc bs Q pc lst (aI b :: aI a :: st) nn μ := by
  intro p e R s m args below meth c H locs cells slots ls hC hH hL hs h1 h2 h3 h4
  have kt' := fun z => kt z p e R s m args below meth c H locs cells slots ls hC hH hL (ok_s (ok_s hs)) h1 h2 h3 h4
  have kf' := fun z => kf z p e R s m args below meth c H locs cells slots ls hC hH hL (ok_s (ok_s hs)) h1 h2 h3 h4
  exact lv_icmp_ne hC.1 hC.2.1 hd ht (fun h => kt' (fun z => h ((n_eq (ok_h (ok_s hs)) (ok_h hs)).mpr z))) (fun h => kf' ((n_eq (ok_h (ok_s hs)) (ok_h hs)).mp h))
theorem aw_if_ne {a : Int} {off : Int} {tgt : Nat} (hd : decode y.2.1 pc = .ok (.ifCond .ne off, 3)) (ht : (pc : Int) + off = (tgt : Int)) (kt : ¬ a = 0 → AW G x y d bc bs Q tgt lst st nn μ) (kf : a = 0 → AW G x y d bc bs Q (pc + 3) lst st nn μ) : AW G x y d bc bs Q pc lst (aI a :: st) nn μ := by
  intro p e R s m args below meth c H locs cells slots ls hC hH hL hs h1 h2 h3 h4
  have kt' := fun z => kt z p e R s m args below meth c H locs cells slots ls hC hH hL (ok_s hs) h1 h2 h3 h4
  have kf' := fun z => kf z p e R s m args below meth c H locs cells slots ls hC hH hL (ok_s hs) h1 h2 h3 h4
  exact lv_if_ne hC.1 hC.2.1 hd ht (fun h => kt' (fun z => h ((n_eq (ok_h hs) inR_0).mpr z))) (fun h => kf' ((n_eq (ok_h hs) inR_0).mp h))
theorem aw_icmp_lt {a b : Int} {off : Int} {tgt : Nat} (hd : decode y.2.1 pc = .ok (.if_icmp .lt off, 3)) (ht : (pc : Int) + off = (tgt : Int)) (kt : a < b → AW G x y d bc bs Q tgt lst st nn μ) (kf : ¬ (a < b) → AW G x y d bc bs Q (pc + 3) lst st nn μ) : AW G x y d bc bs Q pc lst (aI b :: aI a :: st) nn μ := by
  intro p e R s m args below meth c H locs cells slots ls hC hH hL hs h1 h2 h3 h4
  have kt' := fun z => kt z p e R s m args below meth c H locs cells slots ls hC hH hL (ok_s (ok_s hs)) h1 h2 h3 h4
  have kf' := fun z => kf z p e R s m args below meth c H locs cells slots ls hC hH hL (ok_s (ok_s hs)) h1 h2 h3 h4
  exact lv_icmp_lt hC.1 hC.2.1 hd ht (fun h => kt' ((n_lt (ok_h (ok_s hs)) (ok_h hs)).mp h)) (fun h => kf' (fun z => h ((n_lt (ok_h (ok_s hs)) (ok_h hs)).mpr z)))
theorem aw_if_lt {a : Int} {off : Int} {tgt : Nat} (hd : decode y.2.1 pc = .ok (.ifCond .lt off, 3)) (ht : (pc : Int) + off = (tgt : Int)) (kt : a < 0 → AW G x y d bc bs Q tgt lst st nn μ) (kf : ¬ (a < 0) → AW G x y d bc bs Q (pc + 3) lst st nn μ) : AW G x y d bc bs Q pc lst (aI a :: st) nn μ := by
  intro p e R s m args below meth c H locs cells slots ls hC hH hL hs h1 h2 h3 h4
  have kt' := fun z => kt z p e R s m args below meth c H locs cells slots ls hC hH hL (ok_s hs) h1 h2 h3 h4
  have kf' := fun z => kf z p e R s m args below meth c H locs cells slots ls hC hH hL (ok_s hs) h1 h2 h3 h4
  exact lv_if_lt hC.1 hC.2.1 hd ht (fun h => kt' ((n_lt (ok_h hs) inR_0).mp h)) (fun h => kf' (fun z => h ((n_lt (ok_h hs) inR_0).mpr z)))
theorem aw_icmp_ge {a b : Int} {off : Int} {tgt : Nat} (hd : decode y.2.1 pc = .ok (.if_icmp .ge off, 3)) (ht : (pc : Int) + off = (tgt : Int)) (kt : b ≤ a → AW G x y d bc bs Q tgt lst st nn μ) (kf : ¬ (b ≤ a) → AW G x y d bc bs Q (pc + 3) lst st nn μ) : AW G x y d bc bs Q pc lst (aI b :: aI a :: st) nn μ := by
  intro p e R s m args below meth c H locs cells slots ls hC hH hL hs h1 h2 h3 h4
  have kt' := fun z => kt z p e R s m args below meth c H locs cells slots ls hC hH hL (ok_s (ok_s hs)) h1 h2 h3 h4
  have kf' := fun z => kf z p e R s m args below meth c H locs cells slots ls hC hH hL (ok_s (ok_s hs)) h1 h2 h3 h4
  exact lv_icmp_ge hC.1 hC.2.1 hd ht (fun h => kt' ((n_le (ok_h hs) (ok_h (ok_s hs))).mp h)) (fun h => kf' (fun z => h ((n_le (ok_h hs) (ok_h (ok_s hs))).mpr z)))
theorem aw_if_ge {a : Int} {off : Int} {tgt : Nat} (hd : decode y.2.1 pc = .ok (.ifCond .ge off, 3)) (ht : (pc : Int) + off = (tgt : Int)) (kt : 0 ≤ a → AW G x y d bc bs Q tgt lst st nn μ) (kf : ¬ (0 ≤ a) → AW G x y d bc bs Q (pc + 3) lst st nn μ) : AW G x y d bc bs Q pc lst (aI a :: st) nn μ := by
  intro p e R s m args below meth c H locs cells slots ls hC hH hL hs h1 h2 h3 h4
  have kt' := fun z => kt z p e R s m args below meth c H locs cells slots ls hC hH hL (ok_s hs) h1 h2 h3 h4
  have kf' := fun z => kf z p e R s m args below meth c H locs cells slots ls hC hH hL (ok_s hs) h1 h2 h3 h4
  exact lv_if_ge hC.1 hC.2.1 hd ht (fun h => kt' ((n_le inR_0 (ok_h hs)).mp h)) (fun h => kf' (fun z => h ((n_le inR_0 (ok_h hs)).mpr z)))
theorem aw_icmp_gt {a b : Int} {off : Int} {tgt : Nat} (hd : decode y.2.1 pc = .ok (.if_icmp .gt off, 3)) (ht : (pc : Int) + off = (tgt : Int)) (kt : b < a → AW G x y d bc bs Q tgt lst st nn μ) (kf : ¬ (b < a) → AW G x y d bc bs Q (pc + 3) lst st nn μ) : AW G x y d bc bs Q pc lst (aI b :: aI a :: st) nn μ := by
  intro p e R s m args below meth c H locs cells slots ls hC hH hL hs h1 h2 h3 h4
  have kt' := fun z => kt z p e R s m args below meth c H locs cells slots ls hC hH hL (ok_s (ok_s hs)) h1 h2 h3 h4
  have kf' := fun z => kf z p e R s m args below meth c H locs cells slots ls hC hH hL (ok_s (ok_s hs)) h1 h2 h3 h4
  exact lv_icmp_gt hC.1 hC.2.1 hd ht (fun h => kt' ((n_lt (ok_h hs) (ok_h (ok_s hs))).mp h)) (fun h => kf' (fun z => h ((n_lt (ok_h hs) (ok_h (ok_s hs))).mpr z)))
theorem aw_if_gt {a : Int} {off : Int} {tgt : Nat} (hd : decode y.2.1 pc = .ok (.ifCond .gt off, 3)) (ht : (pc : Int) + off = (tgt : Int)) (kt : 0 < a → AW G x y d bc bs Q tgt lst st nn μ) (kf : ¬ (0 < a) → AW G x y d bc bs Q (pc + 3) lst st nn μ) : AW G x y d bc bs Q pc lst (aI a :: st) nn μ := by
  intro p e R s m args below meth c H locs cells slots ls hC hH hL hs h1 h2 h3 h4
  have kt' := fun z => kt z p e R s m args below meth c H locs cells slots ls hC hH hL (ok_s hs) h1 h2 h3 h4
  have kf' := fun z => kf z p e R s m args below meth c H locs cells slots ls hC hH hL (ok_s hs) h1 h2 h3 h4
  exact lv_if_gt hC.1 hC.2.1 hd ht (fun h => kt' ((n_lt inR_0 (ok_h hs)).mp h)) (fun h => kf' (fun z => h ((n_lt inR_0 (ok_h hs)).mpr z)))
theorem aw_icmp_le {a b : Int} {off : Int} {tgt : Nat} (hd : decode y.2.1 pc = .ok (.if_icmp .le off, 3)) (ht : (pc : Int) + off = (tgt : Int)) (kt : a ≤ b → AW G x y d bc bs Q tgt lst st nn μ) (kf : ¬ (a ≤ b) → AW G x y d bc bs Q (pc + 3) lst st nn μ) : AW G x y d bc bs Q pc lst (aI b :: aI a :: st) nn μ := by
  intro p e R s m args below meth c H locs cells slots ls hC hH hL hs h1 h2 h3 h4
  have kt' := fun z => kt z p e R s m args below meth c H locs cells slots ls hC hH hL (ok_s (ok_s hs)) h1 h2 h3 h4
  have kf' := fun z => kf z p e R s m args below meth c H locs cells slots ls hC hH hL (ok_s (ok_s hs)) h1 h2 h3 h4
  exact lv_icmp_le hC.1 hC.2.1 hd ht (fun h => kt' ((n_le (ok_h (ok_s hs)) (ok_h hs)).mp h)) (fun h => kf' (fun z => h ((n_le (ok_h (ok_s hs)) (ok_h hs)).mpr z)))
theorem aw_if_le {a : Int} {off : Int} {tgt : Nat} (hd : decode y.2.1 pc = .ok (.ifCond .le off, 3)) (ht : (pc : Int) + off = (tgt : Int)) (kt : a ≤ 0 → AW G x y d bc bs Q tgt lst st nn μ) (kf : ¬ (a ≤ 0) → AW G x y d bc bs Q (pc + 3) lst st nn μ) : AW G x y d bc bs Q pc lst (aI a :: st) nn μ := by
  intro p e R s m args below meth c H locs cells slots ls hC hH hL hs h1 h2 h3 h4
  have kt' := fun z => kt z p e R s m args below meth c H locs cells slots ls hC hH hL (ok_s hs) h1 h2 h3 h4
  have kf' := fun z => kf z p e R s m args below meth c H locs cells slots ls hC hH hL (ok_s hs) h1 h2 h3 h4
  exact lv_if_le hC.1 hC.2.1 hd ht (fun h => kt' ((n_le (ok_h hs) inR_0).mp h)) (fun h => kf' (fun z => h ((n_le (ok_h hs) inR_0).mpr z)))
end
