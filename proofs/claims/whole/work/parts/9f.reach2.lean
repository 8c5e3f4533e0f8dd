/-! the class: what is reached -/
section
theorem rp_eq {J L R : Nat → Int} {nm : Nat → Nat} {T : Nat → BitVec 64} {sh : Bool} {D n x : Nat} {m W : aM} (hW : W = (if x + 1 = n then wL m 16 x MO else m)) (hr : mL W 16 x = (if x + 1 = n then MO else mL m 16 x)) (h4 : ¬ J x = 4) (e12 : mI W 12 = J) (e13 : mI W 13 = L) (e14 : mI W 14 = R) (e15 : mL W 15 = T) :
    (if mI W 12 x = 3 then wL W 16 (mI W 13 x).toNat (mL W 16 x) else wL (wL W 16 (mI W 13 x).toNat (mL W 16 x)) 16 (mI W 14 x).toNat (mL W 16 x &&& opn (mI W 12) (mI W 13) (mL W 15) sh x)) = frS J L R nm T sh D n x m := by
  unfold frS
  rw [if_neg h4, ← hW, ← hr, e12, e13, e14, e15]
theorem lf_eq {J L R : Nat → Int} {nm : Nat → Nat} {T : Nat → BitVec 64} {sh : Bool} {D n x l : Nat} {m W : aM} {r : BitVec 64} (hW : W = (if x + 1 = n then wL m 16 x MO else m)) (hr : r = (if x + 1 = n then MO else mL m 16 x)) (h4 : J x = 4) (hl : nm (L x).toNat = l) :
    wL W (D + 5) l (mL m (D + 5) l ||| r) = frS J L R nm T sh D n x m := by
  unfold frS
  rw [if_pos h4, ← hW, ← hr, hl]
variable {G : aG} {pg : Nat} {μ : aM}
set_option maxRecDepth 100000 in
theorem m_Tr_findReached {d : Nat} (hd : 2 ≤ d) {D : Nat} (hD : isD D) (hR : ∀ k j, mR μ k j = R0 pg k j) {s : Nat} (hs : mI μ 11 6 = (s : Int)) (hs8 : s < 256) {n : Nat} (hn : mI μ 11 5 = (n : Int)) (hn0 : 0 < n) (hn40 : n ≤ 40) (ok : okT (mI μ 12) (mI μ 13) (mI μ 14) s n) {sh : Bool} : AM G false d 0 0 y_Tr_findReached [aP 11, aI (bI sh), aP (D + 5)] 94 μ (Qe none 94 (frP (mI μ 12) (mI μ 13) (mI μ 14) (fun l => cn s.testBit l) (mL μ 15) sh D n n (n - 1) μ)) := by
  refine am_of (n := 1) pf_Tr_findReached (Nat.le_of_ble_eq_true rfl) (by intro v hv; simp only [List.mem_cons, List.not_mem_nil, or_false] at hv; rcases hv with rfl | rfl | rfl <;> first | trivial | assumption | exact in_c rfl | exact bI_in _ | (show inR _; unfold inR; omega)) rfl ?_
  have h26 := isD_26 hD
  have key : ∀ (m : Nat) (k : Nat), n - k = m → k ≤ n → AW G false y_Tr_findReached d 0 0 (Qe none 94 (frP (mI μ 12) (mI μ 13) (mI μ 14) (fun l => cn s.testBit l) (mL μ 15) sh D n n (n - 1) μ)) 7 [some (aP 11), some (aI (bI sh)), some (aP (D + 5)), some (aI ((n : Int) - 1 - (k : Int)))] [] 94 (frP (mI μ 12) (mI μ 13) (mI μ 14) (fun l => cn s.testBit l) (mL μ 15) sh D n k (n - 1) μ) := by
    intro m
    induction m using Nat.strongRecOn with | _ m ih =>
    intro k hm hk
    obtain ⟨f1, f2, f3⟩ := frP_fr (mI μ 12) (mI μ 13) (mI μ 14) (fun l => cn s.testBit l) (mL μ 15) sh D n k (n - 1) μ
    have hRk : ∀ a b, mR (frP (mI μ 12) (mI μ 13) (mI μ 14) (fun l => cn s.testBit l) (mL μ 15) sh D n k (n - 1) μ) a b = R0 pg a b := fun a b => (f2 a b).trans (hR a b)
    have e12 : ∀ b, mI (frP (mI μ 12) (mI μ 13) (mI μ 14) (fun l => cn s.testBit l) (mL μ 15) sh D n k (n - 1) μ) 12 b = mI μ 12 b := fun b => f1 12 b
    have e13 : ∀ b, mI (frP (mI μ 12) (mI μ 13) (mI μ 14) (fun l => cn s.testBit l) (mL μ 15) sh D n k (n - 1) μ) 13 b = mI μ 13 b := fun b => f1 13 b
    have e14 : ∀ b, mI (frP (mI μ 12) (mI μ 13) (mI μ 14) (fun l => cn s.testBit l) (mL μ 15) sh D n k (n - 1) μ) 14 b = mI μ 14 b := fun b => f1 14 b
    have e15 : mL (frP (mI μ 12) (mI μ 13) (mI μ 14) (fun l => cn s.testBit l) (mL μ 15) sh D n k (n - 1) μ) 15 = mL μ 15 := funext fun b => f3 15 b (by omega) (by omega)
    have hnk : mI (frP (mI μ 12) (mI μ 13) (mI μ 14) (fun l => cn s.testBit l) (mL μ 15) sh D n k (n - 1) μ) 11 5 = (n : Int) := (f1 _ _).trans hn
    have hok : okT (mI (frP (mI μ 12) (mI μ 13) (mI μ 14) (fun l => cn s.testBit l) (mL μ 15) sh D n k (n - 1) μ) 12) (mI (frP (mI μ 12) (mI μ 13) (mI μ 14) (fun l => cn s.testBit l) (mL μ 15) sh D n k (n - 1) μ) 13) (mI (frP (mI μ 12) (mI μ 13) (mI μ 14) (fun l => cn s.testBit l) (mL μ 15) sh D n k (n - 1) μ) 14) s n := by rw [show mI (frP (mI μ 12) (mI μ 13) (mI μ 14) (fun l => cn s.testBit l) (mL μ 15) sh D n k (n - 1) μ) 12 = mI μ 12 from funext e12, show mI (frP (mI μ 12) (mI μ 13) (mI μ 14) (fun l => cn s.testBit l) (mL μ 15) sh D n k (n - 1) μ) 13 = mI μ 13 from funext e13, show mI (frP (mI μ 12) (mI μ 13) (mI μ 14) (fun l => cn s.testBit l) (mL μ 15) sh D n k (n - 1) μ) 14 = mI μ 14 from funext e14]; exact ok
    refine aw_iload_n d_Tr_findReached_7 rfl rfl ?_
    refine aw_if_lt (tgt := 76) d_Tr_findReached_8 rfl (fun h8 => ?_) (fun h8 => ?_)
    · exact aw_vret d_Tr_findReached_76 rfl ⟨rfl, rfl, by rw [show k = n by omega]⟩
    · refine aw_iload_n d_Tr_findReached_11 rfl rfl ?_
      refine aw_aload_n d_Tr_findReached_12 rfl rfl ?_
      refine aw_getI fd_Tr_count lk_Tr_28 (by omega) rfl d_Tr_findReached_13 ?_
      refine aw_tv (v' := (n : Int)) hnk ?_
      refine aw_iconst d_Tr_findReached_16 (in_c rfl) ?_
      refine aw_isub d_Tr_findReached_17 (by unfold inR; omega) ?_
      refine aw_icmp_ne (tgt := 30) d_Tr_findReached_18 rfl (fun h18 => ?_) (fun h18 => ?_)
      · refine aw_aload_n d_Tr_findReached_30 rfl rfl ?_
        refine aw_getR fd_Tr_joints lk_Tr_9 (by omega) rfl d_Tr_findReached_31 (hRk _ _) ?_
        refine aw_iload_n d_Tr_findReached_34 rfl rfl ?_
        obtain ⟨o1, o2, o3, o4⟩ := ok (n - 1 - k) (by omega)
        refine aw_tv (v' := (((n - 1 - k) : Nat) : Int)) (by omega) ?_
        refine aw_iald (n := (n - 1 - k)) (by omega) rfl rfl (by omega) d_Tr_findReached_35 ?_
        refine aw_tv (v' := mI μ 12 (n - 1 - k)) (e12 _) ?_
        refine aw_iconst d_Tr_findReached_36 (in_c rfl) ?_
        refine aw_icmp_ne (tgt := 64) d_Tr_findReached_37 rfl (fun h37 => ?_) (fun h37 => ?_)
        · refine aw_aload_n d_Tr_findReached_64 rfl rfl ?_
          refine aw_iload_n d_Tr_findReached_65 rfl rfl ?_
          refine aw_tv (v' := (((n - 1 - k) : Nat) : Int)) (by omega) ?_
          refine aw_iload_n d_Tr_findReached_66 rfl rfl ?_
          refine aw_ve (as := [_, _]) rfl cv_Tr_57 (by omega) rfl rfl d_Tr_findReached_67 (Nat.le_of_ble_eq_true rfl) (d' := d - 1) (by omega) (m_Tr_reachParts (μ := (frP (mI μ 12) (mI μ 13) (mI μ 14) (fun l => cn s.testBit l) (mL μ 15) sh D n k (n - 1) μ)) (s := s) (n := n) (x := (n - 1 - k)) (sh := sh) (by omega) (fun a b => hRk a b) ((f1 _ _).trans hs) hs8 hn40 (by exact hok) (by omega) (by show mI (frP (mI μ 12) (mI μ 13) (mI μ 14) (fun l => cn s.testBit l) (mL μ 15) sh D n k (n - 1) μ) 12 (n - 1 - k) < 4; rw [e12]; omega)) ?_
          refine aw_mm (μ' := (frP (mI μ 12) (mI μ 13) (mI μ 14) (fun l => cn s.testBit l) (mL μ 15) sh D n (k + 1) (n - 1) μ)) (by rw [frP_s]; exact rp_eq (by rw [if_neg (by omega)]) (by rw [if_neg (by omega)]) h37 (funext fun b => e12 b) (funext fun b => e13 b) (funext fun b => e14 b) (by exact e15)) ?_
          refine aw_iinc (lst' := [_, _, _, some (aI ((n : Int) - 1 - ((k + 1 : Nat) : Int)))]) d_Tr_findReached_70 (Nat.le_of_ble_eq_true rfl) rfl (by unfold inR; omega) (by rw [show (n : Int) - 1 - (k : Int) + -1 = (n : Int) - 1 - ((k + 1 : Nat) : Int) by omega]; rfl) ?_
          refine aw_goto (tgt := 7) d_Tr_findReached_73 rfl ?_
          exact ih (n - (k + 1)) (by omega) (k + 1) rfl (by omega)
        · refine aw_aload_n d_Tr_findReached_40 rfl rfl ?_
          refine aw_aload_n d_Tr_findReached_41 rfl rfl ?_
          refine aw_aload_n d_Tr_findReached_42 rfl rfl ?_
          refine aw_getR fd_Tr_lefts lk_Tr_15 (by omega) rfl d_Tr_findReached_43 (hRk _ _) ?_
          refine aw_iload_n d_Tr_findReached_46 rfl rfl ?_
          refine aw_tv (v' := (((n - 1 - k) : Nat) : Int)) (by omega) ?_
          refine aw_iald (n := (n - 1 - k)) (by omega) rfl rfl (by omega) d_Tr_findReached_47 ?_
          obtain ⟨l, hl⟩ : ∃ l : Nat, mI μ 13 (n - 1 - k) = (l : Int) := ⟨(mI μ 13 (n - 1 - k)).toNat, by omega⟩
          have hl8 : l < 8 := by omega
          have hc6 : cn s.testBit l < 6 := by have := (o2 h37).2.2; rw [hl] at this; exact this
          refine aw_tv (v' := (l : Int)) ((e13 _).trans hl) ?_
          refine aw_ve (as := [_]) rfl cv_Tr_46 (by omega) rfl rfl d_Tr_findReached_48 (Nat.le_of_ble_eq_true rfl) (d' := d - 1) (by omega) (m_Tr_numberOf (μ := (frP (mI μ 12) (mI μ 13) (mI μ 14) (fun l => cn s.testBit l) (mL μ 15) sh D n k (n - 1) μ)) (by omega) ((f1 _ _).trans hs) hs8 hl8) ?_
          refine aw_dup2 d_Tr_findReached_51 rfl rfl ?_
          refine aw_lald (n := cn s.testBit l) (by have := ltD hD; omega) (shD5 hD) rfl (by omega) d_Tr_findReached_52 ?_
          refine aw_tl (v' := mL (frP (mI μ 12) (mI μ 13) (mI μ 14) (fun l => cn s.testBit l) (mL μ 15) sh D n k (n - 1) μ) (D + 5) (cn s.testBit l)) rfl ?_
          refine aw_aload_n d_Tr_findReached_53 rfl rfl ?_
          refine aw_getR fd_Tr_reached lk_Tr_25 (by omega) rfl d_Tr_findReached_54 (hRk _ _) ?_
          refine aw_pc (pc' := 57) rfl ?_
          refine aw_iload_n d_Tr_findReached_57 rfl rfl ?_
          refine aw_tv (v' := (((n - 1 - k) : Nat) : Int)) (by omega) ?_
          refine aw_lald (n := (n - 1 - k)) (by omega) rfl rfl (by omega) d_Tr_findReached_58 ?_
          refine aw_tl (v' := mL (frP (mI μ 12) (mI μ 13) (mI μ 14) (fun l => cn s.testBit l) (mL μ 15) sh D n k (n - 1) μ) 16 (n - 1 - k)) rfl ?_
          refine aw_lor d_Tr_findReached_59 ?_
          refine aw_last (n := cn s.testBit l) (by have := ltD hD; omega) (shD5 hD) rfl (by omega) d_Tr_findReached_60 ?_
          refine aw_goto (tgt := 70) d_Tr_findReached_61 rfl ?_
          refine aw_mm (μ' := (frP (mI μ 12) (mI μ 13) (mI μ 14) (fun l => cn s.testBit l) (mL μ 15) sh D n (k + 1) (n - 1) μ)) (by rw [frP_s]; exact lf_eq (by rw [if_neg (by omega)]) (by rw [if_neg (by omega)]) h37 (by rw [hl]; rfl)) ?_
          refine aw_iinc (lst' := [_, _, _, some (aI ((n : Int) - 1 - ((k + 1 : Nat) : Int)))]) d_Tr_findReached_70 (Nat.le_of_ble_eq_true rfl) rfl (by unfold inR; omega) (by rw [show (n : Int) - 1 - (k : Int) + -1 = (n : Int) - 1 - ((k + 1 : Nat) : Int) by omega]; rfl) ?_
          refine aw_goto (tgt := 7) d_Tr_findReached_73 rfl ?_
          exact ih (n - (k + 1)) (by omega) (k + 1) rfl (by omega)
      · refine aw_aload_n d_Tr_findReached_21 rfl rfl ?_
        refine aw_getR fd_Tr_reached lk_Tr_25 (by omega) rfl d_Tr_findReached_22 (hRk _ _) ?_
        refine aw_iload_n d_Tr_findReached_25 rfl rfl ?_
        refine aw_tv (v' := (((n - 1 - k) : Nat) : Int)) (by omega) ?_
        refine aw_ldc2 (b := MO) kc_Tr_50 rfl d_Tr_findReached_26 ?_
        refine aw_last (n := (n - 1 - k)) (by omega) rfl rfl (by omega) d_Tr_findReached_29 ?_
        refine aw_aload_n d_Tr_findReached_30 rfl rfl ?_
        refine aw_getR fd_Tr_joints lk_Tr_9 (by omega) rfl d_Tr_findReached_31 (hRk _ _) ?_
        refine aw_iload_n d_Tr_findReached_34 rfl rfl ?_
        obtain ⟨o1, o2, o3, o4⟩ := ok (n - 1 - k) (by omega)
        refine aw_tv (v' := (((n - 1 - k) : Nat) : Int)) (by omega) ?_
        refine aw_iald (n := (n - 1 - k)) (by omega) rfl rfl (by omega) d_Tr_findReached_35 ?_
        refine aw_tv (v' := mI μ 12 (n - 1 - k)) (e12 _) ?_
        refine aw_iconst d_Tr_findReached_36 (in_c rfl) ?_
        refine aw_icmp_ne (tgt := 64) d_Tr_findReached_37 rfl (fun h37 => ?_) (fun h37 => ?_)
        · refine aw_aload_n d_Tr_findReached_64 rfl rfl ?_
          refine aw_iload_n d_Tr_findReached_65 rfl rfl ?_
          refine aw_tv (v' := (((n - 1 - k) : Nat) : Int)) (by omega) ?_
          refine aw_iload_n d_Tr_findReached_66 rfl rfl ?_
          refine aw_ve (as := [_, _]) rfl cv_Tr_57 (by omega) rfl rfl d_Tr_findReached_67 (Nat.le_of_ble_eq_true rfl) (d' := d - 1) (by omega) (m_Tr_reachParts (μ := (wL (frP (mI μ 12) (mI μ 13) (mI μ 14) (fun l => cn s.testBit l) (mL μ 15) sh D n k (n - 1) μ) 16 (n - 1 - k) MO)) (s := s) (n := n) (x := (n - 1 - k)) (sh := sh) (by omega) (fun a b => hRk a b) ((f1 _ _).trans hs) hs8 hn40 (by exact hok) (by omega) (by show mI (frP (mI μ 12) (mI μ 13) (mI μ 14) (fun l => cn s.testBit l) (mL μ 15) sh D n k (n - 1) μ) 12 (n - 1 - k) < 4; rw [e12]; omega)) ?_
          refine aw_mm (μ' := (frP (mI μ 12) (mI μ 13) (mI μ 14) (fun l => cn s.testBit l) (mL μ 15) sh D n (k + 1) (n - 1) μ)) (by rw [frP_s]; exact rp_eq (by rw [if_pos (by omega)]) (by rw [mL_wL, if_pos ⟨rfl, rfl⟩, if_pos (by omega)]) h37 (funext fun b => e12 b) (funext fun b => e13 b) (funext fun b => e14 b) (by exact e15)) ?_
          refine aw_iinc (lst' := [_, _, _, some (aI ((n : Int) - 1 - ((k + 1 : Nat) : Int)))]) d_Tr_findReached_70 (Nat.le_of_ble_eq_true rfl) rfl (by unfold inR; omega) (by rw [show (n : Int) - 1 - (k : Int) + -1 = (n : Int) - 1 - ((k + 1 : Nat) : Int) by omega]; rfl) ?_
          refine aw_goto (tgt := 7) d_Tr_findReached_73 rfl ?_
          exact ih (n - (k + 1)) (by omega) (k + 1) rfl (by omega)
        · refine aw_aload_n d_Tr_findReached_40 rfl rfl ?_
          refine aw_aload_n d_Tr_findReached_41 rfl rfl ?_
          refine aw_aload_n d_Tr_findReached_42 rfl rfl ?_
          refine aw_getR fd_Tr_lefts lk_Tr_15 (by omega) rfl d_Tr_findReached_43 (hRk _ _) ?_
          refine aw_iload_n d_Tr_findReached_46 rfl rfl ?_
          refine aw_tv (v' := (((n - 1 - k) : Nat) : Int)) (by omega) ?_
          refine aw_iald (n := (n - 1 - k)) (by omega) rfl rfl (by omega) d_Tr_findReached_47 ?_
          obtain ⟨l, hl⟩ : ∃ l : Nat, mI μ 13 (n - 1 - k) = (l : Int) := ⟨(mI μ 13 (n - 1 - k)).toNat, by omega⟩
          have hl8 : l < 8 := by omega
          have hc6 : cn s.testBit l < 6 := by have := (o2 h37).2.2; rw [hl] at this; exact this
          refine aw_tv (v' := (l : Int)) ((e13 _).trans hl) ?_
          refine aw_ve (as := [_]) rfl cv_Tr_46 (by omega) rfl rfl d_Tr_findReached_48 (Nat.le_of_ble_eq_true rfl) (d' := d - 1) (by omega) (m_Tr_numberOf (μ := (wL (frP (mI μ 12) (mI μ 13) (mI μ 14) (fun l => cn s.testBit l) (mL μ 15) sh D n k (n - 1) μ) 16 (n - 1 - k) MO)) (by omega) ((f1 _ _).trans hs) hs8 hl8) ?_
          refine aw_dup2 d_Tr_findReached_51 rfl rfl ?_
          refine aw_lald (n := cn s.testBit l) (by have := ltD hD; omega) (shD5 hD) rfl (by omega) d_Tr_findReached_52 ?_
          refine aw_tl (v' := mL (frP (mI μ 12) (mI μ 13) (mI μ 14) (fun l => cn s.testBit l) (mL μ 15) sh D n k (n - 1) μ) (D + 5) (cn s.testBit l)) (by rw [mL_wL, if_neg (by omega)]) ?_
          refine aw_aload_n d_Tr_findReached_53 rfl rfl ?_
          refine aw_getR fd_Tr_reached lk_Tr_25 (by omega) rfl d_Tr_findReached_54 (hRk _ _) ?_
          refine aw_pc (pc' := 57) rfl ?_
          refine aw_iload_n d_Tr_findReached_57 rfl rfl ?_
          refine aw_tv (v' := (((n - 1 - k) : Nat) : Int)) (by omega) ?_
          refine aw_lald (n := (n - 1 - k)) (by omega) rfl rfl (by omega) d_Tr_findReached_58 ?_
          refine aw_tl (v' := MO) (by rw [mL_wL, if_pos ⟨rfl, rfl⟩]) ?_
          refine aw_lor d_Tr_findReached_59 ?_
          refine aw_last (n := cn s.testBit l) (by have := ltD hD; omega) (shD5 hD) rfl (by omega) d_Tr_findReached_60 ?_
          refine aw_goto (tgt := 70) d_Tr_findReached_61 rfl ?_
          refine aw_mm (μ' := (frP (mI μ 12) (mI μ 13) (mI μ 14) (fun l => cn s.testBit l) (mL μ 15) sh D n (k + 1) (n - 1) μ)) (by rw [frP_s]; exact lf_eq (by rw [if_pos (by omega)]) (by rw [if_pos (by omega)]) h37 (by rw [hl]; rfl)) ?_
          refine aw_iinc (lst' := [_, _, _, some (aI ((n : Int) - 1 - ((k + 1 : Nat) : Int)))]) d_Tr_findReached_70 (Nat.le_of_ble_eq_true rfl) rfl (by unfold inR; omega) (by rw [show (n : Int) - 1 - (k : Int) + -1 = (n : Int) - 1 - ((k + 1 : Nat) : Int) by omega]; rfl) ?_
          refine aw_goto (tgt := 7) d_Tr_findReached_73 rfl ?_
          exact ih (n - (k + 1)) (by omega) (k + 1) rfl (by omega)
  refine aw_aload_n d_Tr_findReached_0 rfl rfl ?_
  refine aw_getI fd_Tr_count lk_Tr_28 (by omega) rfl d_Tr_findReached_1 ?_
  refine aw_tv (v' := (n : Int)) hn ?_
  refine aw_iconst d_Tr_findReached_4 (in_c rfl) ?_
  refine aw_isub d_Tr_findReached_5 (by unfold inR; omega) ?_
  refine aw_istore_n (lst' := [_, _, _, _]) d_Tr_findReached_6 rfl (Nat.le_of_ble_eq_true rfl) rfl ?_
  refine aw_mm (μ' := (frP (mI μ 12) (mI μ 13) (mI μ 14) (fun l => cn s.testBit l) (mL μ 15) sh D n 0 (n - 1) μ)) rfl ?_
  refine aw_lc (lst' := [_, _, _, some (aI ((n : Int) - 1 - ((0 : Nat) : Int)))]) (by (rw [show (n : Int) - 1 - ((0 : Nat) : Int) = (n : Int) - 1 by omega]) <;> rfl) ?_
  exact key (n - 0) 0 rfl (Nat.zero_le _)
end
