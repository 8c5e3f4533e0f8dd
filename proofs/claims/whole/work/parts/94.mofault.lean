/-! the reference reads the text -/
section
theorem more_256 {md : Nat} {c : Int} {s : Nat} (hmd : md ≤ 8) (hs : s < 256) : more md c s < 256 := by
  unfold more
  split
  · rename_i g
    have h2 : 2 ^ (c - 65).toNat < 2 ^ 8 := Nat.pow_lt_pow_right (by omega) (by have := g.1; have := g.2; omega)
    exact Nat.or_lt_two_pow (n := 8) hs h2
  · exact hs
variable {G : aG} {pg : Nat} {μ : aM}
set_option maxRecDepth 100000 in
theorem m_Mo_faultOf {d : Nat} (hd : 1 ≤ d) (hR : ∀ k j, mR μ k j = R0 pg k j) {n md : Nat} (hn : n ≤ 40) (hmd : mI μ 67 4 = (md : Int)) (hmd8 : md ≤ 8) (hch : ∀ p, p < n → 0 ≤ mI μ 74 p ∧ mI μ 74 p < 65536) : AM G false d 0 0 y_Mo_faultOf [aP 67, aI (n : Int)] 94 μ (Qn (fun r n9 m => n9 = 94 ∧ ((∃ q s : Nat, Flt (mI μ 74) md n q ∧ r = some (aI (q : Int)) ∧ m = wI μ 67 27 (s : Int)) ∨ (∃ s : Nat, au (mI μ 74) md n = some (false, 1, s) ∧ r = some (aI (-1)) ∧ m = wI μ 67 27 (s : Int))))) := by
  refine am_of (n := 6) pf_Mo_faultOf (Nat.le_of_ble_eq_true rfl) (by intro v hv; simp only [List.mem_cons, List.not_mem_nil, or_false] at hv; rcases hv with rfl | rfl <;> first | trivial | assumption | exact in_c rfl | exact bI_in _ | (show inR _; unfold inR; omega)) rfl ?_
  have key : ∀ (m : Nat) (p : Nat) (w : Bool) (dd s : Nat) (o5 o6 o7 : Option aV), n - p = m → (p ≤ n ∧ au (mI μ 74) md p = some (w, dd, s)) → AW G false y_Mo_faultOf d 0 0 (Qn (fun r n9 m => n9 = 94 ∧ ((∃ q s : Nat, Flt (mI μ 74) md n q ∧ r = some (aI (q : Int)) ∧ m = wI μ 67 27 (s : Int)) ∨ (∃ s : Nat, au (mI μ 74) md n = some (false, 1, s) ∧ r = some (aI (-1)) ∧ m = wI μ 67 27 (s : Int))))) 12 [some (aP 67), some (aI (n : Int)), some (aI (bI w)), some (aI (dd : Int)), some (aI (p : Int)), o5, o6, o7] [] 94 (wI μ 67 27 (s : Int)) := by
    intro m
    induction m using Nat.strongRecOn with | _ m ih =>
    intro p w dd s o5 o6 o7 hm hp
    obtain ⟨i1, i2, i3, i4⟩ := au_in hmd8 hp.2
    replace i1 : 1 ≤ dd := i1
    replace i2 : dd ≤ 6 := i2
    replace i3 : s < 256 := i3
    have hc := hch p
    have hmo : more md (mI μ 74 p) s < 256 := more_256 hmd8 i3
    refine aw_iload d_Mo_faultOf_12 rfl ?_
    refine aw_iload_n d_Mo_faultOf_14 rfl rfl ?_
    refine aw_icmp_ge (tgt := 191) d_Mo_faultOf_15 rfl (fun h15 => ?_) (fun h15 => ?_)
    · refine aw_iload_n d_Mo_faultOf_191 rfl rfl ?_
      refine aw_if_ne (tgt := 200) d_Mo_faultOf_192 rfl (fun h192 => ?_) (fun h192 => ?_)
      · replace h192 := bn h192
        refine aw_iload_n d_Mo_faultOf_200 rfl rfl ?_
        refine aw_goto (tgt := 205) d_Mo_faultOf_201 rfl ?_
        exact aw_iret d_Mo_faultOf_205 rfl ⟨rfl, Or.inl ⟨n, _, ⟨(w, dd, s), by rw [← show p = n by omega]; exact hp.2, Or.inr ⟨rfl, Or.inl h192⟩⟩, rfl, rfl⟩⟩
      · replace h192 := bz h192
        refine aw_iload_n d_Mo_faultOf_195 rfl rfl ?_
        refine aw_iconst d_Mo_faultOf_196 (in_c rfl) ?_
        refine aw_icmp_le (tgt := 204) d_Mo_faultOf_197 rfl (fun h197 => ?_) (fun h197 => ?_)
        · refine aw_iconst d_Mo_faultOf_204 (in_c rfl) ?_
          exact aw_iret d_Mo_faultOf_205 rfl ⟨rfl, Or.inr ⟨s, by rw [← show p = n by omega, hp.2, h192, show dd = 1 by omega], rfl, rfl⟩⟩
        · refine aw_iload_n d_Mo_faultOf_200 rfl rfl ?_
          refine aw_goto (tgt := 205) d_Mo_faultOf_201 rfl ?_
          exact aw_iret d_Mo_faultOf_205 rfl ⟨rfl, Or.inl ⟨n, _, ⟨(w, dd, s), by rw [← show p = n by omega]; exact hp.2, Or.inr ⟨rfl, Or.inr (show 1 < dd by omega)⟩⟩, rfl, rfl⟩⟩
    · refine aw_aload_n d_Mo_faultOf_18 rfl rfl ?_
      refine aw_getR fd_Mo_text lk_Mo_28 (by omega) rfl d_Mo_faultOf_19 (hR _ _) ?_
      refine aw_iload d_Mo_faultOf_22 rfl ?_
      refine aw_iald (n := p) (by omega) rfl rfl (by omega) d_Mo_faultOf_24 ?_
      replace hc := hc (by omega)
      refine aw_tv (v' := (mI μ 74 p)) (by rw [mI_wI, if_neg (by omega)]) ?_
      refine aw_istore (lst' := [_, _, _, _, _, _, _, _]) d_Mo_faultOf_25 (Nat.le_of_ble_eq_true rfl) rfl ?_
      refine aw_iload d_Mo_faultOf_27 rfl ?_
      refine aw_bipush (z := 65) d_Mo_faultOf_29 (in_c rfl) rfl ?_
      refine aw_icmp_lt (tgt := 50) d_Mo_faultOf_31 rfl (fun h31 => ?_) (fun h31 => ?_)
      · refine aw_iconst d_Mo_faultOf_50 (in_c rfl) ?_
        refine aw_tv (v' := bI (decide (isLt md (mI μ 74 p)))) (by rw [decide_eq_false (fun z => by have := z.1; omega)]; rfl) ?_
        refine aw_istore (lst' := [_, _, _, _, _, _, _, _]) d_Mo_faultOf_51 (Nat.le_of_ble_eq_true rfl) rfl ?_
        refine aw_iload d_Mo_faultOf_53 rfl ?_
        refine aw_if_eq (tgt := 73) d_Mo_faultOf_55 rfl (fun h55 => ?_) (fun h55 => ?_)
        · replace h55 := bz h55
          refine aw_aload_n d_Mo_faultOf_73 rfl rfl ?_
          refine aw_getI fd_Mo_seen lk_Mo_103 (by omega) rfl d_Mo_faultOf_74 ?_
          refine aw_tv (v' := (s : Int)) (by rw [mI_wI, if_pos ⟨rfl, rfl⟩]) ?_
          refine aw_tv (v' := (((more md (mI μ 74 p) s) : Nat) : Int)) (by unfold more; rw [if_neg (of_decide_eq_false h55)]) ?_
          refine aw_istore (lst' := [_, _, _, _, _, _, _, _]) d_Mo_faultOf_77 (Nat.le_of_ble_eq_true rfl) rfl ?_
          refine aw_iload_n d_Mo_faultOf_79 rfl rfl ?_
          refine aw_if_eq (tgt := 138) d_Mo_faultOf_80 rfl (fun h80 => ?_) (fun h80 => ?_)
          · replace h80 := bz h80
            refine aw_iload d_Mo_faultOf_138 rfl ?_
            refine aw_bipush (z := 41) d_Mo_faultOf_140 (in_c rfl) rfl ?_
            refine aw_icmp_ne (tgt := 156) d_Mo_faultOf_142 rfl (fun h142 => ?_) (fun h142 => ?_)
            · refine aw_iload d_Mo_faultOf_156 rfl ?_
              refine aw_bipush (z := 38) d_Mo_faultOf_158 (in_c rfl) rfl ?_
              refine aw_icmp_eq (tgt := 177) d_Mo_faultOf_160 rfl (fun h160 => ?_) (fun h160 => ?_)
              · refine aw_iconst d_Mo_faultOf_177 (in_c rfl) ?_
                refine aw_istore_n (lst' := [_, _, some (aI (bI true)), _, _, _, _, _]) d_Mo_faultOf_178 rfl (Nat.le_of_ble_eq_true rfl) rfl ?_
                refine aw_goto (tgt := 185) d_Mo_faultOf_179 rfl ?_
                refine aw_iinc (lst' := [_, _, _, _, some (aI (((p + 1 : Nat) : Int))), _, _, _]) d_Mo_faultOf_185 (Nat.le_of_ble_eq_true rfl) rfl (by unfold inR; omega) (by rfl) ?_
                refine aw_goto (tgt := 12) d_Mo_faultOf_188 rfl ?_
                exact ih (n - (p + 1)) (by omega) (p + 1) true dd s _ _ _ rfl ⟨by omega, by rw [au_step hp.2, h80]; exact aus_sign (by intro z; omega) (by omega)⟩
              · refine aw_iload d_Mo_faultOf_163 rfl ?_
                refine aw_bipush (z := 94) d_Mo_faultOf_165 (in_c rfl) rfl ?_
                refine aw_icmp_eq (tgt := 177) d_Mo_faultOf_167 rfl (fun h167 => ?_) (fun h167 => ?_)
                · refine aw_iconst d_Mo_faultOf_177 (in_c rfl) ?_
                  refine aw_istore_n (lst' := [_, _, some (aI (bI true)), _, _, _, _, _]) d_Mo_faultOf_178 rfl (Nat.le_of_ble_eq_true rfl) rfl ?_
                  refine aw_goto (tgt := 185) d_Mo_faultOf_179 rfl ?_
                  refine aw_iinc (lst' := [_, _, _, _, some (aI (((p + 1 : Nat) : Int))), _, _, _]) d_Mo_faultOf_185 (Nat.le_of_ble_eq_true rfl) rfl (by unfold inR; omega) (by rfl) ?_
                  refine aw_goto (tgt := 12) d_Mo_faultOf_188 rfl ?_
                  exact ih (n - (p + 1)) (by omega) (p + 1) true dd s _ _ _ rfl ⟨by omega, by rw [au_step hp.2, h80]; exact aus_sign (by intro z; omega) (by omega)⟩
                · refine aw_iload d_Mo_faultOf_170 rfl ?_
                  refine aw_bipush (z := 124) d_Mo_faultOf_172 (in_c rfl) rfl ?_
                  refine aw_icmp_ne (tgt := 182) d_Mo_faultOf_174 rfl (fun h174 => ?_) (fun h174 => ?_)
                  · refine aw_iload d_Mo_faultOf_182 rfl ?_
                    exact aw_iret d_Mo_faultOf_184 rfl ⟨rfl, Or.inl ⟨p, _, ⟨(w, dd, s), hp.2, Or.inl ⟨by omega, by rw [h80]; exact aus_bad0 (by intro z; omega) (by omega)⟩⟩, rfl, rfl⟩⟩
                  · refine aw_iconst d_Mo_faultOf_177 (in_c rfl) ?_
                    refine aw_istore_n (lst' := [_, _, some (aI (bI true)), _, _, _, _, _]) d_Mo_faultOf_178 rfl (Nat.le_of_ble_eq_true rfl) rfl ?_
                    refine aw_goto (tgt := 185) d_Mo_faultOf_179 rfl ?_
                    refine aw_iinc (lst' := [_, _, _, _, some (aI (((p + 1 : Nat) : Int))), _, _, _]) d_Mo_faultOf_185 (Nat.le_of_ble_eq_true rfl) rfl (by unfold inR; omega) (by rfl) ?_
                    refine aw_goto (tgt := 12) d_Mo_faultOf_188 rfl ?_
                    exact ih (n - (p + 1)) (by omega) (p + 1) true dd s _ _ _ rfl ⟨by omega, by rw [au_step hp.2, h80]; exact aus_sign (by intro z; omega) (by omega)⟩
            · refine aw_iload_n d_Mo_faultOf_145 rfl rfl ?_
              refine aw_iconst d_Mo_faultOf_146 (in_c rfl) ?_
              refine aw_icmp_le (tgt := 156) d_Mo_faultOf_147 rfl (fun h147 => ?_) (fun h147 => ?_)
              · refine aw_iload d_Mo_faultOf_156 rfl ?_
                refine aw_bipush (z := 38) d_Mo_faultOf_158 (in_c rfl) rfl ?_
                refine aw_icmp_eq (tgt := 177) d_Mo_faultOf_160 rfl (fun h160 => ?_) (fun h160 => ?_)
                · refine aw_iconst d_Mo_faultOf_177 (in_c rfl) ?_
                  refine aw_istore_n (lst' := [_, _, some (aI (bI true)), _, _, _, _, _]) d_Mo_faultOf_178 rfl (Nat.le_of_ble_eq_true rfl) rfl ?_
                  refine aw_goto (tgt := 185) d_Mo_faultOf_179 rfl ?_
                  refine aw_iinc (lst' := [_, _, _, _, some (aI (((p + 1 : Nat) : Int))), _, _, _]) d_Mo_faultOf_185 (Nat.le_of_ble_eq_true rfl) rfl (by unfold inR; omega) (by rfl) ?_
                  refine aw_goto (tgt := 12) d_Mo_faultOf_188 rfl ?_
                  exact ih (n - (p + 1)) (by omega) (p + 1) true dd s _ _ _ rfl ⟨by omega, by rw [au_step hp.2, h80]; exact aus_sign (by intro z; omega) (by omega)⟩
                · refine aw_iload d_Mo_faultOf_163 rfl ?_
                  refine aw_bipush (z := 94) d_Mo_faultOf_165 (in_c rfl) rfl ?_
                  refine aw_icmp_eq (tgt := 177) d_Mo_faultOf_167 rfl (fun h167 => ?_) (fun h167 => ?_)
                  · refine aw_iconst d_Mo_faultOf_177 (in_c rfl) ?_
                    refine aw_istore_n (lst' := [_, _, some (aI (bI true)), _, _, _, _, _]) d_Mo_faultOf_178 rfl (Nat.le_of_ble_eq_true rfl) rfl ?_
                    refine aw_goto (tgt := 185) d_Mo_faultOf_179 rfl ?_
                    refine aw_iinc (lst' := [_, _, _, _, some (aI (((p + 1 : Nat) : Int))), _, _, _]) d_Mo_faultOf_185 (Nat.le_of_ble_eq_true rfl) rfl (by unfold inR; omega) (by rfl) ?_
                    refine aw_goto (tgt := 12) d_Mo_faultOf_188 rfl ?_
                    exact ih (n - (p + 1)) (by omega) (p + 1) true dd s _ _ _ rfl ⟨by omega, by rw [au_step hp.2, h80]; exact aus_sign (by intro z; omega) (by omega)⟩
                  · refine aw_iload d_Mo_faultOf_170 rfl ?_
                    refine aw_bipush (z := 124) d_Mo_faultOf_172 (in_c rfl) rfl ?_
                    refine aw_icmp_ne (tgt := 182) d_Mo_faultOf_174 rfl (fun h174 => ?_) (fun h174 => ?_)
                    · refine aw_iload d_Mo_faultOf_182 rfl ?_
                      exact aw_iret d_Mo_faultOf_184 rfl ⟨rfl, Or.inl ⟨p, _, ⟨(w, dd, s), hp.2, Or.inl ⟨by omega, by rw [h80]; exact aus_bad0 (by intro z; omega) (by omega)⟩⟩, rfl, rfl⟩⟩
                    · refine aw_iconst d_Mo_faultOf_177 (in_c rfl) ?_
                      refine aw_istore_n (lst' := [_, _, some (aI (bI true)), _, _, _, _, _]) d_Mo_faultOf_178 rfl (Nat.le_of_ble_eq_true rfl) rfl ?_
                      refine aw_goto (tgt := 185) d_Mo_faultOf_179 rfl ?_
                      refine aw_iinc (lst' := [_, _, _, _, some (aI (((p + 1 : Nat) : Int))), _, _, _]) d_Mo_faultOf_185 (Nat.le_of_ble_eq_true rfl) rfl (by unfold inR; omega) (by rfl) ?_
                      refine aw_goto (tgt := 12) d_Mo_faultOf_188 rfl ?_
                      exact ih (n - (p + 1)) (by omega) (p + 1) true dd s _ _ _ rfl ⟨by omega, by rw [au_step hp.2, h80]; exact aus_sign (by intro z; omega) (by omega)⟩
              · refine aw_iinc (lst' := [_, _, _, some (aI (((dd - 1 : Nat) : Int))), _, _, _, _]) d_Mo_faultOf_150 (Nat.le_of_ble_eq_true rfl) rfl (by unfold inR; omega) (by rw [show (dd : Int) + -1 = ((dd - 1 : Nat) : Int) by omega]; rfl) ?_
                refine aw_goto (tgt := 185) d_Mo_faultOf_153 rfl ?_
                refine aw_lc (lst' := [_, _, some (aI (bI false)), _, _, _, _, _]) (by (rw [h80]) <;> rfl) ?_
                refine aw_iinc (lst' := [_, _, _, _, some (aI (((p + 1 : Nat) : Int))), _, _, _]) d_Mo_faultOf_185 (Nat.le_of_ble_eq_true rfl) rfl (by unfold inR; omega) (by rfl) ?_
                refine aw_goto (tgt := 12) d_Mo_faultOf_188 rfl ?_
                exact ih (n - (p + 1)) (by omega) (p + 1) false (dd - 1) s _ _ _ rfl ⟨by omega, by rw [au_step hp.2, h80]; exact aus_close (by omega) (by omega)⟩
          · replace h80 := bn h80
            refine aw_iload d_Mo_faultOf_83 rfl ?_
            refine aw_bipush (z := 40) d_Mo_faultOf_85 (in_c rfl) rfl ?_
            refine aw_icmp_ne (tgt := 102) d_Mo_faultOf_87 rfl (fun h87 => ?_) (fun h87 => ?_)
            · refine aw_iload d_Mo_faultOf_102 rfl ?_
              refine aw_if_eq (tgt := 128) d_Mo_faultOf_104 rfl (fun h104 => ?_) (fun h104 => absurd (by rw [h55]; rfl) h104)
              refine aw_iload d_Mo_faultOf_128 rfl ?_
              refine aw_bipush (z := 33) d_Mo_faultOf_130 (in_c rfl) rfl ?_
              refine aw_icmp_eq (tgt := 185) d_Mo_faultOf_132 rfl (fun h132 => ?_) (fun h132 => ?_)
              · refine aw_lc (lst' := [_, _, some (aI (bI true)), _, _, _, _, _]) (by (rw [h80]) <;> rfl) ?_
                refine aw_iinc (lst' := [_, _, _, _, some (aI (((p + 1 : Nat) : Int))), _, _, _]) d_Mo_faultOf_185 (Nat.le_of_ble_eq_true rfl) rfl (by unfold inR; omega) (by rfl) ?_
                refine aw_goto (tgt := 12) d_Mo_faultOf_188 rfl ?_
                exact ih (n - (p + 1)) (by omega) (p + 1) true dd s _ _ _ rfl ⟨by omega, by rw [au_step hp.2, h80]; exact aus_not (by intro z; omega) (fun z => absurd z.1 (of_decide_eq_false h55)) (by omega)⟩
              · refine aw_iload d_Mo_faultOf_135 rfl ?_
                exact aw_iret d_Mo_faultOf_137 rfl ⟨rfl, Or.inl ⟨p, _, ⟨(w, dd, s), hp.2, Or.inl ⟨by omega, by rw [h80]; exact aus_bad1 (by intro z; omega) (fun z => absurd z.1 (of_decide_eq_false h55)) (by omega)⟩⟩, rfl, rfl⟩⟩
            · refine aw_iload_n d_Mo_faultOf_90 rfl rfl ?_
              refine aw_bipush (z := 6) d_Mo_faultOf_91 (in_c rfl) rfl ?_
              refine aw_icmp_ge (tgt := 102) d_Mo_faultOf_93 rfl (fun h93 => ?_) (fun h93 => ?_)
              · refine aw_iload d_Mo_faultOf_102 rfl ?_
                refine aw_if_eq (tgt := 128) d_Mo_faultOf_104 rfl (fun h104 => ?_) (fun h104 => absurd (by rw [h55]; rfl) h104)
                refine aw_iload d_Mo_faultOf_128 rfl ?_
                refine aw_bipush (z := 33) d_Mo_faultOf_130 (in_c rfl) rfl ?_
                refine aw_icmp_eq (tgt := 185) d_Mo_faultOf_132 rfl (fun h132 => ?_) (fun h132 => ?_)
                · refine aw_lc (lst' := [_, _, some (aI (bI true)), _, _, _, _, _]) (by (rw [h80]) <;> rfl) ?_
                  refine aw_iinc (lst' := [_, _, _, _, some (aI (((p + 1 : Nat) : Int))), _, _, _]) d_Mo_faultOf_185 (Nat.le_of_ble_eq_true rfl) rfl (by unfold inR; omega) (by rfl) ?_
                  refine aw_goto (tgt := 12) d_Mo_faultOf_188 rfl ?_
                  exact ih (n - (p + 1)) (by omega) (p + 1) true dd s _ _ _ rfl ⟨by omega, by rw [au_step hp.2, h80]; exact aus_not (by intro z; omega) (fun z => absurd z.1 (of_decide_eq_false h55)) (by omega)⟩
                · refine aw_iload d_Mo_faultOf_135 rfl ?_
                  exact aw_iret d_Mo_faultOf_137 rfl ⟨rfl, Or.inl ⟨p, _, ⟨(w, dd, s), hp.2, Or.inl ⟨by omega, by rw [h80]; exact aus_bad1 (by intro z; omega) (fun z => absurd z.1 (of_decide_eq_false h55)) (by omega)⟩⟩, rfl, rfl⟩⟩
              · refine aw_iinc (lst' := [_, _, _, some (aI (((dd + 1 : Nat) : Int))), _, _, _, _]) d_Mo_faultOf_96 (Nat.le_of_ble_eq_true rfl) rfl (by unfold inR; omega) (by rfl) ?_
                refine aw_goto (tgt := 185) d_Mo_faultOf_99 rfl ?_
                refine aw_lc (lst' := [_, _, some (aI (bI true)), _, _, _, _, _]) (by (rw [h80]) <;> rfl) ?_
                refine aw_iinc (lst' := [_, _, _, _, some (aI (((p + 1 : Nat) : Int))), _, _, _]) d_Mo_faultOf_185 (Nat.le_of_ble_eq_true rfl) rfl (by unfold inR; omega) (by rfl) ?_
                refine aw_goto (tgt := 12) d_Mo_faultOf_188 rfl ?_
                exact ih (n - (p + 1)) (by omega) (p + 1) true (dd + 1) s _ _ _ rfl ⟨by omega, by rw [au_step hp.2, h80]; exact aus_open (by omega) (by omega)⟩
        · replace h55 := bn h55
          refine aw_aload_n d_Mo_faultOf_58 rfl rfl ?_
          refine aw_getI fd_Mo_seen lk_Mo_103 (by omega) rfl d_Mo_faultOf_59 ?_
          refine aw_tv (v' := (s : Int)) (by rw [mI_wI, if_pos ⟨rfl, rfl⟩]) ?_
          refine aw_iconst d_Mo_faultOf_62 (in_c rfl) ?_
          refine aw_iload d_Mo_faultOf_63 rfl ?_
          refine aw_bipush (z := 65) d_Mo_faultOf_65 (in_c rfl) rfl ?_
          refine aw_isub d_Mo_faultOf_67 (by unfold inR; omega) ?_
          have hlt : isLt md (mI μ 74 p) := of_decide_eq_true h55
          have hl1 := hlt.1
          have hl2 := hlt.2
          refine aw_ishl (a := 1) (k0 := ((mI μ 74 p) - 65).toNat) rfl (by omega) (by omega) (by have := Nat.pow_le_pow_right (n := 2) (by omega) (show ((mI μ 74 p) - 65).toNat ≤ 7 by omega); omega) d_Mo_faultOf_68 ?_
          refine aw_ior (a := s) (b := 1 * 2 ^ ((mI μ 74 p) - 65).toNat) rfl rfl d_Mo_faultOf_69 ?_
          refine aw_tv (v' := (((more md (mI μ 74 p) s) : Nat) : Int)) (by unfold more; rw [if_pos hlt, Nat.one_mul]) ?_
          refine aw_goto (tgt := 77) d_Mo_faultOf_70 rfl ?_
          refine aw_istore (lst' := [_, _, _, _, _, _, _, _]) d_Mo_faultOf_77 (Nat.le_of_ble_eq_true rfl) rfl ?_
          refine aw_iload_n d_Mo_faultOf_79 rfl rfl ?_
          refine aw_pc (pc' := 80) rfl ?_
          refine aw_if_eq (tgt := 138) d_Mo_faultOf_80 rfl (fun h80 => ?_) (fun h80 => ?_)
          · replace h80 := bz h80
            refine aw_iload d_Mo_faultOf_138 rfl ?_
            refine aw_bipush (z := 41) d_Mo_faultOf_140 (in_c rfl) rfl ?_
            refine aw_icmp_ne (tgt := 156) d_Mo_faultOf_142 rfl (fun h142 => ?_) (fun h142 => ?_)
            · refine aw_iload d_Mo_faultOf_156 rfl ?_
              refine aw_bipush (z := 38) d_Mo_faultOf_158 (in_c rfl) rfl ?_
              refine aw_icmp_eq (tgt := 177) d_Mo_faultOf_160 rfl (fun h160 => ?_) (fun h160 => ?_)
              · refine aw_iconst d_Mo_faultOf_177 (in_c rfl) ?_
                refine aw_istore_n (lst' := [_, _, some (aI (bI true)), _, _, _, _, _]) d_Mo_faultOf_178 rfl (Nat.le_of_ble_eq_true rfl) rfl ?_
                refine aw_goto (tgt := 185) d_Mo_faultOf_179 rfl ?_
                refine aw_iinc (lst' := [_, _, _, _, some (aI (((p + 1 : Nat) : Int))), _, _, _]) d_Mo_faultOf_185 (Nat.le_of_ble_eq_true rfl) rfl (by unfold inR; omega) (by rfl) ?_
                refine aw_goto (tgt := 12) d_Mo_faultOf_188 rfl ?_
                exact ih (n - (p + 1)) (by omega) (p + 1) true dd s _ _ _ rfl ⟨by omega, by rw [au_step hp.2, h80]; exact aus_sign (by intro z; omega) (by omega)⟩
              · refine aw_iload d_Mo_faultOf_163 rfl ?_
                refine aw_bipush (z := 94) d_Mo_faultOf_165 (in_c rfl) rfl ?_
                refine aw_icmp_eq (tgt := 177) d_Mo_faultOf_167 rfl (fun h167 => ?_) (fun h167 => ?_)
                · refine aw_iconst d_Mo_faultOf_177 (in_c rfl) ?_
                  refine aw_istore_n (lst' := [_, _, some (aI (bI true)), _, _, _, _, _]) d_Mo_faultOf_178 rfl (Nat.le_of_ble_eq_true rfl) rfl ?_
                  refine aw_goto (tgt := 185) d_Mo_faultOf_179 rfl ?_
                  refine aw_iinc (lst' := [_, _, _, _, some (aI (((p + 1 : Nat) : Int))), _, _, _]) d_Mo_faultOf_185 (Nat.le_of_ble_eq_true rfl) rfl (by unfold inR; omega) (by rfl) ?_
                  refine aw_goto (tgt := 12) d_Mo_faultOf_188 rfl ?_
                  exact ih (n - (p + 1)) (by omega) (p + 1) true dd s _ _ _ rfl ⟨by omega, by rw [au_step hp.2, h80]; exact aus_sign (by intro z; omega) (by omega)⟩
                · refine aw_iload d_Mo_faultOf_170 rfl ?_
                  refine aw_bipush (z := 124) d_Mo_faultOf_172 (in_c rfl) rfl ?_
                  refine aw_icmp_ne (tgt := 182) d_Mo_faultOf_174 rfl (fun h174 => ?_) (fun h174 => ?_)
                  · refine aw_iload d_Mo_faultOf_182 rfl ?_
                    exact aw_iret d_Mo_faultOf_184 rfl ⟨rfl, Or.inl ⟨p, _, ⟨(w, dd, s), hp.2, Or.inl ⟨by omega, by rw [h80]; exact aus_bad0 (by intro z; omega) (by omega)⟩⟩, rfl, rfl⟩⟩
                  · refine aw_iconst d_Mo_faultOf_177 (in_c rfl) ?_
                    refine aw_istore_n (lst' := [_, _, some (aI (bI true)), _, _, _, _, _]) d_Mo_faultOf_178 rfl (Nat.le_of_ble_eq_true rfl) rfl ?_
                    refine aw_goto (tgt := 185) d_Mo_faultOf_179 rfl ?_
                    refine aw_iinc (lst' := [_, _, _, _, some (aI (((p + 1 : Nat) : Int))), _, _, _]) d_Mo_faultOf_185 (Nat.le_of_ble_eq_true rfl) rfl (by unfold inR; omega) (by rfl) ?_
                    refine aw_goto (tgt := 12) d_Mo_faultOf_188 rfl ?_
                    exact ih (n - (p + 1)) (by omega) (p + 1) true dd s _ _ _ rfl ⟨by omega, by rw [au_step hp.2, h80]; exact aus_sign (by intro z; omega) (by omega)⟩
            · refine aw_iload_n d_Mo_faultOf_145 rfl rfl ?_
              refine aw_iconst d_Mo_faultOf_146 (in_c rfl) ?_
              refine aw_icmp_le (tgt := 156) d_Mo_faultOf_147 rfl (fun h147 => ?_) (fun h147 => ?_)
              · refine aw_iload d_Mo_faultOf_156 rfl ?_
                refine aw_bipush (z := 38) d_Mo_faultOf_158 (in_c rfl) rfl ?_
                refine aw_icmp_eq (tgt := 177) d_Mo_faultOf_160 rfl (fun h160 => ?_) (fun h160 => ?_)
                · refine aw_iconst d_Mo_faultOf_177 (in_c rfl) ?_
                  refine aw_istore_n (lst' := [_, _, some (aI (bI true)), _, _, _, _, _]) d_Mo_faultOf_178 rfl (Nat.le_of_ble_eq_true rfl) rfl ?_
                  refine aw_goto (tgt := 185) d_Mo_faultOf_179 rfl ?_
                  refine aw_iinc (lst' := [_, _, _, _, some (aI (((p + 1 : Nat) : Int))), _, _, _]) d_Mo_faultOf_185 (Nat.le_of_ble_eq_true rfl) rfl (by unfold inR; omega) (by rfl) ?_
                  refine aw_goto (tgt := 12) d_Mo_faultOf_188 rfl ?_
                  exact ih (n - (p + 1)) (by omega) (p + 1) true dd s _ _ _ rfl ⟨by omega, by rw [au_step hp.2, h80]; exact aus_sign (by intro z; omega) (by omega)⟩
                · refine aw_iload d_Mo_faultOf_163 rfl ?_
                  refine aw_bipush (z := 94) d_Mo_faultOf_165 (in_c rfl) rfl ?_
                  refine aw_icmp_eq (tgt := 177) d_Mo_faultOf_167 rfl (fun h167 => ?_) (fun h167 => ?_)
                  · refine aw_iconst d_Mo_faultOf_177 (in_c rfl) ?_
                    refine aw_istore_n (lst' := [_, _, some (aI (bI true)), _, _, _, _, _]) d_Mo_faultOf_178 rfl (Nat.le_of_ble_eq_true rfl) rfl ?_
                    refine aw_goto (tgt := 185) d_Mo_faultOf_179 rfl ?_
                    refine aw_iinc (lst' := [_, _, _, _, some (aI (((p + 1 : Nat) : Int))), _, _, _]) d_Mo_faultOf_185 (Nat.le_of_ble_eq_true rfl) rfl (by unfold inR; omega) (by rfl) ?_
                    refine aw_goto (tgt := 12) d_Mo_faultOf_188 rfl ?_
                    exact ih (n - (p + 1)) (by omega) (p + 1) true dd s _ _ _ rfl ⟨by omega, by rw [au_step hp.2, h80]; exact aus_sign (by intro z; omega) (by omega)⟩
                  · refine aw_iload d_Mo_faultOf_170 rfl ?_
                    refine aw_bipush (z := 124) d_Mo_faultOf_172 (in_c rfl) rfl ?_
                    refine aw_icmp_ne (tgt := 182) d_Mo_faultOf_174 rfl (fun h174 => ?_) (fun h174 => ?_)
                    · refine aw_iload d_Mo_faultOf_182 rfl ?_
                      exact aw_iret d_Mo_faultOf_184 rfl ⟨rfl, Or.inl ⟨p, _, ⟨(w, dd, s), hp.2, Or.inl ⟨by omega, by rw [h80]; exact aus_bad0 (by intro z; omega) (by omega)⟩⟩, rfl, rfl⟩⟩
                    · refine aw_iconst d_Mo_faultOf_177 (in_c rfl) ?_
                      refine aw_istore_n (lst' := [_, _, some (aI (bI true)), _, _, _, _, _]) d_Mo_faultOf_178 rfl (Nat.le_of_ble_eq_true rfl) rfl ?_
                      refine aw_goto (tgt := 185) d_Mo_faultOf_179 rfl ?_
                      refine aw_iinc (lst' := [_, _, _, _, some (aI (((p + 1 : Nat) : Int))), _, _, _]) d_Mo_faultOf_185 (Nat.le_of_ble_eq_true rfl) rfl (by unfold inR; omega) (by rfl) ?_
                      refine aw_goto (tgt := 12) d_Mo_faultOf_188 rfl ?_
                      exact ih (n - (p + 1)) (by omega) (p + 1) true dd s _ _ _ rfl ⟨by omega, by rw [au_step hp.2, h80]; exact aus_sign (by intro z; omega) (by omega)⟩
              · refine aw_iinc (lst' := [_, _, _, some (aI (((dd - 1 : Nat) : Int))), _, _, _, _]) d_Mo_faultOf_150 (Nat.le_of_ble_eq_true rfl) rfl (by unfold inR; omega) (by rw [show (dd : Int) + -1 = ((dd - 1 : Nat) : Int) by omega]; rfl) ?_
                refine aw_goto (tgt := 185) d_Mo_faultOf_153 rfl ?_
                refine aw_lc (lst' := [_, _, some (aI (bI false)), _, _, _, _, _]) (by (rw [h80]) <;> rfl) ?_
                refine aw_iinc (lst' := [_, _, _, _, some (aI (((p + 1 : Nat) : Int))), _, _, _]) d_Mo_faultOf_185 (Nat.le_of_ble_eq_true rfl) rfl (by unfold inR; omega) (by rfl) ?_
                refine aw_goto (tgt := 12) d_Mo_faultOf_188 rfl ?_
                exact ih (n - (p + 1)) (by omega) (p + 1) false (dd - 1) s _ _ _ rfl ⟨by omega, by rw [au_step hp.2, h80]; exact aus_close (by omega) (by omega)⟩
          · replace h80 := bn h80
            refine aw_iload d_Mo_faultOf_83 rfl ?_
            refine aw_bipush (z := 40) d_Mo_faultOf_85 (in_c rfl) rfl ?_
            refine aw_icmp_ne (tgt := 102) d_Mo_faultOf_87 rfl (fun h87 => ?_) (fun h87 => ?_)
            · refine aw_iload d_Mo_faultOf_102 rfl ?_
              refine aw_if_eq (tgt := 128) d_Mo_faultOf_104 rfl (fun h104 => absurd h104 (by rw [h55]; decide)) (fun h104 => ?_)
              refine aw_iload d_Mo_faultOf_107 rfl ?_
              refine aw_se (as := [_]) rfl cs_Mo_106 d_Mo_faultOf_109 (Nat.le_of_ble_eq_true rfl) (d' := d - 1) (by omega) (m_Mo_countOf (by omega) (by omega)) ?_
              refine aw_bipush (z := 6) d_Mo_faultOf_112 (in_c rfl) rfl ?_
              refine aw_icmp_gt (tgt := 128) d_Mo_faultOf_114 rfl (fun h114 => ?_) (fun h114 => ?_)
              · refine aw_iload d_Mo_faultOf_128 rfl ?_
                refine aw_bipush (z := 33) d_Mo_faultOf_130 (in_c rfl) rfl ?_
                refine aw_icmp_eq (tgt := 185) d_Mo_faultOf_132 rfl (fun h132 => ?_) (fun h132 => ?_)
                · refine aw_lc (lst' := [_, _, some (aI (bI true)), _, _, _, _, _]) (by (rw [h80]) <;> rfl) ?_
                  refine aw_iinc (lst' := [_, _, _, _, some (aI (((p + 1 : Nat) : Int))), _, _, _]) d_Mo_faultOf_185 (Nat.le_of_ble_eq_true rfl) rfl (by unfold inR; omega) (by rfl) ?_
                  refine aw_goto (tgt := 12) d_Mo_faultOf_188 rfl ?_
                  exact ih (n - (p + 1)) (by omega) (p + 1) true dd s _ _ _ rfl ⟨by omega, by rw [au_step hp.2, h80]; exact aus_not (by intro z; omega) (fun z => absurd z.2 (by omega)) (by omega)⟩
                · refine aw_iload d_Mo_faultOf_135 rfl ?_
                  exact aw_iret d_Mo_faultOf_137 rfl ⟨rfl, Or.inl ⟨p, _, ⟨(w, dd, s), hp.2, Or.inl ⟨by omega, by rw [h80]; exact aus_bad1 (by intro z; omega) (fun z => absurd z.2 (by omega)) (by omega)⟩⟩, rfl, rfl⟩⟩
              · refine aw_aload_n d_Mo_faultOf_117 rfl rfl ?_
                refine aw_iload d_Mo_faultOf_118 rfl ?_
                refine aw_putI fd_Mo_seen lk_Mo_103 (by omega) rfl d_Mo_faultOf_120 (Or.inl rfl) ?_
                refine aw_mm (μ' := wI μ 67 27 (((more md (mI μ 74 p) s) : Nat) : Int)) (wI_wI _ _ _ _ _) ?_
                refine aw_iconst d_Mo_faultOf_123 (in_c rfl) ?_
                refine aw_istore_n (lst' := [_, _, some (aI (bI false)), _, _, _, _, _]) d_Mo_faultOf_124 rfl (Nat.le_of_ble_eq_true rfl) rfl ?_
                refine aw_goto (tgt := 185) d_Mo_faultOf_125 rfl ?_
                refine aw_iinc (lst' := [_, _, _, _, some (aI (((p + 1 : Nat) : Int))), _, _, _]) d_Mo_faultOf_185 (Nat.le_of_ble_eq_true rfl) rfl (by unfold inR; omega) (by rfl) ?_
                refine aw_goto (tgt := 12) d_Mo_faultOf_188 rfl ?_
                exact ih (n - (p + 1)) (by omega) (p + 1) false dd (more md (mI μ 74 p) s) _ _ _ rfl ⟨by omega, by rw [au_step hp.2, h80]; exact aus_let (by intro z; omega) (of_decide_eq_true h55) (by omega)⟩
            · refine aw_iload_n d_Mo_faultOf_90 rfl rfl ?_
              refine aw_bipush (z := 6) d_Mo_faultOf_91 (in_c rfl) rfl ?_
              refine aw_icmp_ge (tgt := 102) d_Mo_faultOf_93 rfl (fun h93 => ?_) (fun h93 => ?_)
              · refine aw_iload d_Mo_faultOf_102 rfl ?_
                refine aw_if_eq (tgt := 128) d_Mo_faultOf_104 rfl (fun h104 => absurd h104 (by rw [h55]; decide)) (fun h104 => ?_)
                refine aw_iload d_Mo_faultOf_107 rfl ?_
                refine aw_se (as := [_]) rfl cs_Mo_106 d_Mo_faultOf_109 (Nat.le_of_ble_eq_true rfl) (d' := d - 1) (by omega) (m_Mo_countOf (by omega) (by omega)) ?_
                refine aw_bipush (z := 6) d_Mo_faultOf_112 (in_c rfl) rfl ?_
                refine aw_icmp_gt (tgt := 128) d_Mo_faultOf_114 rfl (fun h114 => ?_) (fun h114 => ?_)
                · refine aw_iload d_Mo_faultOf_128 rfl ?_
                  refine aw_bipush (z := 33) d_Mo_faultOf_130 (in_c rfl) rfl ?_
                  refine aw_icmp_eq (tgt := 185) d_Mo_faultOf_132 rfl (fun h132 => ?_) (fun h132 => ?_)
                  · refine aw_lc (lst' := [_, _, some (aI (bI true)), _, _, _, _, _]) (by (rw [h80]) <;> rfl) ?_
                    refine aw_iinc (lst' := [_, _, _, _, some (aI (((p + 1 : Nat) : Int))), _, _, _]) d_Mo_faultOf_185 (Nat.le_of_ble_eq_true rfl) rfl (by unfold inR; omega) (by rfl) ?_
                    refine aw_goto (tgt := 12) d_Mo_faultOf_188 rfl ?_
                    exact ih (n - (p + 1)) (by omega) (p + 1) true dd s _ _ _ rfl ⟨by omega, by rw [au_step hp.2, h80]; exact aus_not (by intro z; omega) (fun z => absurd z.2 (by omega)) (by omega)⟩
                  · refine aw_iload d_Mo_faultOf_135 rfl ?_
                    exact aw_iret d_Mo_faultOf_137 rfl ⟨rfl, Or.inl ⟨p, _, ⟨(w, dd, s), hp.2, Or.inl ⟨by omega, by rw [h80]; exact aus_bad1 (by intro z; omega) (fun z => absurd z.2 (by omega)) (by omega)⟩⟩, rfl, rfl⟩⟩
                · refine aw_aload_n d_Mo_faultOf_117 rfl rfl ?_
                  refine aw_iload d_Mo_faultOf_118 rfl ?_
                  refine aw_putI fd_Mo_seen lk_Mo_103 (by omega) rfl d_Mo_faultOf_120 (Or.inl rfl) ?_
                  refine aw_mm (μ' := wI μ 67 27 (((more md (mI μ 74 p) s) : Nat) : Int)) (wI_wI _ _ _ _ _) ?_
                  refine aw_iconst d_Mo_faultOf_123 (in_c rfl) ?_
                  refine aw_istore_n (lst' := [_, _, some (aI (bI false)), _, _, _, _, _]) d_Mo_faultOf_124 rfl (Nat.le_of_ble_eq_true rfl) rfl ?_
                  refine aw_goto (tgt := 185) d_Mo_faultOf_125 rfl ?_
                  refine aw_iinc (lst' := [_, _, _, _, some (aI (((p + 1 : Nat) : Int))), _, _, _]) d_Mo_faultOf_185 (Nat.le_of_ble_eq_true rfl) rfl (by unfold inR; omega) (by rfl) ?_
                  refine aw_goto (tgt := 12) d_Mo_faultOf_188 rfl ?_
                  exact ih (n - (p + 1)) (by omega) (p + 1) false dd (more md (mI μ 74 p) s) _ _ _ rfl ⟨by omega, by rw [au_step hp.2, h80]; exact aus_let (by intro z; omega) (of_decide_eq_true h55) (by omega)⟩
              · refine aw_iinc (lst' := [_, _, _, some (aI (((dd + 1 : Nat) : Int))), _, _, _, _]) d_Mo_faultOf_96 (Nat.le_of_ble_eq_true rfl) rfl (by unfold inR; omega) (by rfl) ?_
                refine aw_goto (tgt := 185) d_Mo_faultOf_99 rfl ?_
                refine aw_lc (lst' := [_, _, some (aI (bI true)), _, _, _, _, _]) (by (rw [h80]) <;> rfl) ?_
                refine aw_iinc (lst' := [_, _, _, _, some (aI (((p + 1 : Nat) : Int))), _, _, _]) d_Mo_faultOf_185 (Nat.le_of_ble_eq_true rfl) rfl (by unfold inR; omega) (by rfl) ?_
                refine aw_goto (tgt := 12) d_Mo_faultOf_188 rfl ?_
                exact ih (n - (p + 1)) (by omega) (p + 1) true (dd + 1) s _ _ _ rfl ⟨by omega, by rw [au_step hp.2, h80]; exact aus_open (by omega) (by omega)⟩
      · refine aw_iload d_Mo_faultOf_34 rfl ?_
        refine aw_bipush (z := 65) d_Mo_faultOf_36 (in_c rfl) rfl ?_
        refine aw_aload_n d_Mo_faultOf_38 rfl rfl ?_
        refine aw_getI fd_Mo_made lk_Mo_93 (by omega) rfl d_Mo_faultOf_39 ?_
        refine aw_tv (v' := (md : Int)) (by rw [mI_wI, if_neg (by omega)]; exact hmd) ?_
        refine aw_iadd d_Mo_faultOf_42 (by unfold inR; omega) ?_
        refine aw_icmp_ge (tgt := 50) d_Mo_faultOf_43 rfl (fun h43 => ?_) (fun h43 => ?_)
        · refine aw_iconst d_Mo_faultOf_50 (in_c rfl) ?_
          refine aw_tv (v' := bI (decide (isLt md (mI μ 74 p)))) (by rw [decide_eq_false (fun z => by have := z.2; omega)]; rfl) ?_
          refine aw_istore (lst' := [_, _, _, _, _, _, _, _]) d_Mo_faultOf_51 (Nat.le_of_ble_eq_true rfl) rfl ?_
          refine aw_iload d_Mo_faultOf_53 rfl ?_
          refine aw_if_eq (tgt := 73) d_Mo_faultOf_55 rfl (fun h55 => ?_) (fun h55 => ?_)
          · replace h55 := bz h55
            refine aw_aload_n d_Mo_faultOf_73 rfl rfl ?_
            refine aw_getI fd_Mo_seen lk_Mo_103 (by omega) rfl d_Mo_faultOf_74 ?_
            refine aw_tv (v' := (s : Int)) (by rw [mI_wI, if_pos ⟨rfl, rfl⟩]) ?_
            refine aw_tv (v' := (((more md (mI μ 74 p) s) : Nat) : Int)) (by unfold more; rw [if_neg (of_decide_eq_false h55)]) ?_
            refine aw_istore (lst' := [_, _, _, _, _, _, _, _]) d_Mo_faultOf_77 (Nat.le_of_ble_eq_true rfl) rfl ?_
            refine aw_iload_n d_Mo_faultOf_79 rfl rfl ?_
            refine aw_if_eq (tgt := 138) d_Mo_faultOf_80 rfl (fun h80 => ?_) (fun h80 => ?_)
            · replace h80 := bz h80
              refine aw_iload d_Mo_faultOf_138 rfl ?_
              refine aw_bipush (z := 41) d_Mo_faultOf_140 (in_c rfl) rfl ?_
              refine aw_icmp_ne (tgt := 156) d_Mo_faultOf_142 rfl (fun h142 => ?_) (fun h142 => ?_)
              · refine aw_iload d_Mo_faultOf_156 rfl ?_
                refine aw_bipush (z := 38) d_Mo_faultOf_158 (in_c rfl) rfl ?_
                refine aw_icmp_eq (tgt := 177) d_Mo_faultOf_160 rfl (fun h160 => ?_) (fun h160 => ?_)
                · refine aw_iconst d_Mo_faultOf_177 (in_c rfl) ?_
                  refine aw_istore_n (lst' := [_, _, some (aI (bI true)), _, _, _, _, _]) d_Mo_faultOf_178 rfl (Nat.le_of_ble_eq_true rfl) rfl ?_
                  refine aw_goto (tgt := 185) d_Mo_faultOf_179 rfl ?_
                  refine aw_iinc (lst' := [_, _, _, _, some (aI (((p + 1 : Nat) : Int))), _, _, _]) d_Mo_faultOf_185 (Nat.le_of_ble_eq_true rfl) rfl (by unfold inR; omega) (by rfl) ?_
                  refine aw_goto (tgt := 12) d_Mo_faultOf_188 rfl ?_
                  exact ih (n - (p + 1)) (by omega) (p + 1) true dd s _ _ _ rfl ⟨by omega, by rw [au_step hp.2, h80]; exact aus_sign (by intro z; omega) (by omega)⟩
                · refine aw_iload d_Mo_faultOf_163 rfl ?_
                  refine aw_bipush (z := 94) d_Mo_faultOf_165 (in_c rfl) rfl ?_
                  refine aw_icmp_eq (tgt := 177) d_Mo_faultOf_167 rfl (fun h167 => ?_) (fun h167 => ?_)
                  · refine aw_iconst d_Mo_faultOf_177 (in_c rfl) ?_
                    refine aw_istore_n (lst' := [_, _, some (aI (bI true)), _, _, _, _, _]) d_Mo_faultOf_178 rfl (Nat.le_of_ble_eq_true rfl) rfl ?_
                    refine aw_goto (tgt := 185) d_Mo_faultOf_179 rfl ?_
                    refine aw_iinc (lst' := [_, _, _, _, some (aI (((p + 1 : Nat) : Int))), _, _, _]) d_Mo_faultOf_185 (Nat.le_of_ble_eq_true rfl) rfl (by unfold inR; omega) (by rfl) ?_
                    refine aw_goto (tgt := 12) d_Mo_faultOf_188 rfl ?_
                    exact ih (n - (p + 1)) (by omega) (p + 1) true dd s _ _ _ rfl ⟨by omega, by rw [au_step hp.2, h80]; exact aus_sign (by intro z; omega) (by omega)⟩
                  · refine aw_iload d_Mo_faultOf_170 rfl ?_
                    refine aw_bipush (z := 124) d_Mo_faultOf_172 (in_c rfl) rfl ?_
                    refine aw_icmp_ne (tgt := 182) d_Mo_faultOf_174 rfl (fun h174 => ?_) (fun h174 => ?_)
                    · refine aw_iload d_Mo_faultOf_182 rfl ?_
                      exact aw_iret d_Mo_faultOf_184 rfl ⟨rfl, Or.inl ⟨p, _, ⟨(w, dd, s), hp.2, Or.inl ⟨by omega, by rw [h80]; exact aus_bad0 (by intro z; omega) (by omega)⟩⟩, rfl, rfl⟩⟩
                    · refine aw_iconst d_Mo_faultOf_177 (in_c rfl) ?_
                      refine aw_istore_n (lst' := [_, _, some (aI (bI true)), _, _, _, _, _]) d_Mo_faultOf_178 rfl (Nat.le_of_ble_eq_true rfl) rfl ?_
                      refine aw_goto (tgt := 185) d_Mo_faultOf_179 rfl ?_
                      refine aw_iinc (lst' := [_, _, _, _, some (aI (((p + 1 : Nat) : Int))), _, _, _]) d_Mo_faultOf_185 (Nat.le_of_ble_eq_true rfl) rfl (by unfold inR; omega) (by rfl) ?_
                      refine aw_goto (tgt := 12) d_Mo_faultOf_188 rfl ?_
                      exact ih (n - (p + 1)) (by omega) (p + 1) true dd s _ _ _ rfl ⟨by omega, by rw [au_step hp.2, h80]; exact aus_sign (by intro z; omega) (by omega)⟩
              · refine aw_iload_n d_Mo_faultOf_145 rfl rfl ?_
                refine aw_iconst d_Mo_faultOf_146 (in_c rfl) ?_
                refine aw_icmp_le (tgt := 156) d_Mo_faultOf_147 rfl (fun h147 => ?_) (fun h147 => ?_)
                · refine aw_iload d_Mo_faultOf_156 rfl ?_
                  refine aw_bipush (z := 38) d_Mo_faultOf_158 (in_c rfl) rfl ?_
                  refine aw_icmp_eq (tgt := 177) d_Mo_faultOf_160 rfl (fun h160 => ?_) (fun h160 => ?_)
                  · refine aw_iconst d_Mo_faultOf_177 (in_c rfl) ?_
                    refine aw_istore_n (lst' := [_, _, some (aI (bI true)), _, _, _, _, _]) d_Mo_faultOf_178 rfl (Nat.le_of_ble_eq_true rfl) rfl ?_
                    refine aw_goto (tgt := 185) d_Mo_faultOf_179 rfl ?_
                    refine aw_iinc (lst' := [_, _, _, _, some (aI (((p + 1 : Nat) : Int))), _, _, _]) d_Mo_faultOf_185 (Nat.le_of_ble_eq_true rfl) rfl (by unfold inR; omega) (by rfl) ?_
                    refine aw_goto (tgt := 12) d_Mo_faultOf_188 rfl ?_
                    exact ih (n - (p + 1)) (by omega) (p + 1) true dd s _ _ _ rfl ⟨by omega, by rw [au_step hp.2, h80]; exact aus_sign (by intro z; omega) (by omega)⟩
                  · refine aw_iload d_Mo_faultOf_163 rfl ?_
                    refine aw_bipush (z := 94) d_Mo_faultOf_165 (in_c rfl) rfl ?_
                    refine aw_icmp_eq (tgt := 177) d_Mo_faultOf_167 rfl (fun h167 => ?_) (fun h167 => ?_)
                    · refine aw_iconst d_Mo_faultOf_177 (in_c rfl) ?_
                      refine aw_istore_n (lst' := [_, _, some (aI (bI true)), _, _, _, _, _]) d_Mo_faultOf_178 rfl (Nat.le_of_ble_eq_true rfl) rfl ?_
                      refine aw_goto (tgt := 185) d_Mo_faultOf_179 rfl ?_
                      refine aw_iinc (lst' := [_, _, _, _, some (aI (((p + 1 : Nat) : Int))), _, _, _]) d_Mo_faultOf_185 (Nat.le_of_ble_eq_true rfl) rfl (by unfold inR; omega) (by rfl) ?_
                      refine aw_goto (tgt := 12) d_Mo_faultOf_188 rfl ?_
                      exact ih (n - (p + 1)) (by omega) (p + 1) true dd s _ _ _ rfl ⟨by omega, by rw [au_step hp.2, h80]; exact aus_sign (by intro z; omega) (by omega)⟩
                    · refine aw_iload d_Mo_faultOf_170 rfl ?_
                      refine aw_bipush (z := 124) d_Mo_faultOf_172 (in_c rfl) rfl ?_
                      refine aw_icmp_ne (tgt := 182) d_Mo_faultOf_174 rfl (fun h174 => ?_) (fun h174 => ?_)
                      · refine aw_iload d_Mo_faultOf_182 rfl ?_
                        exact aw_iret d_Mo_faultOf_184 rfl ⟨rfl, Or.inl ⟨p, _, ⟨(w, dd, s), hp.2, Or.inl ⟨by omega, by rw [h80]; exact aus_bad0 (by intro z; omega) (by omega)⟩⟩, rfl, rfl⟩⟩
                      · refine aw_iconst d_Mo_faultOf_177 (in_c rfl) ?_
                        refine aw_istore_n (lst' := [_, _, some (aI (bI true)), _, _, _, _, _]) d_Mo_faultOf_178 rfl (Nat.le_of_ble_eq_true rfl) rfl ?_
                        refine aw_goto (tgt := 185) d_Mo_faultOf_179 rfl ?_
                        refine aw_iinc (lst' := [_, _, _, _, some (aI (((p + 1 : Nat) : Int))), _, _, _]) d_Mo_faultOf_185 (Nat.le_of_ble_eq_true rfl) rfl (by unfold inR; omega) (by rfl) ?_
                        refine aw_goto (tgt := 12) d_Mo_faultOf_188 rfl ?_
                        exact ih (n - (p + 1)) (by omega) (p + 1) true dd s _ _ _ rfl ⟨by omega, by rw [au_step hp.2, h80]; exact aus_sign (by intro z; omega) (by omega)⟩
                · refine aw_iinc (lst' := [_, _, _, some (aI (((dd - 1 : Nat) : Int))), _, _, _, _]) d_Mo_faultOf_150 (Nat.le_of_ble_eq_true rfl) rfl (by unfold inR; omega) (by rw [show (dd : Int) + -1 = ((dd - 1 : Nat) : Int) by omega]; rfl) ?_
                  refine aw_goto (tgt := 185) d_Mo_faultOf_153 rfl ?_
                  refine aw_lc (lst' := [_, _, some (aI (bI false)), _, _, _, _, _]) (by (rw [h80]) <;> rfl) ?_
                  refine aw_iinc (lst' := [_, _, _, _, some (aI (((p + 1 : Nat) : Int))), _, _, _]) d_Mo_faultOf_185 (Nat.le_of_ble_eq_true rfl) rfl (by unfold inR; omega) (by rfl) ?_
                  refine aw_goto (tgt := 12) d_Mo_faultOf_188 rfl ?_
                  exact ih (n - (p + 1)) (by omega) (p + 1) false (dd - 1) s _ _ _ rfl ⟨by omega, by rw [au_step hp.2, h80]; exact aus_close (by omega) (by omega)⟩
            · replace h80 := bn h80
              refine aw_iload d_Mo_faultOf_83 rfl ?_
              refine aw_bipush (z := 40) d_Mo_faultOf_85 (in_c rfl) rfl ?_
              refine aw_icmp_ne (tgt := 102) d_Mo_faultOf_87 rfl (fun h87 => ?_) (fun h87 => ?_)
              · refine aw_iload d_Mo_faultOf_102 rfl ?_
                refine aw_if_eq (tgt := 128) d_Mo_faultOf_104 rfl (fun h104 => ?_) (fun h104 => absurd (by rw [h55]; rfl) h104)
                refine aw_iload d_Mo_faultOf_128 rfl ?_
                refine aw_bipush (z := 33) d_Mo_faultOf_130 (in_c rfl) rfl ?_
                refine aw_icmp_eq (tgt := 185) d_Mo_faultOf_132 rfl (fun h132 => ?_) (fun h132 => ?_)
                · refine aw_lc (lst' := [_, _, some (aI (bI true)), _, _, _, _, _]) (by (rw [h80]) <;> rfl) ?_
                  refine aw_iinc (lst' := [_, _, _, _, some (aI (((p + 1 : Nat) : Int))), _, _, _]) d_Mo_faultOf_185 (Nat.le_of_ble_eq_true rfl) rfl (by unfold inR; omega) (by rfl) ?_
                  refine aw_goto (tgt := 12) d_Mo_faultOf_188 rfl ?_
                  exact ih (n - (p + 1)) (by omega) (p + 1) true dd s _ _ _ rfl ⟨by omega, by rw [au_step hp.2, h80]; exact aus_not (by intro z; omega) (fun z => absurd z.1 (of_decide_eq_false h55)) (by omega)⟩
                · refine aw_iload d_Mo_faultOf_135 rfl ?_
                  exact aw_iret d_Mo_faultOf_137 rfl ⟨rfl, Or.inl ⟨p, _, ⟨(w, dd, s), hp.2, Or.inl ⟨by omega, by rw [h80]; exact aus_bad1 (by intro z; omega) (fun z => absurd z.1 (of_decide_eq_false h55)) (by omega)⟩⟩, rfl, rfl⟩⟩
              · refine aw_iload_n d_Mo_faultOf_90 rfl rfl ?_
                refine aw_bipush (z := 6) d_Mo_faultOf_91 (in_c rfl) rfl ?_
                refine aw_icmp_ge (tgt := 102) d_Mo_faultOf_93 rfl (fun h93 => ?_) (fun h93 => ?_)
                · refine aw_iload d_Mo_faultOf_102 rfl ?_
                  refine aw_if_eq (tgt := 128) d_Mo_faultOf_104 rfl (fun h104 => ?_) (fun h104 => absurd (by rw [h55]; rfl) h104)
                  refine aw_iload d_Mo_faultOf_128 rfl ?_
                  refine aw_bipush (z := 33) d_Mo_faultOf_130 (in_c rfl) rfl ?_
                  refine aw_icmp_eq (tgt := 185) d_Mo_faultOf_132 rfl (fun h132 => ?_) (fun h132 => ?_)
                  · refine aw_lc (lst' := [_, _, some (aI (bI true)), _, _, _, _, _]) (by (rw [h80]) <;> rfl) ?_
                    refine aw_iinc (lst' := [_, _, _, _, some (aI (((p + 1 : Nat) : Int))), _, _, _]) d_Mo_faultOf_185 (Nat.le_of_ble_eq_true rfl) rfl (by unfold inR; omega) (by rfl) ?_
                    refine aw_goto (tgt := 12) d_Mo_faultOf_188 rfl ?_
                    exact ih (n - (p + 1)) (by omega) (p + 1) true dd s _ _ _ rfl ⟨by omega, by rw [au_step hp.2, h80]; exact aus_not (by intro z; omega) (fun z => absurd z.1 (of_decide_eq_false h55)) (by omega)⟩
                  · refine aw_iload d_Mo_faultOf_135 rfl ?_
                    exact aw_iret d_Mo_faultOf_137 rfl ⟨rfl, Or.inl ⟨p, _, ⟨(w, dd, s), hp.2, Or.inl ⟨by omega, by rw [h80]; exact aus_bad1 (by intro z; omega) (fun z => absurd z.1 (of_decide_eq_false h55)) (by omega)⟩⟩, rfl, rfl⟩⟩
                · refine aw_iinc (lst' := [_, _, _, some (aI (((dd + 1 : Nat) : Int))), _, _, _, _]) d_Mo_faultOf_96 (Nat.le_of_ble_eq_true rfl) rfl (by unfold inR; omega) (by rfl) ?_
                  refine aw_goto (tgt := 185) d_Mo_faultOf_99 rfl ?_
                  refine aw_lc (lst' := [_, _, some (aI (bI true)), _, _, _, _, _]) (by (rw [h80]) <;> rfl) ?_
                  refine aw_iinc (lst' := [_, _, _, _, some (aI (((p + 1 : Nat) : Int))), _, _, _]) d_Mo_faultOf_185 (Nat.le_of_ble_eq_true rfl) rfl (by unfold inR; omega) (by rfl) ?_
                  refine aw_goto (tgt := 12) d_Mo_faultOf_188 rfl ?_
                  exact ih (n - (p + 1)) (by omega) (p + 1) true (dd + 1) s _ _ _ rfl ⟨by omega, by rw [au_step hp.2, h80]; exact aus_open (by omega) (by omega)⟩
          · replace h55 := bn h55
            refine aw_aload_n d_Mo_faultOf_58 rfl rfl ?_
            refine aw_getI fd_Mo_seen lk_Mo_103 (by omega) rfl d_Mo_faultOf_59 ?_
            refine aw_tv (v' := (s : Int)) (by rw [mI_wI, if_pos ⟨rfl, rfl⟩]) ?_
            refine aw_iconst d_Mo_faultOf_62 (in_c rfl) ?_
            refine aw_iload d_Mo_faultOf_63 rfl ?_
            refine aw_bipush (z := 65) d_Mo_faultOf_65 (in_c rfl) rfl ?_
            refine aw_isub d_Mo_faultOf_67 (by unfold inR; omega) ?_
            have hlt : isLt md (mI μ 74 p) := of_decide_eq_true h55
            have hl1 := hlt.1
            have hl2 := hlt.2
            refine aw_ishl (a := 1) (k0 := ((mI μ 74 p) - 65).toNat) rfl (by omega) (by omega) (by have := Nat.pow_le_pow_right (n := 2) (by omega) (show ((mI μ 74 p) - 65).toNat ≤ 7 by omega); omega) d_Mo_faultOf_68 ?_
            refine aw_ior (a := s) (b := 1 * 2 ^ ((mI μ 74 p) - 65).toNat) rfl rfl d_Mo_faultOf_69 ?_
            refine aw_tv (v' := (((more md (mI μ 74 p) s) : Nat) : Int)) (by unfold more; rw [if_pos hlt, Nat.one_mul]) ?_
            refine aw_goto (tgt := 77) d_Mo_faultOf_70 rfl ?_
            refine aw_istore (lst' := [_, _, _, _, _, _, _, _]) d_Mo_faultOf_77 (Nat.le_of_ble_eq_true rfl) rfl ?_
            refine aw_iload_n d_Mo_faultOf_79 rfl rfl ?_
            refine aw_pc (pc' := 80) rfl ?_
            refine aw_if_eq (tgt := 138) d_Mo_faultOf_80 rfl (fun h80 => ?_) (fun h80 => ?_)
            · replace h80 := bz h80
              refine aw_iload d_Mo_faultOf_138 rfl ?_
              refine aw_bipush (z := 41) d_Mo_faultOf_140 (in_c rfl) rfl ?_
              refine aw_icmp_ne (tgt := 156) d_Mo_faultOf_142 rfl (fun h142 => ?_) (fun h142 => ?_)
              · refine aw_iload d_Mo_faultOf_156 rfl ?_
                refine aw_bipush (z := 38) d_Mo_faultOf_158 (in_c rfl) rfl ?_
                refine aw_icmp_eq (tgt := 177) d_Mo_faultOf_160 rfl (fun h160 => ?_) (fun h160 => ?_)
                · refine aw_iconst d_Mo_faultOf_177 (in_c rfl) ?_
                  refine aw_istore_n (lst' := [_, _, some (aI (bI true)), _, _, _, _, _]) d_Mo_faultOf_178 rfl (Nat.le_of_ble_eq_true rfl) rfl ?_
                  refine aw_goto (tgt := 185) d_Mo_faultOf_179 rfl ?_
                  refine aw_iinc (lst' := [_, _, _, _, some (aI (((p + 1 : Nat) : Int))), _, _, _]) d_Mo_faultOf_185 (Nat.le_of_ble_eq_true rfl) rfl (by unfold inR; omega) (by rfl) ?_
                  refine aw_goto (tgt := 12) d_Mo_faultOf_188 rfl ?_
                  exact ih (n - (p + 1)) (by omega) (p + 1) true dd s _ _ _ rfl ⟨by omega, by rw [au_step hp.2, h80]; exact aus_sign (by intro z; omega) (by omega)⟩
                · refine aw_iload d_Mo_faultOf_163 rfl ?_
                  refine aw_bipush (z := 94) d_Mo_faultOf_165 (in_c rfl) rfl ?_
                  refine aw_icmp_eq (tgt := 177) d_Mo_faultOf_167 rfl (fun h167 => ?_) (fun h167 => ?_)
                  · refine aw_iconst d_Mo_faultOf_177 (in_c rfl) ?_
                    refine aw_istore_n (lst' := [_, _, some (aI (bI true)), _, _, _, _, _]) d_Mo_faultOf_178 rfl (Nat.le_of_ble_eq_true rfl) rfl ?_
                    refine aw_goto (tgt := 185) d_Mo_faultOf_179 rfl ?_
                    refine aw_iinc (lst' := [_, _, _, _, some (aI (((p + 1 : Nat) : Int))), _, _, _]) d_Mo_faultOf_185 (Nat.le_of_ble_eq_true rfl) rfl (by unfold inR; omega) (by rfl) ?_
                    refine aw_goto (tgt := 12) d_Mo_faultOf_188 rfl ?_
                    exact ih (n - (p + 1)) (by omega) (p + 1) true dd s _ _ _ rfl ⟨by omega, by rw [au_step hp.2, h80]; exact aus_sign (by intro z; omega) (by omega)⟩
                  · refine aw_iload d_Mo_faultOf_170 rfl ?_
                    refine aw_bipush (z := 124) d_Mo_faultOf_172 (in_c rfl) rfl ?_
                    refine aw_icmp_ne (tgt := 182) d_Mo_faultOf_174 rfl (fun h174 => ?_) (fun h174 => ?_)
                    · refine aw_iload d_Mo_faultOf_182 rfl ?_
                      exact aw_iret d_Mo_faultOf_184 rfl ⟨rfl, Or.inl ⟨p, _, ⟨(w, dd, s), hp.2, Or.inl ⟨by omega, by rw [h80]; exact aus_bad0 (by intro z; omega) (by omega)⟩⟩, rfl, rfl⟩⟩
                    · refine aw_iconst d_Mo_faultOf_177 (in_c rfl) ?_
                      refine aw_istore_n (lst' := [_, _, some (aI (bI true)), _, _, _, _, _]) d_Mo_faultOf_178 rfl (Nat.le_of_ble_eq_true rfl) rfl ?_
                      refine aw_goto (tgt := 185) d_Mo_faultOf_179 rfl ?_
                      refine aw_iinc (lst' := [_, _, _, _, some (aI (((p + 1 : Nat) : Int))), _, _, _]) d_Mo_faultOf_185 (Nat.le_of_ble_eq_true rfl) rfl (by unfold inR; omega) (by rfl) ?_
                      refine aw_goto (tgt := 12) d_Mo_faultOf_188 rfl ?_
                      exact ih (n - (p + 1)) (by omega) (p + 1) true dd s _ _ _ rfl ⟨by omega, by rw [au_step hp.2, h80]; exact aus_sign (by intro z; omega) (by omega)⟩
              · refine aw_iload_n d_Mo_faultOf_145 rfl rfl ?_
                refine aw_iconst d_Mo_faultOf_146 (in_c rfl) ?_
                refine aw_icmp_le (tgt := 156) d_Mo_faultOf_147 rfl (fun h147 => ?_) (fun h147 => ?_)
                · refine aw_iload d_Mo_faultOf_156 rfl ?_
                  refine aw_bipush (z := 38) d_Mo_faultOf_158 (in_c rfl) rfl ?_
                  refine aw_icmp_eq (tgt := 177) d_Mo_faultOf_160 rfl (fun h160 => ?_) (fun h160 => ?_)
                  · refine aw_iconst d_Mo_faultOf_177 (in_c rfl) ?_
                    refine aw_istore_n (lst' := [_, _, some (aI (bI true)), _, _, _, _, _]) d_Mo_faultOf_178 rfl (Nat.le_of_ble_eq_true rfl) rfl ?_
                    refine aw_goto (tgt := 185) d_Mo_faultOf_179 rfl ?_
                    refine aw_iinc (lst' := [_, _, _, _, some (aI (((p + 1 : Nat) : Int))), _, _, _]) d_Mo_faultOf_185 (Nat.le_of_ble_eq_true rfl) rfl (by unfold inR; omega) (by rfl) ?_
                    refine aw_goto (tgt := 12) d_Mo_faultOf_188 rfl ?_
                    exact ih (n - (p + 1)) (by omega) (p + 1) true dd s _ _ _ rfl ⟨by omega, by rw [au_step hp.2, h80]; exact aus_sign (by intro z; omega) (by omega)⟩
                  · refine aw_iload d_Mo_faultOf_163 rfl ?_
                    refine aw_bipush (z := 94) d_Mo_faultOf_165 (in_c rfl) rfl ?_
                    refine aw_icmp_eq (tgt := 177) d_Mo_faultOf_167 rfl (fun h167 => ?_) (fun h167 => ?_)
                    · refine aw_iconst d_Mo_faultOf_177 (in_c rfl) ?_
                      refine aw_istore_n (lst' := [_, _, some (aI (bI true)), _, _, _, _, _]) d_Mo_faultOf_178 rfl (Nat.le_of_ble_eq_true rfl) rfl ?_
                      refine aw_goto (tgt := 185) d_Mo_faultOf_179 rfl ?_
                      refine aw_iinc (lst' := [_, _, _, _, some (aI (((p + 1 : Nat) : Int))), _, _, _]) d_Mo_faultOf_185 (Nat.le_of_ble_eq_true rfl) rfl (by unfold inR; omega) (by rfl) ?_
                      refine aw_goto (tgt := 12) d_Mo_faultOf_188 rfl ?_
                      exact ih (n - (p + 1)) (by omega) (p + 1) true dd s _ _ _ rfl ⟨by omega, by rw [au_step hp.2, h80]; exact aus_sign (by intro z; omega) (by omega)⟩
                    · refine aw_iload d_Mo_faultOf_170 rfl ?_
                      refine aw_bipush (z := 124) d_Mo_faultOf_172 (in_c rfl) rfl ?_
                      refine aw_icmp_ne (tgt := 182) d_Mo_faultOf_174 rfl (fun h174 => ?_) (fun h174 => ?_)
                      · refine aw_iload d_Mo_faultOf_182 rfl ?_
                        exact aw_iret d_Mo_faultOf_184 rfl ⟨rfl, Or.inl ⟨p, _, ⟨(w, dd, s), hp.2, Or.inl ⟨by omega, by rw [h80]; exact aus_bad0 (by intro z; omega) (by omega)⟩⟩, rfl, rfl⟩⟩
                      · refine aw_iconst d_Mo_faultOf_177 (in_c rfl) ?_
                        refine aw_istore_n (lst' := [_, _, some (aI (bI true)), _, _, _, _, _]) d_Mo_faultOf_178 rfl (Nat.le_of_ble_eq_true rfl) rfl ?_
                        refine aw_goto (tgt := 185) d_Mo_faultOf_179 rfl ?_
                        refine aw_iinc (lst' := [_, _, _, _, some (aI (((p + 1 : Nat) : Int))), _, _, _]) d_Mo_faultOf_185 (Nat.le_of_ble_eq_true rfl) rfl (by unfold inR; omega) (by rfl) ?_
                        refine aw_goto (tgt := 12) d_Mo_faultOf_188 rfl ?_
                        exact ih (n - (p + 1)) (by omega) (p + 1) true dd s _ _ _ rfl ⟨by omega, by rw [au_step hp.2, h80]; exact aus_sign (by intro z; omega) (by omega)⟩
                · refine aw_iinc (lst' := [_, _, _, some (aI (((dd - 1 : Nat) : Int))), _, _, _, _]) d_Mo_faultOf_150 (Nat.le_of_ble_eq_true rfl) rfl (by unfold inR; omega) (by rw [show (dd : Int) + -1 = ((dd - 1 : Nat) : Int) by omega]; rfl) ?_
                  refine aw_goto (tgt := 185) d_Mo_faultOf_153 rfl ?_
                  refine aw_lc (lst' := [_, _, some (aI (bI false)), _, _, _, _, _]) (by (rw [h80]) <;> rfl) ?_
                  refine aw_iinc (lst' := [_, _, _, _, some (aI (((p + 1 : Nat) : Int))), _, _, _]) d_Mo_faultOf_185 (Nat.le_of_ble_eq_true rfl) rfl (by unfold inR; omega) (by rfl) ?_
                  refine aw_goto (tgt := 12) d_Mo_faultOf_188 rfl ?_
                  exact ih (n - (p + 1)) (by omega) (p + 1) false (dd - 1) s _ _ _ rfl ⟨by omega, by rw [au_step hp.2, h80]; exact aus_close (by omega) (by omega)⟩
            · replace h80 := bn h80
              refine aw_iload d_Mo_faultOf_83 rfl ?_
              refine aw_bipush (z := 40) d_Mo_faultOf_85 (in_c rfl) rfl ?_
              refine aw_icmp_ne (tgt := 102) d_Mo_faultOf_87 rfl (fun h87 => ?_) (fun h87 => ?_)
              · refine aw_iload d_Mo_faultOf_102 rfl ?_
                refine aw_if_eq (tgt := 128) d_Mo_faultOf_104 rfl (fun h104 => absurd h104 (by rw [h55]; decide)) (fun h104 => ?_)
                refine aw_iload d_Mo_faultOf_107 rfl ?_
                refine aw_se (as := [_]) rfl cs_Mo_106 d_Mo_faultOf_109 (Nat.le_of_ble_eq_true rfl) (d' := d - 1) (by omega) (m_Mo_countOf (by omega) (by omega)) ?_
                refine aw_bipush (z := 6) d_Mo_faultOf_112 (in_c rfl) rfl ?_
                refine aw_icmp_gt (tgt := 128) d_Mo_faultOf_114 rfl (fun h114 => ?_) (fun h114 => ?_)
                · refine aw_iload d_Mo_faultOf_128 rfl ?_
                  refine aw_bipush (z := 33) d_Mo_faultOf_130 (in_c rfl) rfl ?_
                  refine aw_icmp_eq (tgt := 185) d_Mo_faultOf_132 rfl (fun h132 => ?_) (fun h132 => ?_)
                  · refine aw_lc (lst' := [_, _, some (aI (bI true)), _, _, _, _, _]) (by (rw [h80]) <;> rfl) ?_
                    refine aw_iinc (lst' := [_, _, _, _, some (aI (((p + 1 : Nat) : Int))), _, _, _]) d_Mo_faultOf_185 (Nat.le_of_ble_eq_true rfl) rfl (by unfold inR; omega) (by rfl) ?_
                    refine aw_goto (tgt := 12) d_Mo_faultOf_188 rfl ?_
                    exact ih (n - (p + 1)) (by omega) (p + 1) true dd s _ _ _ rfl ⟨by omega, by rw [au_step hp.2, h80]; exact aus_not (by intro z; omega) (fun z => absurd z.2 (by omega)) (by omega)⟩
                  · refine aw_iload d_Mo_faultOf_135 rfl ?_
                    exact aw_iret d_Mo_faultOf_137 rfl ⟨rfl, Or.inl ⟨p, _, ⟨(w, dd, s), hp.2, Or.inl ⟨by omega, by rw [h80]; exact aus_bad1 (by intro z; omega) (fun z => absurd z.2 (by omega)) (by omega)⟩⟩, rfl, rfl⟩⟩
                · refine aw_aload_n d_Mo_faultOf_117 rfl rfl ?_
                  refine aw_iload d_Mo_faultOf_118 rfl ?_
                  refine aw_putI fd_Mo_seen lk_Mo_103 (by omega) rfl d_Mo_faultOf_120 (Or.inl rfl) ?_
                  refine aw_mm (μ' := wI μ 67 27 (((more md (mI μ 74 p) s) : Nat) : Int)) (wI_wI _ _ _ _ _) ?_
                  refine aw_iconst d_Mo_faultOf_123 (in_c rfl) ?_
                  refine aw_istore_n (lst' := [_, _, some (aI (bI false)), _, _, _, _, _]) d_Mo_faultOf_124 rfl (Nat.le_of_ble_eq_true rfl) rfl ?_
                  refine aw_goto (tgt := 185) d_Mo_faultOf_125 rfl ?_
                  refine aw_iinc (lst' := [_, _, _, _, some (aI (((p + 1 : Nat) : Int))), _, _, _]) d_Mo_faultOf_185 (Nat.le_of_ble_eq_true rfl) rfl (by unfold inR; omega) (by rfl) ?_
                  refine aw_goto (tgt := 12) d_Mo_faultOf_188 rfl ?_
                  exact ih (n - (p + 1)) (by omega) (p + 1) false dd (more md (mI μ 74 p) s) _ _ _ rfl ⟨by omega, by rw [au_step hp.2, h80]; exact aus_let (by intro z; omega) (of_decide_eq_true h55) (by omega)⟩
              · refine aw_iload_n d_Mo_faultOf_90 rfl rfl ?_
                refine aw_bipush (z := 6) d_Mo_faultOf_91 (in_c rfl) rfl ?_
                refine aw_icmp_ge (tgt := 102) d_Mo_faultOf_93 rfl (fun h93 => ?_) (fun h93 => ?_)
                · refine aw_iload d_Mo_faultOf_102 rfl ?_
                  refine aw_if_eq (tgt := 128) d_Mo_faultOf_104 rfl (fun h104 => absurd h104 (by rw [h55]; decide)) (fun h104 => ?_)
                  refine aw_iload d_Mo_faultOf_107 rfl ?_
                  refine aw_se (as := [_]) rfl cs_Mo_106 d_Mo_faultOf_109 (Nat.le_of_ble_eq_true rfl) (d' := d - 1) (by omega) (m_Mo_countOf (by omega) (by omega)) ?_
                  refine aw_bipush (z := 6) d_Mo_faultOf_112 (in_c rfl) rfl ?_
                  refine aw_icmp_gt (tgt := 128) d_Mo_faultOf_114 rfl (fun h114 => ?_) (fun h114 => ?_)
                  · refine aw_iload d_Mo_faultOf_128 rfl ?_
                    refine aw_bipush (z := 33) d_Mo_faultOf_130 (in_c rfl) rfl ?_
                    refine aw_icmp_eq (tgt := 185) d_Mo_faultOf_132 rfl (fun h132 => ?_) (fun h132 => ?_)
                    · refine aw_lc (lst' := [_, _, some (aI (bI true)), _, _, _, _, _]) (by (rw [h80]) <;> rfl) ?_
                      refine aw_iinc (lst' := [_, _, _, _, some (aI (((p + 1 : Nat) : Int))), _, _, _]) d_Mo_faultOf_185 (Nat.le_of_ble_eq_true rfl) rfl (by unfold inR; omega) (by rfl) ?_
                      refine aw_goto (tgt := 12) d_Mo_faultOf_188 rfl ?_
                      exact ih (n - (p + 1)) (by omega) (p + 1) true dd s _ _ _ rfl ⟨by omega, by rw [au_step hp.2, h80]; exact aus_not (by intro z; omega) (fun z => absurd z.2 (by omega)) (by omega)⟩
                    · refine aw_iload d_Mo_faultOf_135 rfl ?_
                      exact aw_iret d_Mo_faultOf_137 rfl ⟨rfl, Or.inl ⟨p, _, ⟨(w, dd, s), hp.2, Or.inl ⟨by omega, by rw [h80]; exact aus_bad1 (by intro z; omega) (fun z => absurd z.2 (by omega)) (by omega)⟩⟩, rfl, rfl⟩⟩
                  · refine aw_aload_n d_Mo_faultOf_117 rfl rfl ?_
                    refine aw_iload d_Mo_faultOf_118 rfl ?_
                    refine aw_putI fd_Mo_seen lk_Mo_103 (by omega) rfl d_Mo_faultOf_120 (Or.inl rfl) ?_
                    refine aw_mm (μ' := wI μ 67 27 (((more md (mI μ 74 p) s) : Nat) : Int)) (wI_wI _ _ _ _ _) ?_
                    refine aw_iconst d_Mo_faultOf_123 (in_c rfl) ?_
                    refine aw_istore_n (lst' := [_, _, some (aI (bI false)), _, _, _, _, _]) d_Mo_faultOf_124 rfl (Nat.le_of_ble_eq_true rfl) rfl ?_
                    refine aw_goto (tgt := 185) d_Mo_faultOf_125 rfl ?_
                    refine aw_iinc (lst' := [_, _, _, _, some (aI (((p + 1 : Nat) : Int))), _, _, _]) d_Mo_faultOf_185 (Nat.le_of_ble_eq_true rfl) rfl (by unfold inR; omega) (by rfl) ?_
                    refine aw_goto (tgt := 12) d_Mo_faultOf_188 rfl ?_
                    exact ih (n - (p + 1)) (by omega) (p + 1) false dd (more md (mI μ 74 p) s) _ _ _ rfl ⟨by omega, by rw [au_step hp.2, h80]; exact aus_let (by intro z; omega) (of_decide_eq_true h55) (by omega)⟩
                · refine aw_iinc (lst' := [_, _, _, some (aI (((dd + 1 : Nat) : Int))), _, _, _, _]) d_Mo_faultOf_96 (Nat.le_of_ble_eq_true rfl) rfl (by unfold inR; omega) (by rfl) ?_
                  refine aw_goto (tgt := 185) d_Mo_faultOf_99 rfl ?_
                  refine aw_lc (lst' := [_, _, some (aI (bI true)), _, _, _, _, _]) (by (rw [h80]) <;> rfl) ?_
                  refine aw_iinc (lst' := [_, _, _, _, some (aI (((p + 1 : Nat) : Int))), _, _, _]) d_Mo_faultOf_185 (Nat.le_of_ble_eq_true rfl) rfl (by unfold inR; omega) (by rfl) ?_
                  refine aw_goto (tgt := 12) d_Mo_faultOf_188 rfl ?_
                  exact ih (n - (p + 1)) (by omega) (p + 1) true (dd + 1) s _ _ _ rfl ⟨by omega, by rw [au_step hp.2, h80]; exact aus_open (by omega) (by omega)⟩
        · refine aw_iconst d_Mo_faultOf_46 (in_c rfl) ?_
          refine aw_tv (v' := bI (decide (isLt md (mI μ 74 p)))) (by rw [decide_eq_true (show isLt md (mI μ 74 p) from ⟨by omega, by omega⟩)]; rfl) ?_
          refine aw_goto (tgt := 51) d_Mo_faultOf_47 rfl ?_
          refine aw_istore (lst' := [_, _, _, _, _, _, _, _]) d_Mo_faultOf_51 (Nat.le_of_ble_eq_true rfl) rfl ?_
          refine aw_iload d_Mo_faultOf_53 rfl ?_
          refine aw_if_eq (tgt := 73) d_Mo_faultOf_55 rfl (fun h55 => ?_) (fun h55 => ?_)
          · replace h55 := bz h55
            refine aw_aload_n d_Mo_faultOf_73 rfl rfl ?_
            refine aw_getI fd_Mo_seen lk_Mo_103 (by omega) rfl d_Mo_faultOf_74 ?_
            refine aw_tv (v' := (s : Int)) (by rw [mI_wI, if_pos ⟨rfl, rfl⟩]) ?_
            refine aw_tv (v' := (((more md (mI μ 74 p) s) : Nat) : Int)) (by unfold more; rw [if_neg (of_decide_eq_false h55)]) ?_
            refine aw_istore (lst' := [_, _, _, _, _, _, _, _]) d_Mo_faultOf_77 (Nat.le_of_ble_eq_true rfl) rfl ?_
            refine aw_iload_n d_Mo_faultOf_79 rfl rfl ?_
            refine aw_if_eq (tgt := 138) d_Mo_faultOf_80 rfl (fun h80 => ?_) (fun h80 => ?_)
            · replace h80 := bz h80
              refine aw_iload d_Mo_faultOf_138 rfl ?_
              refine aw_bipush (z := 41) d_Mo_faultOf_140 (in_c rfl) rfl ?_
              refine aw_icmp_ne (tgt := 156) d_Mo_faultOf_142 rfl (fun h142 => ?_) (fun h142 => ?_)
              · refine aw_iload d_Mo_faultOf_156 rfl ?_
                refine aw_bipush (z := 38) d_Mo_faultOf_158 (in_c rfl) rfl ?_
                refine aw_icmp_eq (tgt := 177) d_Mo_faultOf_160 rfl (fun h160 => ?_) (fun h160 => ?_)
                · refine aw_iconst d_Mo_faultOf_177 (in_c rfl) ?_
                  refine aw_istore_n (lst' := [_, _, some (aI (bI true)), _, _, _, _, _]) d_Mo_faultOf_178 rfl (Nat.le_of_ble_eq_true rfl) rfl ?_
                  refine aw_goto (tgt := 185) d_Mo_faultOf_179 rfl ?_
                  refine aw_iinc (lst' := [_, _, _, _, some (aI (((p + 1 : Nat) : Int))), _, _, _]) d_Mo_faultOf_185 (Nat.le_of_ble_eq_true rfl) rfl (by unfold inR; omega) (by rfl) ?_
                  refine aw_goto (tgt := 12) d_Mo_faultOf_188 rfl ?_
                  exact ih (n - (p + 1)) (by omega) (p + 1) true dd s _ _ _ rfl ⟨by omega, by rw [au_step hp.2, h80]; exact aus_sign (by intro z; omega) (by omega)⟩
                · refine aw_iload d_Mo_faultOf_163 rfl ?_
                  refine aw_bipush (z := 94) d_Mo_faultOf_165 (in_c rfl) rfl ?_
                  refine aw_icmp_eq (tgt := 177) d_Mo_faultOf_167 rfl (fun h167 => ?_) (fun h167 => ?_)
                  · refine aw_iconst d_Mo_faultOf_177 (in_c rfl) ?_
                    refine aw_istore_n (lst' := [_, _, some (aI (bI true)), _, _, _, _, _]) d_Mo_faultOf_178 rfl (Nat.le_of_ble_eq_true rfl) rfl ?_
                    refine aw_goto (tgt := 185) d_Mo_faultOf_179 rfl ?_
                    refine aw_iinc (lst' := [_, _, _, _, some (aI (((p + 1 : Nat) : Int))), _, _, _]) d_Mo_faultOf_185 (Nat.le_of_ble_eq_true rfl) rfl (by unfold inR; omega) (by rfl) ?_
                    refine aw_goto (tgt := 12) d_Mo_faultOf_188 rfl ?_
                    exact ih (n - (p + 1)) (by omega) (p + 1) true dd s _ _ _ rfl ⟨by omega, by rw [au_step hp.2, h80]; exact aus_sign (by intro z; omega) (by omega)⟩
                  · refine aw_iload d_Mo_faultOf_170 rfl ?_
                    refine aw_bipush (z := 124) d_Mo_faultOf_172 (in_c rfl) rfl ?_
                    refine aw_icmp_ne (tgt := 182) d_Mo_faultOf_174 rfl (fun h174 => ?_) (fun h174 => ?_)
                    · refine aw_iload d_Mo_faultOf_182 rfl ?_
                      exact aw_iret d_Mo_faultOf_184 rfl ⟨rfl, Or.inl ⟨p, _, ⟨(w, dd, s), hp.2, Or.inl ⟨by omega, by rw [h80]; exact aus_bad0 (by intro z; omega) (by omega)⟩⟩, rfl, rfl⟩⟩
                    · refine aw_iconst d_Mo_faultOf_177 (in_c rfl) ?_
                      refine aw_istore_n (lst' := [_, _, some (aI (bI true)), _, _, _, _, _]) d_Mo_faultOf_178 rfl (Nat.le_of_ble_eq_true rfl) rfl ?_
                      refine aw_goto (tgt := 185) d_Mo_faultOf_179 rfl ?_
                      refine aw_iinc (lst' := [_, _, _, _, some (aI (((p + 1 : Nat) : Int))), _, _, _]) d_Mo_faultOf_185 (Nat.le_of_ble_eq_true rfl) rfl (by unfold inR; omega) (by rfl) ?_
                      refine aw_goto (tgt := 12) d_Mo_faultOf_188 rfl ?_
                      exact ih (n - (p + 1)) (by omega) (p + 1) true dd s _ _ _ rfl ⟨by omega, by rw [au_step hp.2, h80]; exact aus_sign (by intro z; omega) (by omega)⟩
              · refine aw_iload_n d_Mo_faultOf_145 rfl rfl ?_
                refine aw_iconst d_Mo_faultOf_146 (in_c rfl) ?_
                refine aw_icmp_le (tgt := 156) d_Mo_faultOf_147 rfl (fun h147 => ?_) (fun h147 => ?_)
                · refine aw_iload d_Mo_faultOf_156 rfl ?_
                  refine aw_bipush (z := 38) d_Mo_faultOf_158 (in_c rfl) rfl ?_
                  refine aw_icmp_eq (tgt := 177) d_Mo_faultOf_160 rfl (fun h160 => ?_) (fun h160 => ?_)
                  · refine aw_iconst d_Mo_faultOf_177 (in_c rfl) ?_
                    refine aw_istore_n (lst' := [_, _, some (aI (bI true)), _, _, _, _, _]) d_Mo_faultOf_178 rfl (Nat.le_of_ble_eq_true rfl) rfl ?_
                    refine aw_goto (tgt := 185) d_Mo_faultOf_179 rfl ?_
                    refine aw_iinc (lst' := [_, _, _, _, some (aI (((p + 1 : Nat) : Int))), _, _, _]) d_Mo_faultOf_185 (Nat.le_of_ble_eq_true rfl) rfl (by unfold inR; omega) (by rfl) ?_
                    refine aw_goto (tgt := 12) d_Mo_faultOf_188 rfl ?_
                    exact ih (n - (p + 1)) (by omega) (p + 1) true dd s _ _ _ rfl ⟨by omega, by rw [au_step hp.2, h80]; exact aus_sign (by intro z; omega) (by omega)⟩
                  · refine aw_iload d_Mo_faultOf_163 rfl ?_
                    refine aw_bipush (z := 94) d_Mo_faultOf_165 (in_c rfl) rfl ?_
                    refine aw_icmp_eq (tgt := 177) d_Mo_faultOf_167 rfl (fun h167 => ?_) (fun h167 => ?_)
                    · refine aw_iconst d_Mo_faultOf_177 (in_c rfl) ?_
                      refine aw_istore_n (lst' := [_, _, some (aI (bI true)), _, _, _, _, _]) d_Mo_faultOf_178 rfl (Nat.le_of_ble_eq_true rfl) rfl ?_
                      refine aw_goto (tgt := 185) d_Mo_faultOf_179 rfl ?_
                      refine aw_iinc (lst' := [_, _, _, _, some (aI (((p + 1 : Nat) : Int))), _, _, _]) d_Mo_faultOf_185 (Nat.le_of_ble_eq_true rfl) rfl (by unfold inR; omega) (by rfl) ?_
                      refine aw_goto (tgt := 12) d_Mo_faultOf_188 rfl ?_
                      exact ih (n - (p + 1)) (by omega) (p + 1) true dd s _ _ _ rfl ⟨by omega, by rw [au_step hp.2, h80]; exact aus_sign (by intro z; omega) (by omega)⟩
                    · refine aw_iload d_Mo_faultOf_170 rfl ?_
                      refine aw_bipush (z := 124) d_Mo_faultOf_172 (in_c rfl) rfl ?_
                      refine aw_icmp_ne (tgt := 182) d_Mo_faultOf_174 rfl (fun h174 => ?_) (fun h174 => ?_)
                      · refine aw_iload d_Mo_faultOf_182 rfl ?_
                        exact aw_iret d_Mo_faultOf_184 rfl ⟨rfl, Or.inl ⟨p, _, ⟨(w, dd, s), hp.2, Or.inl ⟨by omega, by rw [h80]; exact aus_bad0 (by intro z; omega) (by omega)⟩⟩, rfl, rfl⟩⟩
                      · refine aw_iconst d_Mo_faultOf_177 (in_c rfl) ?_
                        refine aw_istore_n (lst' := [_, _, some (aI (bI true)), _, _, _, _, _]) d_Mo_faultOf_178 rfl (Nat.le_of_ble_eq_true rfl) rfl ?_
                        refine aw_goto (tgt := 185) d_Mo_faultOf_179 rfl ?_
                        refine aw_iinc (lst' := [_, _, _, _, some (aI (((p + 1 : Nat) : Int))), _, _, _]) d_Mo_faultOf_185 (Nat.le_of_ble_eq_true rfl) rfl (by unfold inR; omega) (by rfl) ?_
                        refine aw_goto (tgt := 12) d_Mo_faultOf_188 rfl ?_
                        exact ih (n - (p + 1)) (by omega) (p + 1) true dd s _ _ _ rfl ⟨by omega, by rw [au_step hp.2, h80]; exact aus_sign (by intro z; omega) (by omega)⟩
                · refine aw_iinc (lst' := [_, _, _, some (aI (((dd - 1 : Nat) : Int))), _, _, _, _]) d_Mo_faultOf_150 (Nat.le_of_ble_eq_true rfl) rfl (by unfold inR; omega) (by rw [show (dd : Int) + -1 = ((dd - 1 : Nat) : Int) by omega]; rfl) ?_
                  refine aw_goto (tgt := 185) d_Mo_faultOf_153 rfl ?_
                  refine aw_lc (lst' := [_, _, some (aI (bI false)), _, _, _, _, _]) (by (rw [h80]) <;> rfl) ?_
                  refine aw_iinc (lst' := [_, _, _, _, some (aI (((p + 1 : Nat) : Int))), _, _, _]) d_Mo_faultOf_185 (Nat.le_of_ble_eq_true rfl) rfl (by unfold inR; omega) (by rfl) ?_
                  refine aw_goto (tgt := 12) d_Mo_faultOf_188 rfl ?_
                  exact ih (n - (p + 1)) (by omega) (p + 1) false (dd - 1) s _ _ _ rfl ⟨by omega, by rw [au_step hp.2, h80]; exact aus_close (by omega) (by omega)⟩
            · replace h80 := bn h80
              refine aw_iload d_Mo_faultOf_83 rfl ?_
              refine aw_bipush (z := 40) d_Mo_faultOf_85 (in_c rfl) rfl ?_
              refine aw_icmp_ne (tgt := 102) d_Mo_faultOf_87 rfl (fun h87 => ?_) (fun h87 => ?_)
              · refine aw_iload d_Mo_faultOf_102 rfl ?_
                refine aw_if_eq (tgt := 128) d_Mo_faultOf_104 rfl (fun h104 => ?_) (fun h104 => absurd (by rw [h55]; rfl) h104)
                refine aw_iload d_Mo_faultOf_128 rfl ?_
                refine aw_bipush (z := 33) d_Mo_faultOf_130 (in_c rfl) rfl ?_
                refine aw_icmp_eq (tgt := 185) d_Mo_faultOf_132 rfl (fun h132 => ?_) (fun h132 => ?_)
                · refine aw_lc (lst' := [_, _, some (aI (bI true)), _, _, _, _, _]) (by (rw [h80]) <;> rfl) ?_
                  refine aw_iinc (lst' := [_, _, _, _, some (aI (((p + 1 : Nat) : Int))), _, _, _]) d_Mo_faultOf_185 (Nat.le_of_ble_eq_true rfl) rfl (by unfold inR; omega) (by rfl) ?_
                  refine aw_goto (tgt := 12) d_Mo_faultOf_188 rfl ?_
                  exact ih (n - (p + 1)) (by omega) (p + 1) true dd s _ _ _ rfl ⟨by omega, by rw [au_step hp.2, h80]; exact aus_not (by intro z; omega) (fun z => absurd z.1 (of_decide_eq_false h55)) (by omega)⟩
                · refine aw_iload d_Mo_faultOf_135 rfl ?_
                  exact aw_iret d_Mo_faultOf_137 rfl ⟨rfl, Or.inl ⟨p, _, ⟨(w, dd, s), hp.2, Or.inl ⟨by omega, by rw [h80]; exact aus_bad1 (by intro z; omega) (fun z => absurd z.1 (of_decide_eq_false h55)) (by omega)⟩⟩, rfl, rfl⟩⟩
              · refine aw_iload_n d_Mo_faultOf_90 rfl rfl ?_
                refine aw_bipush (z := 6) d_Mo_faultOf_91 (in_c rfl) rfl ?_
                refine aw_icmp_ge (tgt := 102) d_Mo_faultOf_93 rfl (fun h93 => ?_) (fun h93 => ?_)
                · refine aw_iload d_Mo_faultOf_102 rfl ?_
                  refine aw_if_eq (tgt := 128) d_Mo_faultOf_104 rfl (fun h104 => ?_) (fun h104 => absurd (by rw [h55]; rfl) h104)
                  refine aw_iload d_Mo_faultOf_128 rfl ?_
                  refine aw_bipush (z := 33) d_Mo_faultOf_130 (in_c rfl) rfl ?_
                  refine aw_icmp_eq (tgt := 185) d_Mo_faultOf_132 rfl (fun h132 => ?_) (fun h132 => ?_)
                  · refine aw_lc (lst' := [_, _, some (aI (bI true)), _, _, _, _, _]) (by (rw [h80]) <;> rfl) ?_
                    refine aw_iinc (lst' := [_, _, _, _, some (aI (((p + 1 : Nat) : Int))), _, _, _]) d_Mo_faultOf_185 (Nat.le_of_ble_eq_true rfl) rfl (by unfold inR; omega) (by rfl) ?_
                    refine aw_goto (tgt := 12) d_Mo_faultOf_188 rfl ?_
                    exact ih (n - (p + 1)) (by omega) (p + 1) true dd s _ _ _ rfl ⟨by omega, by rw [au_step hp.2, h80]; exact aus_not (by intro z; omega) (fun z => absurd z.1 (of_decide_eq_false h55)) (by omega)⟩
                  · refine aw_iload d_Mo_faultOf_135 rfl ?_
                    exact aw_iret d_Mo_faultOf_137 rfl ⟨rfl, Or.inl ⟨p, _, ⟨(w, dd, s), hp.2, Or.inl ⟨by omega, by rw [h80]; exact aus_bad1 (by intro z; omega) (fun z => absurd z.1 (of_decide_eq_false h55)) (by omega)⟩⟩, rfl, rfl⟩⟩
                · refine aw_iinc (lst' := [_, _, _, some (aI (((dd + 1 : Nat) : Int))), _, _, _, _]) d_Mo_faultOf_96 (Nat.le_of_ble_eq_true rfl) rfl (by unfold inR; omega) (by rfl) ?_
                  refine aw_goto (tgt := 185) d_Mo_faultOf_99 rfl ?_
                  refine aw_lc (lst' := [_, _, some (aI (bI true)), _, _, _, _, _]) (by (rw [h80]) <;> rfl) ?_
                  refine aw_iinc (lst' := [_, _, _, _, some (aI (((p + 1 : Nat) : Int))), _, _, _]) d_Mo_faultOf_185 (Nat.le_of_ble_eq_true rfl) rfl (by unfold inR; omega) (by rfl) ?_
                  refine aw_goto (tgt := 12) d_Mo_faultOf_188 rfl ?_
                  exact ih (n - (p + 1)) (by omega) (p + 1) true (dd + 1) s _ _ _ rfl ⟨by omega, by rw [au_step hp.2, h80]; exact aus_open (by omega) (by omega)⟩
          · replace h55 := bn h55
            refine aw_aload_n d_Mo_faultOf_58 rfl rfl ?_
            refine aw_getI fd_Mo_seen lk_Mo_103 (by omega) rfl d_Mo_faultOf_59 ?_
            refine aw_tv (v' := (s : Int)) (by rw [mI_wI, if_pos ⟨rfl, rfl⟩]) ?_
            refine aw_iconst d_Mo_faultOf_62 (in_c rfl) ?_
            refine aw_iload d_Mo_faultOf_63 rfl ?_
            refine aw_bipush (z := 65) d_Mo_faultOf_65 (in_c rfl) rfl ?_
            refine aw_isub d_Mo_faultOf_67 (by unfold inR; omega) ?_
            have hlt : isLt md (mI μ 74 p) := of_decide_eq_true h55
            have hl1 := hlt.1
            have hl2 := hlt.2
            refine aw_ishl (a := 1) (k0 := ((mI μ 74 p) - 65).toNat) rfl (by omega) (by omega) (by have := Nat.pow_le_pow_right (n := 2) (by omega) (show ((mI μ 74 p) - 65).toNat ≤ 7 by omega); omega) d_Mo_faultOf_68 ?_
            refine aw_ior (a := s) (b := 1 * 2 ^ ((mI μ 74 p) - 65).toNat) rfl rfl d_Mo_faultOf_69 ?_
            refine aw_tv (v' := (((more md (mI μ 74 p) s) : Nat) : Int)) (by unfold more; rw [if_pos hlt, Nat.one_mul]) ?_
            refine aw_goto (tgt := 77) d_Mo_faultOf_70 rfl ?_
            refine aw_istore (lst' := [_, _, _, _, _, _, _, _]) d_Mo_faultOf_77 (Nat.le_of_ble_eq_true rfl) rfl ?_
            refine aw_iload_n d_Mo_faultOf_79 rfl rfl ?_
            refine aw_pc (pc' := 80) rfl ?_
            refine aw_if_eq (tgt := 138) d_Mo_faultOf_80 rfl (fun h80 => ?_) (fun h80 => ?_)
            · replace h80 := bz h80
              refine aw_iload d_Mo_faultOf_138 rfl ?_
              refine aw_bipush (z := 41) d_Mo_faultOf_140 (in_c rfl) rfl ?_
              refine aw_icmp_ne (tgt := 156) d_Mo_faultOf_142 rfl (fun h142 => ?_) (fun h142 => ?_)
              · refine aw_iload d_Mo_faultOf_156 rfl ?_
                refine aw_bipush (z := 38) d_Mo_faultOf_158 (in_c rfl) rfl ?_
                refine aw_icmp_eq (tgt := 177) d_Mo_faultOf_160 rfl (fun h160 => ?_) (fun h160 => ?_)
                · refine aw_iconst d_Mo_faultOf_177 (in_c rfl) ?_
                  refine aw_istore_n (lst' := [_, _, some (aI (bI true)), _, _, _, _, _]) d_Mo_faultOf_178 rfl (Nat.le_of_ble_eq_true rfl) rfl ?_
                  refine aw_goto (tgt := 185) d_Mo_faultOf_179 rfl ?_
                  refine aw_iinc (lst' := [_, _, _, _, some (aI (((p + 1 : Nat) : Int))), _, _, _]) d_Mo_faultOf_185 (Nat.le_of_ble_eq_true rfl) rfl (by unfold inR; omega) (by rfl) ?_
                  refine aw_goto (tgt := 12) d_Mo_faultOf_188 rfl ?_
                  exact ih (n - (p + 1)) (by omega) (p + 1) true dd s _ _ _ rfl ⟨by omega, by rw [au_step hp.2, h80]; exact aus_sign (by intro z; omega) (by omega)⟩
                · refine aw_iload d_Mo_faultOf_163 rfl ?_
                  refine aw_bipush (z := 94) d_Mo_faultOf_165 (in_c rfl) rfl ?_
                  refine aw_icmp_eq (tgt := 177) d_Mo_faultOf_167 rfl (fun h167 => ?_) (fun h167 => ?_)
                  · refine aw_iconst d_Mo_faultOf_177 (in_c rfl) ?_
                    refine aw_istore_n (lst' := [_, _, some (aI (bI true)), _, _, _, _, _]) d_Mo_faultOf_178 rfl (Nat.le_of_ble_eq_true rfl) rfl ?_
                    refine aw_goto (tgt := 185) d_Mo_faultOf_179 rfl ?_
                    refine aw_iinc (lst' := [_, _, _, _, some (aI (((p + 1 : Nat) : Int))), _, _, _]) d_Mo_faultOf_185 (Nat.le_of_ble_eq_true rfl) rfl (by unfold inR; omega) (by rfl) ?_
                    refine aw_goto (tgt := 12) d_Mo_faultOf_188 rfl ?_
                    exact ih (n - (p + 1)) (by omega) (p + 1) true dd s _ _ _ rfl ⟨by omega, by rw [au_step hp.2, h80]; exact aus_sign (by intro z; omega) (by omega)⟩
                  · refine aw_iload d_Mo_faultOf_170 rfl ?_
                    refine aw_bipush (z := 124) d_Mo_faultOf_172 (in_c rfl) rfl ?_
                    refine aw_icmp_ne (tgt := 182) d_Mo_faultOf_174 rfl (fun h174 => ?_) (fun h174 => ?_)
                    · refine aw_iload d_Mo_faultOf_182 rfl ?_
                      exact aw_iret d_Mo_faultOf_184 rfl ⟨rfl, Or.inl ⟨p, _, ⟨(w, dd, s), hp.2, Or.inl ⟨by omega, by rw [h80]; exact aus_bad0 (by intro z; omega) (by omega)⟩⟩, rfl, rfl⟩⟩
                    · refine aw_iconst d_Mo_faultOf_177 (in_c rfl) ?_
                      refine aw_istore_n (lst' := [_, _, some (aI (bI true)), _, _, _, _, _]) d_Mo_faultOf_178 rfl (Nat.le_of_ble_eq_true rfl) rfl ?_
                      refine aw_goto (tgt := 185) d_Mo_faultOf_179 rfl ?_
                      refine aw_iinc (lst' := [_, _, _, _, some (aI (((p + 1 : Nat) : Int))), _, _, _]) d_Mo_faultOf_185 (Nat.le_of_ble_eq_true rfl) rfl (by unfold inR; omega) (by rfl) ?_
                      refine aw_goto (tgt := 12) d_Mo_faultOf_188 rfl ?_
                      exact ih (n - (p + 1)) (by omega) (p + 1) true dd s _ _ _ rfl ⟨by omega, by rw [au_step hp.2, h80]; exact aus_sign (by intro z; omega) (by omega)⟩
              · refine aw_iload_n d_Mo_faultOf_145 rfl rfl ?_
                refine aw_iconst d_Mo_faultOf_146 (in_c rfl) ?_
                refine aw_icmp_le (tgt := 156) d_Mo_faultOf_147 rfl (fun h147 => ?_) (fun h147 => ?_)
                · refine aw_iload d_Mo_faultOf_156 rfl ?_
                  refine aw_bipush (z := 38) d_Mo_faultOf_158 (in_c rfl) rfl ?_
                  refine aw_icmp_eq (tgt := 177) d_Mo_faultOf_160 rfl (fun h160 => ?_) (fun h160 => ?_)
                  · refine aw_iconst d_Mo_faultOf_177 (in_c rfl) ?_
                    refine aw_istore_n (lst' := [_, _, some (aI (bI true)), _, _, _, _, _]) d_Mo_faultOf_178 rfl (Nat.le_of_ble_eq_true rfl) rfl ?_
                    refine aw_goto (tgt := 185) d_Mo_faultOf_179 rfl ?_
                    refine aw_iinc (lst' := [_, _, _, _, some (aI (((p + 1 : Nat) : Int))), _, _, _]) d_Mo_faultOf_185 (Nat.le_of_ble_eq_true rfl) rfl (by unfold inR; omega) (by rfl) ?_
                    refine aw_goto (tgt := 12) d_Mo_faultOf_188 rfl ?_
                    exact ih (n - (p + 1)) (by omega) (p + 1) true dd s _ _ _ rfl ⟨by omega, by rw [au_step hp.2, h80]; exact aus_sign (by intro z; omega) (by omega)⟩
                  · refine aw_iload d_Mo_faultOf_163 rfl ?_
                    refine aw_bipush (z := 94) d_Mo_faultOf_165 (in_c rfl) rfl ?_
                    refine aw_icmp_eq (tgt := 177) d_Mo_faultOf_167 rfl (fun h167 => ?_) (fun h167 => ?_)
                    · refine aw_iconst d_Mo_faultOf_177 (in_c rfl) ?_
                      refine aw_istore_n (lst' := [_, _, some (aI (bI true)), _, _, _, _, _]) d_Mo_faultOf_178 rfl (Nat.le_of_ble_eq_true rfl) rfl ?_
                      refine aw_goto (tgt := 185) d_Mo_faultOf_179 rfl ?_
                      refine aw_iinc (lst' := [_, _, _, _, some (aI (((p + 1 : Nat) : Int))), _, _, _]) d_Mo_faultOf_185 (Nat.le_of_ble_eq_true rfl) rfl (by unfold inR; omega) (by rfl) ?_
                      refine aw_goto (tgt := 12) d_Mo_faultOf_188 rfl ?_
                      exact ih (n - (p + 1)) (by omega) (p + 1) true dd s _ _ _ rfl ⟨by omega, by rw [au_step hp.2, h80]; exact aus_sign (by intro z; omega) (by omega)⟩
                    · refine aw_iload d_Mo_faultOf_170 rfl ?_
                      refine aw_bipush (z := 124) d_Mo_faultOf_172 (in_c rfl) rfl ?_
                      refine aw_icmp_ne (tgt := 182) d_Mo_faultOf_174 rfl (fun h174 => ?_) (fun h174 => ?_)
                      · refine aw_iload d_Mo_faultOf_182 rfl ?_
                        exact aw_iret d_Mo_faultOf_184 rfl ⟨rfl, Or.inl ⟨p, _, ⟨(w, dd, s), hp.2, Or.inl ⟨by omega, by rw [h80]; exact aus_bad0 (by intro z; omega) (by omega)⟩⟩, rfl, rfl⟩⟩
                      · refine aw_iconst d_Mo_faultOf_177 (in_c rfl) ?_
                        refine aw_istore_n (lst' := [_, _, some (aI (bI true)), _, _, _, _, _]) d_Mo_faultOf_178 rfl (Nat.le_of_ble_eq_true rfl) rfl ?_
                        refine aw_goto (tgt := 185) d_Mo_faultOf_179 rfl ?_
                        refine aw_iinc (lst' := [_, _, _, _, some (aI (((p + 1 : Nat) : Int))), _, _, _]) d_Mo_faultOf_185 (Nat.le_of_ble_eq_true rfl) rfl (by unfold inR; omega) (by rfl) ?_
                        refine aw_goto (tgt := 12) d_Mo_faultOf_188 rfl ?_
                        exact ih (n - (p + 1)) (by omega) (p + 1) true dd s _ _ _ rfl ⟨by omega, by rw [au_step hp.2, h80]; exact aus_sign (by intro z; omega) (by omega)⟩
                · refine aw_iinc (lst' := [_, _, _, some (aI (((dd - 1 : Nat) : Int))), _, _, _, _]) d_Mo_faultOf_150 (Nat.le_of_ble_eq_true rfl) rfl (by unfold inR; omega) (by rw [show (dd : Int) + -1 = ((dd - 1 : Nat) : Int) by omega]; rfl) ?_
                  refine aw_goto (tgt := 185) d_Mo_faultOf_153 rfl ?_
                  refine aw_lc (lst' := [_, _, some (aI (bI false)), _, _, _, _, _]) (by (rw [h80]) <;> rfl) ?_
                  refine aw_iinc (lst' := [_, _, _, _, some (aI (((p + 1 : Nat) : Int))), _, _, _]) d_Mo_faultOf_185 (Nat.le_of_ble_eq_true rfl) rfl (by unfold inR; omega) (by rfl) ?_
                  refine aw_goto (tgt := 12) d_Mo_faultOf_188 rfl ?_
                  exact ih (n - (p + 1)) (by omega) (p + 1) false (dd - 1) s _ _ _ rfl ⟨by omega, by rw [au_step hp.2, h80]; exact aus_close (by omega) (by omega)⟩
            · replace h80 := bn h80
              refine aw_iload d_Mo_faultOf_83 rfl ?_
              refine aw_bipush (z := 40) d_Mo_faultOf_85 (in_c rfl) rfl ?_
              refine aw_icmp_ne (tgt := 102) d_Mo_faultOf_87 rfl (fun h87 => ?_) (fun h87 => ?_)
              · refine aw_iload d_Mo_faultOf_102 rfl ?_
                refine aw_if_eq (tgt := 128) d_Mo_faultOf_104 rfl (fun h104 => absurd h104 (by rw [h55]; decide)) (fun h104 => ?_)
                refine aw_iload d_Mo_faultOf_107 rfl ?_
                refine aw_se (as := [_]) rfl cs_Mo_106 d_Mo_faultOf_109 (Nat.le_of_ble_eq_true rfl) (d' := d - 1) (by omega) (m_Mo_countOf (by omega) (by omega)) ?_
                refine aw_bipush (z := 6) d_Mo_faultOf_112 (in_c rfl) rfl ?_
                refine aw_icmp_gt (tgt := 128) d_Mo_faultOf_114 rfl (fun h114 => ?_) (fun h114 => ?_)
                · refine aw_iload d_Mo_faultOf_128 rfl ?_
                  refine aw_bipush (z := 33) d_Mo_faultOf_130 (in_c rfl) rfl ?_
                  refine aw_icmp_eq (tgt := 185) d_Mo_faultOf_132 rfl (fun h132 => ?_) (fun h132 => ?_)
                  · refine aw_lc (lst' := [_, _, some (aI (bI true)), _, _, _, _, _]) (by (rw [h80]) <;> rfl) ?_
                    refine aw_iinc (lst' := [_, _, _, _, some (aI (((p + 1 : Nat) : Int))), _, _, _]) d_Mo_faultOf_185 (Nat.le_of_ble_eq_true rfl) rfl (by unfold inR; omega) (by rfl) ?_
                    refine aw_goto (tgt := 12) d_Mo_faultOf_188 rfl ?_
                    exact ih (n - (p + 1)) (by omega) (p + 1) true dd s _ _ _ rfl ⟨by omega, by rw [au_step hp.2, h80]; exact aus_not (by intro z; omega) (fun z => absurd z.2 (by omega)) (by omega)⟩
                  · refine aw_iload d_Mo_faultOf_135 rfl ?_
                    exact aw_iret d_Mo_faultOf_137 rfl ⟨rfl, Or.inl ⟨p, _, ⟨(w, dd, s), hp.2, Or.inl ⟨by omega, by rw [h80]; exact aus_bad1 (by intro z; omega) (fun z => absurd z.2 (by omega)) (by omega)⟩⟩, rfl, rfl⟩⟩
                · refine aw_aload_n d_Mo_faultOf_117 rfl rfl ?_
                  refine aw_iload d_Mo_faultOf_118 rfl ?_
                  refine aw_putI fd_Mo_seen lk_Mo_103 (by omega) rfl d_Mo_faultOf_120 (Or.inl rfl) ?_
                  refine aw_mm (μ' := wI μ 67 27 (((more md (mI μ 74 p) s) : Nat) : Int)) (wI_wI _ _ _ _ _) ?_
                  refine aw_iconst d_Mo_faultOf_123 (in_c rfl) ?_
                  refine aw_istore_n (lst' := [_, _, some (aI (bI false)), _, _, _, _, _]) d_Mo_faultOf_124 rfl (Nat.le_of_ble_eq_true rfl) rfl ?_
                  refine aw_goto (tgt := 185) d_Mo_faultOf_125 rfl ?_
                  refine aw_iinc (lst' := [_, _, _, _, some (aI (((p + 1 : Nat) : Int))), _, _, _]) d_Mo_faultOf_185 (Nat.le_of_ble_eq_true rfl) rfl (by unfold inR; omega) (by rfl) ?_
                  refine aw_goto (tgt := 12) d_Mo_faultOf_188 rfl ?_
                  exact ih (n - (p + 1)) (by omega) (p + 1) false dd (more md (mI μ 74 p) s) _ _ _ rfl ⟨by omega, by rw [au_step hp.2, h80]; exact aus_let (by intro z; omega) (of_decide_eq_true h55) (by omega)⟩
              · refine aw_iload_n d_Mo_faultOf_90 rfl rfl ?_
                refine aw_bipush (z := 6) d_Mo_faultOf_91 (in_c rfl) rfl ?_
                refine aw_icmp_ge (tgt := 102) d_Mo_faultOf_93 rfl (fun h93 => ?_) (fun h93 => ?_)
                · refine aw_iload d_Mo_faultOf_102 rfl ?_
                  refine aw_if_eq (tgt := 128) d_Mo_faultOf_104 rfl (fun h104 => absurd h104 (by rw [h55]; decide)) (fun h104 => ?_)
                  refine aw_iload d_Mo_faultOf_107 rfl ?_
                  refine aw_se (as := [_]) rfl cs_Mo_106 d_Mo_faultOf_109 (Nat.le_of_ble_eq_true rfl) (d' := d - 1) (by omega) (m_Mo_countOf (by omega) (by omega)) ?_
                  refine aw_bipush (z := 6) d_Mo_faultOf_112 (in_c rfl) rfl ?_
                  refine aw_icmp_gt (tgt := 128) d_Mo_faultOf_114 rfl (fun h114 => ?_) (fun h114 => ?_)
                  · refine aw_iload d_Mo_faultOf_128 rfl ?_
                    refine aw_bipush (z := 33) d_Mo_faultOf_130 (in_c rfl) rfl ?_
                    refine aw_icmp_eq (tgt := 185) d_Mo_faultOf_132 rfl (fun h132 => ?_) (fun h132 => ?_)
                    · refine aw_lc (lst' := [_, _, some (aI (bI true)), _, _, _, _, _]) (by (rw [h80]) <;> rfl) ?_
                      refine aw_iinc (lst' := [_, _, _, _, some (aI (((p + 1 : Nat) : Int))), _, _, _]) d_Mo_faultOf_185 (Nat.le_of_ble_eq_true rfl) rfl (by unfold inR; omega) (by rfl) ?_
                      refine aw_goto (tgt := 12) d_Mo_faultOf_188 rfl ?_
                      exact ih (n - (p + 1)) (by omega) (p + 1) true dd s _ _ _ rfl ⟨by omega, by rw [au_step hp.2, h80]; exact aus_not (by intro z; omega) (fun z => absurd z.2 (by omega)) (by omega)⟩
                    · refine aw_iload d_Mo_faultOf_135 rfl ?_
                      exact aw_iret d_Mo_faultOf_137 rfl ⟨rfl, Or.inl ⟨p, _, ⟨(w, dd, s), hp.2, Or.inl ⟨by omega, by rw [h80]; exact aus_bad1 (by intro z; omega) (fun z => absurd z.2 (by omega)) (by omega)⟩⟩, rfl, rfl⟩⟩
                  · refine aw_aload_n d_Mo_faultOf_117 rfl rfl ?_
                    refine aw_iload d_Mo_faultOf_118 rfl ?_
                    refine aw_putI fd_Mo_seen lk_Mo_103 (by omega) rfl d_Mo_faultOf_120 (Or.inl rfl) ?_
                    refine aw_mm (μ' := wI μ 67 27 (((more md (mI μ 74 p) s) : Nat) : Int)) (wI_wI _ _ _ _ _) ?_
                    refine aw_iconst d_Mo_faultOf_123 (in_c rfl) ?_
                    refine aw_istore_n (lst' := [_, _, some (aI (bI false)), _, _, _, _, _]) d_Mo_faultOf_124 rfl (Nat.le_of_ble_eq_true rfl) rfl ?_
                    refine aw_goto (tgt := 185) d_Mo_faultOf_125 rfl ?_
                    refine aw_iinc (lst' := [_, _, _, _, some (aI (((p + 1 : Nat) : Int))), _, _, _]) d_Mo_faultOf_185 (Nat.le_of_ble_eq_true rfl) rfl (by unfold inR; omega) (by rfl) ?_
                    refine aw_goto (tgt := 12) d_Mo_faultOf_188 rfl ?_
                    exact ih (n - (p + 1)) (by omega) (p + 1) false dd (more md (mI μ 74 p) s) _ _ _ rfl ⟨by omega, by rw [au_step hp.2, h80]; exact aus_let (by intro z; omega) (of_decide_eq_true h55) (by omega)⟩
                · refine aw_iinc (lst' := [_, _, _, some (aI (((dd + 1 : Nat) : Int))), _, _, _, _]) d_Mo_faultOf_96 (Nat.le_of_ble_eq_true rfl) rfl (by unfold inR; omega) (by rfl) ?_
                  refine aw_goto (tgt := 185) d_Mo_faultOf_99 rfl ?_
                  refine aw_lc (lst' := [_, _, some (aI (bI true)), _, _, _, _, _]) (by (rw [h80]) <;> rfl) ?_
                  refine aw_iinc (lst' := [_, _, _, _, some (aI (((p + 1 : Nat) : Int))), _, _, _]) d_Mo_faultOf_185 (Nat.le_of_ble_eq_true rfl) rfl (by unfold inR; omega) (by rfl) ?_
                  refine aw_goto (tgt := 12) d_Mo_faultOf_188 rfl ?_
                  exact ih (n - (p + 1)) (by omega) (p + 1) true (dd + 1) s _ _ _ rfl ⟨by omega, by rw [au_step hp.2, h80]; exact aus_open (by omega) (by omega)⟩
  refine aw_iconst d_Mo_faultOf_0 (in_c rfl) ?_
  refine aw_istore_n (lst' := [_, _, _, _, _, _, _, _]) d_Mo_faultOf_1 rfl (Nat.le_of_ble_eq_true rfl) rfl ?_
  refine aw_iconst d_Mo_faultOf_2 (in_c rfl) ?_
  refine aw_istore_n (lst' := [_, _, _, _, _, _, _, _]) d_Mo_faultOf_3 rfl (Nat.le_of_ble_eq_true rfl) rfl ?_
  refine aw_aload_n d_Mo_faultOf_4 rfl rfl ?_
  refine aw_iconst d_Mo_faultOf_5 (in_c rfl) ?_
  refine aw_putI fd_Mo_seen lk_Mo_103 (by omega) rfl d_Mo_faultOf_6 (Or.inl rfl) ?_
  refine aw_iconst d_Mo_faultOf_9 (in_c rfl) ?_
  refine aw_istore (lst' := [_, _, _, _, _, _, _, _]) d_Mo_faultOf_10 (Nat.le_of_ble_eq_true rfl) rfl ?_
  exact key (n - 0) 0 true 1 0 none none none rfl ⟨Nat.zero_le _, rfl⟩
end
