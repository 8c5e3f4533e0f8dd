/-! the law's cases -/
section
variable {G : aG} {μ : aM}
theorem aw_tabI {G : aG} {x : Bool} {y : aY} {d bc bs : Nat} {Q : aQ → Nat → aM → Prop} {pc : Nat} {lst : List (Option aV)} {st : List aV} {nn : Nat} {μ : aM} {z : Int} {dflt lo hi : Int} {offs : Array Int} {len : Nat} {off : Int} {tgt : Nat} (hd : decode y.2.1 pc = .ok (.tableswitch dflt lo hi offs, len)) (h1 : ¬ z < lo) (h2 : ¬ hi < z) (ho : offs[(z - lo).toNat]? = some off) (ht : (pc : Int) + off = (tgt : Int)) (k : AW G x y d bc bs Q tgt lst st nn μ) : AW G x y d bc bs Q pc lst (aI z :: st) nn μ := by
  intro p e R s m args below meth c H locs cells slots ls hC hH hL hs h1' h2' h3 h4
  have hz : inR z := ok_h hs
  exact lv_tableIn hC.1 hC.2.1 hd (by rw [n_ti hz]; exact h1) (by rw [n_ti hz]; exact h2) (by rw [n_ti hz]; exact ho) ht (k p e R s m args below meth c H locs cells slots ls hC hH hL (ok_s hs) h1' h2' h3 h4)
theorem aw_tabO {G : aG} {x : Bool} {y : aY} {d bc bs : Nat} {Q : aQ → Nat → aM → Prop} {pc : Nat} {lst : List (Option aV)} {st : List aV} {nn : Nat} {μ : aM} {z : Int} {dflt lo hi : Int} {offs : Array Int} {len : Nat} {tgt : Nat} (hd : decode y.2.1 pc = .ok (.tableswitch dflt lo hi offs, len)) (h : z < lo ∨ hi < z) (ht : (pc : Int) + dflt = (tgt : Int)) (k : AW G x y d bc bs Q tgt lst st nn μ) : AW G x y d bc bs Q pc lst (aI z :: st) nn μ := by
  intro p e R s m args below meth c H locs cells slots ls hC hH hL hs h1' h2' h3 h4
  have hz : inR z := ok_h hs
  exact lv_tableOut hC.1 hC.2.1 hd (by rw [n_ti hz]; exact h) ht (k p e R s m args below meth c H locs cells slots ls hC hH hL (ok_s hs) h1' h2' h3 h4)
theorem aw_x {G : aG} {x : Bool} {y : aY} {d bc bs : Nat} {Q : aQ → Nat → aM → Prop} {pc : Nat} {lst : List (Option aV)} {st : List aV} {nn : Nat} {μ : aM} (k : AW G false y d bc bs Q pc lst st nn μ) : AW G x y d bc bs Q pc lst st nn μ :=
  fun p e R s m args below meth c H locs cells slots ls hC hH hL hs h1 h2 h3 _ => k p e R s m args below meth c H locs cells slots ls hC hH hL hs h1 h2 h3 (fun h => nomatch h)
theorem aw_bud {G : aG} {x : Bool} {y : aY} {d bc bs bc' bs' : Nat} {Q : aQ → Nat → aM → Prop} {pc : Nat} {lst : List (Option aV)} {st : List aV} {nn : Nat} {μ : aM} (hc : bc' ≤ bc) (hs0 : bs' ≤ bs) (k : AW G x y d bc' bs' Q pc lst st nn μ) : AW G x y d bc bs Q pc lst st nn μ :=
  fun p e R s m args below meth c H locs cells slots ls hC hH hL hs h1 h2 h3 h4 => k p e R s m args below meth c H locs cells slots ls hC hH hL hs (by omega) (by omega) h3 h4
set_option maxRecDepth 100000 in
theorem k_La_0 {d bc bs : Nat} (hd : 2 ≤ d) {iN : Nat} (hi : iN + 5 ≤ gn G) (h2 : gn G ≤ 2560) {o5 o6 : Option aV} {Q : aQ → Nat → aM → Prop} {K : aM → Prop} (hbc : 3 ≤ bc) (hbs : 18 ≤ bs) {QA : aQ → Nat → aM → Prop} (hM : AM G false (d - 1) 3 18 y_La_input [aP 0, aI (gx G (iN + 1)), aI (gx G (iN + 2)), aP 93] 94 μ QA) (hq : ∀ r n m, QA r n m → n = 94 ∧ ∃ kq : Int, r = .inl (some (aI kq)) ∧ ∃ QB, AM G false (d - 1) 0 0 y_Mo_input [aP 67, aI (gx G (iN + 1)), aI (gx G (iN + 2))] 94 m QB ∧ ∀ r' n' m', QB r' n' m' → n' = 94 ∧ ∃ b : Int, r' = .inl (some (aI b)) ∧ mI m' 67 0 = kq ∧ (kq = 0 → mL m' 93 0 = BitVec.ofInt 64 b) ∧ K m') (kk : ∀ o5 o6 m', K m' → AW G false y_La_law d (bc - 3) (bs - 18) Q 1345 [some (aP 1000), some (aP 0), some (aP 67), some (aP 93), some (aI (iN : Int)), o5, o6] [] 94 m') : AW G false y_La_law d bc bs Q 136 [some (aP 1000), some (aP 0), some (aP 67), some (aP 93), some (aI (iN : Int)), o5, o6] [] 94 μ := by
  refine aw_aload_n d_La_law_136 rfl rfl ?_
  refine aw_aload_n d_La_law_137 rfl rfl ?_
  refine aw_iload d_La_law_138 rfl ?_
  refine aw_iconst d_La_law_140 (in_c rfl) ?_
  refine aw_iadd d_La_law_141 (by unfold inR; omega) ?_
  refine aw_sld (n := iN + 1) (by omega) (by omega) d_La_law_142 ?_
  refine aw_aload_n d_La_law_143 rfl rfl ?_
  refine aw_iload d_La_law_144 rfl ?_
  refine aw_iconst d_La_law_146 (in_c rfl) ?_
  refine aw_iadd d_La_law_147 (by unfold inR; omega) ?_
  refine aw_sld (n := iN + 2) (by omega) (by omega) d_La_law_148 ?_
  refine aw_pc (pc' := 149) rfl ?_
  refine aw_aload_n d_La_law_149 rfl rfl ?_
  refine aw_sx (as := [_, _, _, _]) rfl cs_La_71 d_La_law_150 (Nat.le_of_ble_eq_true rfl) (d' := d - 1) (by omega) hbc hbs hM ?_ (fun E n1 μ1 hv => by obtain ⟨-, kq, hz, -⟩ := hq _ _ _ hv; cases hz)
  intro v n1 μ1 hv
  obtain ⟨rfl, kq, hz, QB, hB, hb⟩ := hq _ _ _ hv
  cases hz
  refine aw_istore (lst' := [_, _, _, _, _, _, _]) d_La_law_153 (Nat.le_of_ble_eq_true rfl) rfl ?_
  refine aw_aload_n d_La_law_155 rfl rfl ?_
  refine aw_aload_n d_La_law_156 rfl rfl ?_
  refine aw_iload d_La_law_157 rfl ?_
  refine aw_iconst d_La_law_159 (in_c rfl) ?_
  refine aw_iadd d_La_law_160 (by unfold inR; omega) ?_
  refine aw_sld (n := iN + 1) (by omega) (by omega) d_La_law_161 ?_
  refine aw_aload_n d_La_law_162 rfl rfl ?_
  refine aw_iload d_La_law_163 rfl ?_
  refine aw_iconst d_La_law_165 (in_c rfl) ?_
  refine aw_pc (pc' := 166) rfl ?_
  refine aw_iadd d_La_law_166 (by unfold inR; omega) ?_
  refine aw_sld (n := iN + 2) (by omega) (by omega) d_La_law_167 ?_
  refine aw_vx (bc' := 0) (bs' := 0) (as := [_, _]) rfl cv_La_76 (by omega) rfl rfl d_La_law_168 (Nat.le_of_ble_eq_true rfl) (d' := d - 1) (by omega) (Nat.zero_le _) (Nat.zero_le _) hB ?_ (fun E n1 μ1 hv => by obtain ⟨-, b, hz, -⟩ := hb _ _ _ hv; cases hz)
  intro v2 n2 μ2 hv2
  obtain ⟨rfl, b, hz2, hf, ho, hK⟩ := hb _ _ _ hv2
  cases hz2
  refine aw_istore (lst' := [_, _, _, _, _, _, _]) d_La_law_171 (Nat.le_of_ble_eq_true rfl) rfl ?_
  refine aw_aload_n d_La_law_173 rfl rfl ?_
  refine aw_ve (as := []) rfl cv_La_77 (by omega) rfl rfl d_La_law_174 (Nat.le_of_ble_eq_true rfl) (d' := d - 1) (by omega) (m_Mo_thrown (by omega)) ?_
  refine aw_tv (v' := kq) hf ?_
  refine aw_iload d_La_law_177 rfl ?_
  refine aw_icmp_eq (tgt := 184) d_La_law_179 rfl (fun h179 => ?_) (fun h179 => absurd rfl h179)
  refine aw_iload d_La_law_184 rfl ?_
  refine aw_if_ne (tgt := 201) d_La_law_186 rfl (fun h186 => ?_) (fun h186 => ?_)
  · refine aw_goto (tgt := 1345) d_La_law_201 rfl ?_
    exact kk _ _ _ hK
  · refine aw_aload_n d_La_law_189 rfl rfl ?_
    refine aw_iconst d_La_law_190 (in_c rfl) ?_
    refine aw_lald (n := 0) (by omega) rfl rfl (by omega) d_La_law_191 ?_
    refine aw_iload d_La_law_192 rfl ?_
    refine aw_i2l d_La_law_194 ?_
    refine aw_lcmp d_La_law_195 (fun z195 hz195 => ?_)
    refine aw_if_eq (tgt := 201) d_La_law_196 rfl (fun h196 => ?_) (fun h196 => absurd (hz195.mpr (ho h186)) h196)
    refine aw_goto (tgt := 1345) d_La_law_201 rfl ?_
    exact kk _ _ _ hK
set_option maxRecDepth 100000 in
theorem k_La_1 {d bc bs : Nat} (hd : 2 ≤ d) {iN : Nat} (hi : iN + 5 ≤ gn G) (h2 : gn G ≤ 2560) {o5 o6 : Option aV} {Q : aQ → Nat → aM → Prop} {K : aM → Prop} (hbc : 3 ≤ bc) (hbs : 18 ≤ bs) {QA : aQ → Nat → aM → Prop} (hM : AM G false (d - 1) 3 18 y_La_condition [aP 0, aI (gx G (iN + 1)), aI (gx G (iN + 2)), aI (gx G (iN + 3)), aI (gx G (iN + 4)), aP 93] 94 μ QA) (hq : ∀ r n m, QA r n m → n = 94 ∧ ∃ kq : Int, r = .inl (some (aI kq)) ∧ ∃ QB, AM G false (d - 1) 0 0 y_Mo_condition [aP 67, aI (gx G (iN + 1)), aI (gx G (iN + 2)), aI (gx G (iN + 3)), aI (gx G (iN + 4))] 94 m QB ∧ ∀ r' n' m', QB r' n' m' → n' = 94 ∧ ∃ b : Int, r' = .inl (some (aI b)) ∧ mI m' 67 0 = kq ∧ (kq = 0 → mL m' 93 0 = BitVec.ofInt 64 b) ∧ K m') (kk : ∀ o5 o6 m', K m' → AW G false y_La_law d (bc - 3) (bs - 18) Q 1345 [some (aP 1000), some (aP 0), some (aP 67), some (aP 93), some (aI (iN : Int)), o5, o6] [] 94 m') : AW G false y_La_law d bc bs Q 204 [some (aP 1000), some (aP 0), some (aP 67), some (aP 93), some (aI (iN : Int)), o5, o6] [] 94 μ := by
  refine aw_aload_n d_La_law_204 rfl rfl ?_
  refine aw_aload_n d_La_law_205 rfl rfl ?_
  refine aw_iload d_La_law_206 rfl ?_
  refine aw_iconst d_La_law_208 (in_c rfl) ?_
  refine aw_iadd d_La_law_209 (by unfold inR; omega) ?_
  refine aw_sld (n := iN + 1) (by omega) (by omega) d_La_law_210 ?_
  refine aw_aload_n d_La_law_211 rfl rfl ?_
  refine aw_iload d_La_law_212 rfl ?_
  refine aw_iconst d_La_law_214 (in_c rfl) ?_
  refine aw_iadd d_La_law_215 (by unfold inR; omega) ?_
  refine aw_sld (n := iN + 2) (by omega) (by omega) d_La_law_216 ?_
  refine aw_pc (pc' := 217) rfl ?_
  refine aw_aload_n d_La_law_217 rfl rfl ?_
  refine aw_iload d_La_law_218 rfl ?_
  refine aw_iconst d_La_law_220 (in_c rfl) ?_
  refine aw_iadd d_La_law_221 (by unfold inR; omega) ?_
  refine aw_sld (n := iN + 3) (by omega) (by omega) d_La_law_222 ?_
  refine aw_aload_n d_La_law_223 rfl rfl ?_
  refine aw_iload d_La_law_224 rfl ?_
  refine aw_iconst d_La_law_226 (in_c rfl) ?_
  refine aw_iadd d_La_law_227 (by unfold inR; omega) ?_
  refine aw_sld (n := iN + 4) (by omega) (by omega) d_La_law_228 ?_
  refine aw_aload_n d_La_law_229 rfl rfl ?_
  refine aw_sx (as := [_, _, _, _, _, _]) rfl cs_La_81 d_La_law_230 (Nat.le_of_ble_eq_true rfl) (d' := d - 1) (by omega) hbc hbs hM ?_ (fun E n1 μ1 hv => by obtain ⟨-, kq, hz, -⟩ := hq _ _ _ hv; cases hz)
  intro v n1 μ1 hv
  obtain ⟨rfl, kq, hz, QB, hB, hb⟩ := hq _ _ _ hv
  cases hz
  refine aw_pc (pc' := 233) rfl ?_
  refine aw_istore (lst' := [_, _, _, _, _, _, _]) d_La_law_233 (Nat.le_of_ble_eq_true rfl) rfl ?_
  refine aw_aload_n d_La_law_235 rfl rfl ?_
  refine aw_aload_n d_La_law_236 rfl rfl ?_
  refine aw_iload d_La_law_237 rfl ?_
  refine aw_iconst d_La_law_239 (in_c rfl) ?_
  refine aw_iadd d_La_law_240 (by unfold inR; omega) ?_
  refine aw_sld (n := iN + 1) (by omega) (by omega) d_La_law_241 ?_
  refine aw_aload_n d_La_law_242 rfl rfl ?_
  refine aw_iload d_La_law_243 rfl ?_
  refine aw_iconst d_La_law_245 (in_c rfl) ?_
  refine aw_iadd d_La_law_246 (by unfold inR; omega) ?_
  refine aw_sld (n := iN + 2) (by omega) (by omega) d_La_law_247 ?_
  refine aw_pc (pc' := 248) rfl ?_
  refine aw_aload_n d_La_law_248 rfl rfl ?_
  refine aw_iload d_La_law_249 rfl ?_
  refine aw_iconst d_La_law_251 (in_c rfl) ?_
  refine aw_iadd d_La_law_252 (by unfold inR; omega) ?_
  refine aw_sld (n := iN + 3) (by omega) (by omega) d_La_law_253 ?_
  refine aw_aload_n d_La_law_254 rfl rfl ?_
  refine aw_iload d_La_law_255 rfl ?_
  refine aw_iconst d_La_law_257 (in_c rfl) ?_
  refine aw_iadd d_La_law_258 (by unfold inR; omega) ?_
  refine aw_sld (n := iN + 4) (by omega) (by omega) d_La_law_259 ?_
  refine aw_vx (bc' := 0) (bs' := 0) (as := [_, _, _, _]) rfl cv_La_84 (by omega) rfl rfl d_La_law_260 (Nat.le_of_ble_eq_true rfl) (d' := d - 1) (by omega) (Nat.zero_le _) (Nat.zero_le _) hB ?_ (fun E n1 μ1 hv => by obtain ⟨-, b, hz, -⟩ := hb _ _ _ hv; cases hz)
  intro v2 n2 μ2 hv2
  obtain ⟨rfl, b, hz2, hf, ho, hK⟩ := hb _ _ _ hv2
  cases hz2
  refine aw_istore (lst' := [_, _, _, _, _, _, _]) d_La_law_263 (Nat.le_of_ble_eq_true rfl) rfl ?_
  refine aw_pc (pc' := 265) rfl ?_
  refine aw_aload_n d_La_law_265 rfl rfl ?_
  refine aw_ve (as := []) rfl cv_La_77 (by omega) rfl rfl d_La_law_266 (Nat.le_of_ble_eq_true rfl) (d' := d - 1) (by omega) (m_Mo_thrown (by omega)) ?_
  refine aw_tv (v' := kq) hf ?_
  refine aw_iload d_La_law_269 rfl ?_
  refine aw_icmp_eq (tgt := 276) d_La_law_271 rfl (fun h271 => ?_) (fun h271 => absurd rfl h271)
  refine aw_iload d_La_law_276 rfl ?_
  refine aw_if_ne (tgt := 293) d_La_law_278 rfl (fun h278 => ?_) (fun h278 => ?_)
  · refine aw_goto (tgt := 1345) d_La_law_293 rfl ?_
    exact kk _ _ _ hK
  · refine aw_aload_n d_La_law_281 rfl rfl ?_
    refine aw_iconst d_La_law_282 (in_c rfl) ?_
    refine aw_lald (n := 0) (by omega) rfl rfl (by omega) d_La_law_283 ?_
    refine aw_iload d_La_law_284 rfl ?_
    refine aw_i2l d_La_law_286 ?_
    refine aw_lcmp d_La_law_287 (fun z287 hz287 => ?_)
    refine aw_if_eq (tgt := 293) d_La_law_288 rfl (fun h288 => ?_) (fun h288 => absurd (hz287.mpr (ho h278)) h288)
    refine aw_goto (tgt := 1345) d_La_law_293 rfl ?_
    exact kk _ _ _ hK
set_option maxRecDepth 100000 in
theorem k_La_2 {d bc bs : Nat} (hd : 2 ≤ d) {iN : Nat} (hi : iN + 5 ≤ gn G) (h2 : gn G ≤ 2560) {o5 o6 : Option aV} {Q : aQ → Nat → aM → Prop} {K : aM → Prop} {QA : aQ → Nat → aM → Prop} (hM : AM G false (d - 1) 0 0 y_MC_type [aP 0, aI (gx G (iN + 1) % 65536)] 94 μ QA) (hq : ∀ r n m, QA r n m → n = 94 ∧ ∃ kq : Int, r = .inl (some (aI kq)) ∧ ∃ QB, AM G false (d - 1) 0 0 y_Mo_type [aP 67, aI (gx G (iN + 1) % 65536)] 94 m QB ∧ ∀ r' n' m', QB r' n' m' → n' = 94 ∧ r' = .inl (some (aI kq)) ∧ K m') (kk : ∀ o5 o6 m', K m' → AW G false y_La_law d bc bs Q 1345 [some (aP 1000), some (aP 0), some (aP 67), some (aP 93), some (aI (iN : Int)), o5, o6] [] 94 m') : AW G false y_La_law d bc bs Q 296 [some (aP 1000), some (aP 0), some (aP 67), some (aP 93), some (aI (iN : Int)), o5, o6] [] 94 μ := by
  refine aw_aload_n d_La_law_296 rfl rfl ?_
  refine aw_aload_n d_La_law_297 rfl rfl ?_
  refine aw_iload d_La_law_298 rfl ?_
  refine aw_iconst d_La_law_300 (in_c rfl) ?_
  refine aw_iadd d_La_law_301 (by unfold inR; omega) ?_
  refine aw_sld (n := iN + 1) (by omega) (by omega) d_La_law_302 ?_
  refine aw_i2c d_La_law_303 ?_
  refine aw_vx (bc' := 0) (bs' := 0) (as := [_]) rfl cv_La_85 (by omega) rfl rfl d_La_law_304 (Nat.le_of_ble_eq_true rfl) (d' := d - 1) (by omega) (Nat.zero_le _) (Nat.zero_le _) hM ?_ (fun E n1 μ1 hv => by obtain ⟨-, kq, hz, -⟩ := hq _ _ _ hv; cases hz)
  intro v n1 μ1 hv
  obtain ⟨rfl, kq, hz, QB, hB, hb⟩ := hq _ _ _ hv
  cases hz
  refine aw_aload_n d_La_law_307 rfl rfl ?_
  refine aw_aload_n d_La_law_308 rfl rfl ?_
  refine aw_iload d_La_law_309 rfl ?_
  refine aw_pc (pc' := 311) rfl ?_
  refine aw_iconst d_La_law_311 (in_c rfl) ?_
  refine aw_iadd d_La_law_312 (by unfold inR; omega) ?_
  refine aw_sld (n := iN + 1) (by omega) (by omega) d_La_law_313 ?_
  refine aw_i2c d_La_law_314 ?_
  refine aw_vx (bc' := 0) (bs' := 0) (as := [_]) rfl cv_La_89 (by omega) rfl rfl d_La_law_315 (Nat.le_of_ble_eq_true rfl) (d' := d - 1) (by omega) (Nat.zero_le _) (Nat.zero_le _) hB ?_ (fun E n1 μ1 hv => by obtain ⟨-, hz, -⟩ := hb _ _ _ hv; cases hz)
  intro v2 n2 μ2 hv2
  obtain ⟨rfl, hz2, hK⟩ := hb _ _ _ hv2
  cases hz2
  refine aw_icmp_eq (tgt := 1345) d_La_law_318 rfl (fun h318 => ?_) (fun h318 => absurd rfl h318)
  exact kk _ _ _ hK
set_option maxRecDepth 100000 in
theorem k_La_3 {d bc bs : Nat} (hd : 2 ≤ d) {iN : Nat} (hi : iN + 5 ≤ gn G) (h2 : gn G ≤ 2560) {o5 o6 : Option aV} {Q : aQ → Nat → aM → Prop} {K : aM → Prop} {QA : aQ → Nat → aM → Prop} (hM : AM G false (d - 1) 0 0 y_MC_wipe [aP 0] 94 μ QA) (hq : ∀ r n m, QA r n m → n = 94 ∧ ∃ kq : Int, r = .inl (some (aI kq)) ∧ ∃ QB, AM G false (d - 1) 0 0 y_Mo_wipe [aP 67] 94 m QB ∧ ∀ r' n' m', QB r' n' m' → n' = 94 ∧ r' = .inl (some (aI kq)) ∧ K m') (kk : ∀ o5 o6 m', K m' → AW G false y_La_law d bc bs Q 1345 [some (aP 1000), some (aP 0), some (aP 67), some (aP 93), some (aI (iN : Int)), o5, o6] [] 94 m') : AW G false y_La_law d bc bs Q 323 [some (aP 1000), some (aP 0), some (aP 67), some (aP 93), some (aI (iN : Int)), o5, o6] [] 94 μ := by
  refine aw_aload_n d_La_law_323 rfl rfl ?_
  refine aw_vx (bc' := 0) (bs' := 0) (as := []) rfl cv_La_90 (by omega) rfl rfl d_La_law_324 (Nat.le_of_ble_eq_true rfl) (d' := d - 1) (by omega) (Nat.zero_le _) (Nat.zero_le _) hM ?_ (fun E n1 μ1 hv => by obtain ⟨-, kq, hz, -⟩ := hq _ _ _ hv; cases hz)
  intro v n1 μ1 hv
  obtain ⟨rfl, kq, hz, QB, hB, hb⟩ := hq _ _ _ hv
  cases hz
  refine aw_aload_n d_La_law_327 rfl rfl ?_
  refine aw_vx (bc' := 0) (bs' := 0) (as := []) rfl cv_La_93 (by omega) rfl rfl d_La_law_328 (Nat.le_of_ble_eq_true rfl) (d' := d - 1) (by omega) (Nat.zero_le _) (Nat.zero_le _) hB ?_ (fun E n1 μ1 hv => by obtain ⟨-, hz, -⟩ := hb _ _ _ hv; cases hz)
  intro v2 n2 μ2 hv2
  obtain ⟨rfl, hz2, hK⟩ := hb _ _ _ hv2
  cases hz2
  refine aw_icmp_eq (tgt := 1345) d_La_law_331 rfl (fun h331 => ?_) (fun h331 => absurd rfl h331)
  exact kk _ _ _ hK
set_option maxRecDepth 100000 in
theorem k_La_4 {d bc bs : Nat} (hd : 2 ≤ d) {iN : Nat} (hi : iN + 5 ≤ gn G) (h2 : gn G ≤ 2560) {o5 o6 : Option aV} {Q : aQ → Nat → aM → Prop} {K : aM → Prop} {p1 : Int} (hp : p1 = if gx G (iN + 1) = 0 then 0 else 1) (hbc : 3 ≤ bc) (hbs : 18 ≤ bs) {QA : aQ → Nat → aM → Prop} (hM : AM G false (d - 1) 3 18 y_La_decision [aP 0, aI p1, aP 93] 94 μ QA) (hq : ∀ r n m, QA r n m → n = 94 ∧ ∃ kq : Int, r = .inl (some (aI kq)) ∧ ∃ QB, AM G false (d - 1) 0 0 y_Mo_decision [aP 67, aI p1] 94 m QB ∧ ∀ r' n' m', QB r' n' m' → n' = 94 ∧ ∃ b : Int, r' = .inl (some (aI b)) ∧ mI m' 67 0 = kq ∧ (kq = 0 → mL m' 93 0 = BitVec.ofInt 64 b) ∧ K m') (kk : ∀ o5 o6 m', K m' → AW G false y_La_law d (bc - 3) (bs - 18) Q 1345 [some (aP 1000), some (aP 0), some (aP 67), some (aP 93), some (aI (iN : Int)), o5, o6] [] 94 m') : AW G false y_La_law d bc bs Q 336 [some (aP 1000), some (aP 0), some (aP 67), some (aP 93), some (aI (iN : Int)), o5, o6] [] 94 μ := by
  refine aw_aload_n d_La_law_336 rfl rfl ?_
  refine aw_aload_n d_La_law_337 rfl rfl ?_
  refine aw_iload d_La_law_338 rfl ?_
  refine aw_iconst d_La_law_340 (in_c rfl) ?_
  refine aw_iadd d_La_law_341 (by unfold inR; omega) ?_
  refine aw_sld (n := iN + 1) (by omega) (by omega) d_La_law_342 ?_
  refine aw_if_eq (tgt := 350) d_La_law_343 rfl (fun h343 => ?_) (fun h343 => ?_)
  · refine aw_iconst d_La_law_350 (in_c rfl) ?_
    refine aw_tv (v' := p1) (by rw [hp, if_pos h343]) ?_
    refine aw_aload_n d_La_law_351 rfl rfl ?_
    refine aw_sx (as := [_, _, _]) rfl cs_La_94 d_La_law_352 (Nat.le_of_ble_eq_true rfl) (d' := d - 1) (by omega) hbc hbs hM ?_ (fun E n1 μ1 hv => by obtain ⟨-, kq, hz, -⟩ := hq _ _ _ hv; cases hz)
    intro v n1 μ1 hv
    obtain ⟨rfl, kq, hz, QB, hB, hb⟩ := hq _ _ _ hv
    cases hz
    refine aw_istore (lst' := [_, _, _, _, _, _, _]) d_La_law_355 (Nat.le_of_ble_eq_true rfl) rfl ?_
    refine aw_aload_n d_La_law_357 rfl rfl ?_
    refine aw_aload_n d_La_law_358 rfl rfl ?_
    refine aw_iload d_La_law_359 rfl ?_
    refine aw_iconst d_La_law_361 (in_c rfl) ?_
    refine aw_iadd d_La_law_362 (by unfold inR; omega) ?_
    refine aw_sld (n := iN + 1) (by omega) (by omega) d_La_law_363 ?_
    refine aw_if_eq (tgt := 371) d_La_law_364 rfl (fun h364 => ?_) (fun h364 => ?_)
    · refine aw_iconst d_La_law_371 (in_c rfl) ?_
      refine aw_tv (v' := p1) (by rw [hp, if_pos h364]) ?_
      refine aw_vx (bc' := 0) (bs' := 0) (as := [_]) rfl cv_La_97 (by omega) rfl rfl d_La_law_372 (Nat.le_of_ble_eq_true rfl) (d' := d - 1) (by omega) (Nat.zero_le _) (Nat.zero_le _) hB ?_ (fun E n1 μ1 hv => by obtain ⟨-, b, hz, -⟩ := hb _ _ _ hv; cases hz)
      intro v2 n2 μ2 hv2
      obtain ⟨rfl, b, hz2, hf, ho, hK⟩ := hb _ _ _ hv2
      cases hz2
      refine aw_istore (lst' := [_, _, _, _, _, _, _]) d_La_law_375 (Nat.le_of_ble_eq_true rfl) rfl ?_
      refine aw_aload_n d_La_law_377 rfl rfl ?_
      refine aw_ve (as := []) rfl cv_La_77 (by omega) rfl rfl d_La_law_378 (Nat.le_of_ble_eq_true rfl) (d' := d - 1) (by omega) (m_Mo_thrown (by omega)) ?_
      refine aw_tv (v' := kq) hf ?_
      refine aw_iload d_La_law_381 rfl ?_
      refine aw_icmp_eq (tgt := 388) d_La_law_383 rfl (fun h383 => ?_) (fun h383 => absurd rfl h383)
      refine aw_iload d_La_law_388 rfl ?_
      refine aw_if_ne (tgt := 405) d_La_law_390 rfl (fun h390 => ?_) (fun h390 => ?_)
      · refine aw_goto (tgt := 1345) d_La_law_405 rfl ?_
        exact kk _ _ _ hK
      · refine aw_aload_n d_La_law_393 rfl rfl ?_
        refine aw_iconst d_La_law_394 (in_c rfl) ?_
        refine aw_lald (n := 0) (by omega) rfl rfl (by omega) d_La_law_395 ?_
        refine aw_iload d_La_law_396 rfl ?_
        refine aw_i2l d_La_law_398 ?_
        refine aw_lcmp d_La_law_399 (fun z399 hz399 => ?_)
        refine aw_if_eq (tgt := 405) d_La_law_400 rfl (fun h400 => ?_) (fun h400 => absurd (hz399.mpr (ho h390)) h400)
        refine aw_goto (tgt := 1345) d_La_law_405 rfl ?_
        exact kk _ _ _ hK
    · refine aw_iconst d_La_law_367 (in_c rfl) ?_
      refine aw_tv (v' := p1) (by rw [hp, if_neg h364]) ?_
      refine aw_goto (tgt := 372) d_La_law_368 rfl ?_
      refine aw_vx (bc' := 0) (bs' := 0) (as := [_]) rfl cv_La_97 (by omega) rfl rfl d_La_law_372 (Nat.le_of_ble_eq_true rfl) (d' := d - 1) (by omega) (Nat.zero_le _) (Nat.zero_le _) hB ?_ (fun E n1 μ1 hv => by obtain ⟨-, b, hz, -⟩ := hb _ _ _ hv; cases hz)
      intro v2 n2 μ2 hv2
      obtain ⟨rfl, b, hz2, hf, ho, hK⟩ := hb _ _ _ hv2
      cases hz2
      refine aw_istore (lst' := [_, _, _, _, _, _, _]) d_La_law_375 (Nat.le_of_ble_eq_true rfl) rfl ?_
      refine aw_aload_n d_La_law_377 rfl rfl ?_
      refine aw_ve (as := []) rfl cv_La_77 (by omega) rfl rfl d_La_law_378 (Nat.le_of_ble_eq_true rfl) (d' := d - 1) (by omega) (m_Mo_thrown (by omega)) ?_
      refine aw_tv (v' := kq) hf ?_
      refine aw_iload d_La_law_381 rfl ?_
      refine aw_icmp_eq (tgt := 388) d_La_law_383 rfl (fun h383 => ?_) (fun h383 => absurd rfl h383)
      refine aw_iload d_La_law_388 rfl ?_
      refine aw_if_ne (tgt := 405) d_La_law_390 rfl (fun h390 => ?_) (fun h390 => ?_)
      · refine aw_goto (tgt := 1345) d_La_law_405 rfl ?_
        exact kk _ _ _ hK
      · refine aw_aload_n d_La_law_393 rfl rfl ?_
        refine aw_iconst d_La_law_394 (in_c rfl) ?_
        refine aw_lald (n := 0) (by omega) rfl rfl (by omega) d_La_law_395 ?_
        refine aw_iload d_La_law_396 rfl ?_
        refine aw_i2l d_La_law_398 ?_
        refine aw_lcmp d_La_law_399 (fun z399 hz399 => ?_)
        refine aw_if_eq (tgt := 405) d_La_law_400 rfl (fun h400 => ?_) (fun h400 => absurd (hz399.mpr (ho h390)) h400)
        refine aw_goto (tgt := 1345) d_La_law_405 rfl ?_
        exact kk _ _ _ hK
  · refine aw_iconst d_La_law_346 (in_c rfl) ?_
    refine aw_tv (v' := p1) (by rw [hp, if_neg h343]) ?_
    refine aw_goto (tgt := 351) d_La_law_347 rfl ?_
    refine aw_aload_n d_La_law_351 rfl rfl ?_
    refine aw_sx (as := [_, _, _]) rfl cs_La_94 d_La_law_352 (Nat.le_of_ble_eq_true rfl) (d' := d - 1) (by omega) hbc hbs hM ?_ (fun E n1 μ1 hv => by obtain ⟨-, kq, hz, -⟩ := hq _ _ _ hv; cases hz)
    intro v n1 μ1 hv
    obtain ⟨rfl, kq, hz, QB, hB, hb⟩ := hq _ _ _ hv
    cases hz
    refine aw_istore (lst' := [_, _, _, _, _, _, _]) d_La_law_355 (Nat.le_of_ble_eq_true rfl) rfl ?_
    refine aw_aload_n d_La_law_357 rfl rfl ?_
    refine aw_aload_n d_La_law_358 rfl rfl ?_
    refine aw_iload d_La_law_359 rfl ?_
    refine aw_iconst d_La_law_361 (in_c rfl) ?_
    refine aw_iadd d_La_law_362 (by unfold inR; omega) ?_
    refine aw_sld (n := iN + 1) (by omega) (by omega) d_La_law_363 ?_
    refine aw_pc (pc' := 364) rfl ?_
    refine aw_if_eq (tgt := 371) d_La_law_364 rfl (fun h364 => ?_) (fun h364 => ?_)
    · refine aw_iconst d_La_law_371 (in_c rfl) ?_
      refine aw_tv (v' := p1) (by rw [hp, if_pos h364]) ?_
      refine aw_vx (bc' := 0) (bs' := 0) (as := [_]) rfl cv_La_97 (by omega) rfl rfl d_La_law_372 (Nat.le_of_ble_eq_true rfl) (d' := d - 1) (by omega) (Nat.zero_le _) (Nat.zero_le _) hB ?_ (fun E n1 μ1 hv => by obtain ⟨-, b, hz, -⟩ := hb _ _ _ hv; cases hz)
      intro v2 n2 μ2 hv2
      obtain ⟨rfl, b, hz2, hf, ho, hK⟩ := hb _ _ _ hv2
      cases hz2
      refine aw_istore (lst' := [_, _, _, _, _, _, _]) d_La_law_375 (Nat.le_of_ble_eq_true rfl) rfl ?_
      refine aw_aload_n d_La_law_377 rfl rfl ?_
      refine aw_ve (as := []) rfl cv_La_77 (by omega) rfl rfl d_La_law_378 (Nat.le_of_ble_eq_true rfl) (d' := d - 1) (by omega) (m_Mo_thrown (by omega)) ?_
      refine aw_tv (v' := kq) hf ?_
      refine aw_iload d_La_law_381 rfl ?_
      refine aw_icmp_eq (tgt := 388) d_La_law_383 rfl (fun h383 => ?_) (fun h383 => absurd rfl h383)
      refine aw_iload d_La_law_388 rfl ?_
      refine aw_if_ne (tgt := 405) d_La_law_390 rfl (fun h390 => ?_) (fun h390 => ?_)
      · refine aw_goto (tgt := 1345) d_La_law_405 rfl ?_
        exact kk _ _ _ hK
      · refine aw_aload_n d_La_law_393 rfl rfl ?_
        refine aw_iconst d_La_law_394 (in_c rfl) ?_
        refine aw_lald (n := 0) (by omega) rfl rfl (by omega) d_La_law_395 ?_
        refine aw_iload d_La_law_396 rfl ?_
        refine aw_i2l d_La_law_398 ?_
        refine aw_lcmp d_La_law_399 (fun z399 hz399 => ?_)
        refine aw_if_eq (tgt := 405) d_La_law_400 rfl (fun h400 => ?_) (fun h400 => absurd (hz399.mpr (ho h390)) h400)
        refine aw_goto (tgt := 1345) d_La_law_405 rfl ?_
        exact kk _ _ _ hK
    · refine aw_iconst d_La_law_367 (in_c rfl) ?_
      refine aw_tv (v' := p1) (by rw [hp, if_neg h364]) ?_
      refine aw_goto (tgt := 372) d_La_law_368 rfl ?_
      refine aw_vx (bc' := 0) (bs' := 0) (as := [_]) rfl cv_La_97 (by omega) rfl rfl d_La_law_372 (Nat.le_of_ble_eq_true rfl) (d' := d - 1) (by omega) (Nat.zero_le _) (Nat.zero_le _) hB ?_ (fun E n1 μ1 hv => by obtain ⟨-, b, hz, -⟩ := hb _ _ _ hv; cases hz)
      intro v2 n2 μ2 hv2
      obtain ⟨rfl, b, hz2, hf, ho, hK⟩ := hb _ _ _ hv2
      cases hz2
      refine aw_istore (lst' := [_, _, _, _, _, _, _]) d_La_law_375 (Nat.le_of_ble_eq_true rfl) rfl ?_
      refine aw_aload_n d_La_law_377 rfl rfl ?_
      refine aw_ve (as := []) rfl cv_La_77 (by omega) rfl rfl d_La_law_378 (Nat.le_of_ble_eq_true rfl) (d' := d - 1) (by omega) (m_Mo_thrown (by omega)) ?_
      refine aw_tv (v' := kq) hf ?_
      refine aw_iload d_La_law_381 rfl ?_
      refine aw_icmp_eq (tgt := 388) d_La_law_383 rfl (fun h383 => ?_) (fun h383 => absurd rfl h383)
      refine aw_iload d_La_law_388 rfl ?_
      refine aw_if_ne (tgt := 405) d_La_law_390 rfl (fun h390 => ?_) (fun h390 => ?_)
      · refine aw_goto (tgt := 1345) d_La_law_405 rfl ?_
        exact kk _ _ _ hK
      · refine aw_aload_n d_La_law_393 rfl rfl ?_
        refine aw_iconst d_La_law_394 (in_c rfl) ?_
        refine aw_lald (n := 0) (by omega) rfl rfl (by omega) d_La_law_395 ?_
        refine aw_iload d_La_law_396 rfl ?_
        refine aw_i2l d_La_law_398 ?_
        refine aw_lcmp d_La_law_399 (fun z399 hz399 => ?_)
        refine aw_if_eq (tgt := 405) d_La_law_400 rfl (fun h400 => ?_) (fun h400 => absurd (hz399.mpr (ho h390)) h400)
        refine aw_goto (tgt := 1345) d_La_law_405 rfl ?_
        exact kk _ _ _ hK
set_option maxRecDepth 100000 in
theorem k_La_5 {d bc bs : Nat} (hd : 2 ≤ d) {iN : Nat} (hi : iN + 5 ≤ gn G) (h2 : gn G ≤ 2560) {o5 o6 : Option aV} {Q : aQ → Nat → aM → Prop} {K : aM → Prop} (hbc : 3 ≤ bc) (hbs : 18 ≤ bs) {QA : aQ → Nat → aM → Prop} (hM : AM G false (d - 1) 3 18 y_La_conditions [aP 0, aI (gx G (iN + 1)), aP 93] 94 μ QA) (hq : ∀ r n m, QA r n m → n = 94 ∧ ∃ kq : Int, r = .inl (some (aI kq)) ∧ ∃ QB, AM G false (d - 1) 0 0 y_Mo_conditions [aP 67, aI (gx G (iN + 1))] 94 m QB ∧ ∀ r' n' m', QB r' n' m' → n' = 94 ∧ ∃ b : Int, r' = .inl (some (aI b)) ∧ mI m' 67 0 = kq ∧ (kq = 0 → mL m' 93 0 = BitVec.ofInt 64 b) ∧ K m') (kk : ∀ o5 o6 m', K m' → AW G false y_La_law d (bc - 3) (bs - 18) Q 1345 [some (aP 1000), some (aP 0), some (aP 67), some (aP 93), some (aI (iN : Int)), o5, o6] [] 94 m') : AW G false y_La_law d bc bs Q 408 [some (aP 1000), some (aP 0), some (aP 67), some (aP 93), some (aI (iN : Int)), o5, o6] [] 94 μ := by
  refine aw_aload_n d_La_law_408 rfl rfl ?_
  refine aw_aload_n d_La_law_409 rfl rfl ?_
  refine aw_iload d_La_law_410 rfl ?_
  refine aw_iconst d_La_law_412 (in_c rfl) ?_
  refine aw_iadd d_La_law_413 (by unfold inR; omega) ?_
  refine aw_sld (n := iN + 1) (by omega) (by omega) d_La_law_414 ?_
  refine aw_aload_n d_La_law_415 rfl rfl ?_
  refine aw_sx (as := [_, _, _]) rfl cs_La_98 d_La_law_416 (Nat.le_of_ble_eq_true rfl) (d' := d - 1) (by omega) hbc hbs hM ?_ (fun E n1 μ1 hv => by obtain ⟨-, kq, hz, -⟩ := hq _ _ _ hv; cases hz)
  intro v n1 μ1 hv
  obtain ⟨rfl, kq, hz, QB, hB, hb⟩ := hq _ _ _ hv
  cases hz
  refine aw_istore (lst' := [_, _, _, _, _, _, _]) d_La_law_419 (Nat.le_of_ble_eq_true rfl) rfl ?_
  refine aw_aload_n d_La_law_421 rfl rfl ?_
  refine aw_aload_n d_La_law_422 rfl rfl ?_
  refine aw_pc (pc' := 423) rfl ?_
  refine aw_iload d_La_law_423 rfl ?_
  refine aw_iconst d_La_law_425 (in_c rfl) ?_
  refine aw_iadd d_La_law_426 (by unfold inR; omega) ?_
  refine aw_sld (n := iN + 1) (by omega) (by omega) d_La_law_427 ?_
  refine aw_vx (bc' := 0) (bs' := 0) (as := [_]) rfl cv_La_101 (by omega) rfl rfl d_La_law_428 (Nat.le_of_ble_eq_true rfl) (d' := d - 1) (by omega) (Nat.zero_le _) (Nat.zero_le _) hB ?_ (fun E n1 μ1 hv => by obtain ⟨-, b, hz, -⟩ := hb _ _ _ hv; cases hz)
  intro v2 n2 μ2 hv2
  obtain ⟨rfl, b, hz2, hf, ho, hK⟩ := hb _ _ _ hv2
  cases hz2
  refine aw_istore (lst' := [_, _, _, _, _, _, _]) d_La_law_431 (Nat.le_of_ble_eq_true rfl) rfl ?_
  refine aw_aload_n d_La_law_433 rfl rfl ?_
  refine aw_ve (as := []) rfl cv_La_77 (by omega) rfl rfl d_La_law_434 (Nat.le_of_ble_eq_true rfl) (d' := d - 1) (by omega) (m_Mo_thrown (by omega)) ?_
  refine aw_tv (v' := kq) hf ?_
  refine aw_iload d_La_law_437 rfl ?_
  refine aw_icmp_eq (tgt := 444) d_La_law_439 rfl (fun h439 => ?_) (fun h439 => absurd rfl h439)
  refine aw_iload d_La_law_444 rfl ?_
  refine aw_if_ne (tgt := 461) d_La_law_446 rfl (fun h446 => ?_) (fun h446 => ?_)
  · refine aw_goto (tgt := 1345) d_La_law_461 rfl ?_
    exact kk _ _ _ hK
  · refine aw_aload_n d_La_law_449 rfl rfl ?_
    refine aw_iconst d_La_law_450 (in_c rfl) ?_
    refine aw_lald (n := 0) (by omega) rfl rfl (by omega) d_La_law_451 ?_
    refine aw_iload d_La_law_452 rfl ?_
    refine aw_i2l d_La_law_454 ?_
    refine aw_lcmp d_La_law_455 (fun z455 hz455 => ?_)
    refine aw_if_eq (tgt := 461) d_La_law_456 rfl (fun h456 => ?_) (fun h456 => absurd (hz455.mpr (ho h446)) h456)
    refine aw_goto (tgt := 1345) d_La_law_461 rfl ?_
    exact kk _ _ _ hK
set_option maxRecDepth 100000 in
theorem k_La_6 {d bc bs : Nat} (hd : 2 ≤ d) {iN : Nat} (hi : iN + 5 ≤ gn G) (h2 : gn G ≤ 2560) {o5 o6 : Option aV} {Q : aQ → Nat → aM → Prop} {K : aM → Prop} (hbc : 3 ≤ bc) (hbs : 18 ≤ bs) {QA : aQ → Nat → aM → Prop} (hM : AM G false (d - 1) 3 18 y_La_show [aP 0, aI (gx G (iN + 1)), aP 93] 94 μ QA) (hq : ∀ r n m, QA r n m → n = 94 ∧ ∃ kq : Int, r = .inl (some (aI kq)) ∧ ∃ QB, AM G false (d - 1) 0 0 y_Mo_show [aP 67, aI (gx G (iN + 1))] 94 m QB ∧ ∀ r' n' m', QB r' n' m' → n' = 94 ∧ ∃ b : Int, r' = .inl (some (aI b)) ∧ mI m' 67 0 = kq ∧ (kq = 0 → mL m' 93 0 = BitVec.ofInt 64 b) ∧ K m') (kk : ∀ o5 o6 m', K m' → AW G false y_La_law d (bc - 3) (bs - 18) Q 1345 [some (aP 1000), some (aP 0), some (aP 67), some (aP 93), some (aI (iN : Int)), o5, o6] [] 94 m') : AW G false y_La_law d bc bs Q 464 [some (aP 1000), some (aP 0), some (aP 67), some (aP 93), some (aI (iN : Int)), o5, o6] [] 94 μ := by
  refine aw_aload_n d_La_law_464 rfl rfl ?_
  refine aw_aload_n d_La_law_465 rfl rfl ?_
  refine aw_iload d_La_law_466 rfl ?_
  refine aw_iconst d_La_law_468 (in_c rfl) ?_
  refine aw_iadd d_La_law_469 (by unfold inR; omega) ?_
  refine aw_sld (n := iN + 1) (by omega) (by omega) d_La_law_470 ?_
  refine aw_aload_n d_La_law_471 rfl rfl ?_
  refine aw_sx (as := [_, _, _]) rfl cs_La_102 d_La_law_472 (Nat.le_of_ble_eq_true rfl) (d' := d - 1) (by omega) hbc hbs hM ?_ (fun E n1 μ1 hv => by obtain ⟨-, kq, hz, -⟩ := hq _ _ _ hv; cases hz)
  intro v n1 μ1 hv
  obtain ⟨rfl, kq, hz, QB, hB, hb⟩ := hq _ _ _ hv
  cases hz
  refine aw_istore (lst' := [_, _, _, _, _, _, _]) d_La_law_475 (Nat.le_of_ble_eq_true rfl) rfl ?_
  refine aw_aload_n d_La_law_477 rfl rfl ?_
  refine aw_aload_n d_La_law_478 rfl rfl ?_
  refine aw_pc (pc' := 479) rfl ?_
  refine aw_iload d_La_law_479 rfl ?_
  refine aw_iconst d_La_law_481 (in_c rfl) ?_
  refine aw_iadd d_La_law_482 (by unfold inR; omega) ?_
  refine aw_sld (n := iN + 1) (by omega) (by omega) d_La_law_483 ?_
  refine aw_vx (bc' := 0) (bs' := 0) (as := [_]) rfl cv_La_104 (by omega) rfl rfl d_La_law_484 (Nat.le_of_ble_eq_true rfl) (d' := d - 1) (by omega) (Nat.zero_le _) (Nat.zero_le _) hB ?_ (fun E n1 μ1 hv => by obtain ⟨-, b, hz, -⟩ := hb _ _ _ hv; cases hz)
  intro v2 n2 μ2 hv2
  obtain ⟨rfl, b, hz2, hf, ho, hK⟩ := hb _ _ _ hv2
  cases hz2
  refine aw_istore (lst' := [_, _, _, _, _, _, _]) d_La_law_487 (Nat.le_of_ble_eq_true rfl) rfl ?_
  refine aw_aload_n d_La_law_489 rfl rfl ?_
  refine aw_ve (as := []) rfl cv_La_77 (by omega) rfl rfl d_La_law_490 (Nat.le_of_ble_eq_true rfl) (d' := d - 1) (by omega) (m_Mo_thrown (by omega)) ?_
  refine aw_tv (v' := kq) hf ?_
  refine aw_iload d_La_law_493 rfl ?_
  refine aw_icmp_eq (tgt := 500) d_La_law_495 rfl (fun h495 => ?_) (fun h495 => absurd rfl h495)
  refine aw_iload d_La_law_500 rfl ?_
  refine aw_if_ne (tgt := 517) d_La_law_502 rfl (fun h502 => ?_) (fun h502 => ?_)
  · refine aw_goto (tgt := 1345) d_La_law_517 rfl ?_
    exact kk _ _ _ hK
  · refine aw_aload_n d_La_law_505 rfl rfl ?_
    refine aw_iconst d_La_law_506 (in_c rfl) ?_
    refine aw_lald (n := 0) (by omega) rfl rfl (by omega) d_La_law_507 ?_
    refine aw_iload d_La_law_508 rfl ?_
    refine aw_i2l d_La_law_510 ?_
    refine aw_lcmp d_La_law_511 (fun z511 hz511 => ?_)
    refine aw_if_eq (tgt := 517) d_La_law_512 rfl (fun h512 => ?_) (fun h512 => absurd (hz511.mpr (ho h502)) h512)
    refine aw_goto (tgt := 1345) d_La_law_517 rfl ?_
    exact kk _ _ _ hK
set_option maxRecDepth 100000 in
theorem k_La_7 {d bc bs : Nat} (hd : 2 ≤ d) {iN : Nat} (hi : iN + 5 ≤ gn G) (h2 : gn G ≤ 2560) {o5 o6 : Option aV} {Q : aQ → Nat → aM → Prop} {K : aM → Prop} (hbc : 3 ≤ bc) (hbs : 18 ≤ bs) {QA : aQ → Nat → aM → Prop} (hM : AM G false (d - 1) 3 18 y_La_feasible [aP 0, aI (gx G (iN + 1)), aP 93] 94 μ QA) (hq : ∀ r n m, QA r n m → n = 94 ∧ ∃ kq : Int, r = .inl (some (aI kq)) ∧ ∃ QB, AM G false (d - 1) 0 0 y_Mo_feasible [aP 67, aI (gx G (iN + 1))] 94 m QB ∧ ∀ r' n' m', QB r' n' m' → n' = 94 ∧ ∃ b : Int, r' = .inl (some (aI b)) ∧ mI m' 67 0 = kq ∧ (kq = 0 → mL m' 93 0 = BitVec.ofInt 64 b) ∧ K m') (kk : ∀ o5 o6 m', K m' → AW G false y_La_law d (bc - 3) (bs - 18) Q 1345 [some (aP 1000), some (aP 0), some (aP 67), some (aP 93), some (aI (iN : Int)), o5, o6] [] 94 m') : AW G false y_La_law d bc bs Q 520 [some (aP 1000), some (aP 0), some (aP 67), some (aP 93), some (aI (iN : Int)), o5, o6] [] 94 μ := by
  refine aw_aload_n d_La_law_520 rfl rfl ?_
  refine aw_aload_n d_La_law_521 rfl rfl ?_
  refine aw_iload d_La_law_522 rfl ?_
  refine aw_iconst d_La_law_524 (in_c rfl) ?_
  refine aw_iadd d_La_law_525 (by unfold inR; omega) ?_
  refine aw_sld (n := iN + 1) (by omega) (by omega) d_La_law_526 ?_
  refine aw_aload_n d_La_law_527 rfl rfl ?_
  refine aw_sx (as := [_, _, _]) rfl cs_La_105 d_La_law_528 (Nat.le_of_ble_eq_true rfl) (d' := d - 1) (by omega) hbc hbs hM ?_ (fun E n1 μ1 hv => by obtain ⟨-, kq, hz, -⟩ := hq _ _ _ hv; cases hz)
  intro v n1 μ1 hv
  obtain ⟨rfl, kq, hz, QB, hB, hb⟩ := hq _ _ _ hv
  cases hz
  refine aw_istore (lst' := [_, _, _, _, _, _, _]) d_La_law_531 (Nat.le_of_ble_eq_true rfl) rfl ?_
  refine aw_aload_n d_La_law_533 rfl rfl ?_
  refine aw_aload_n d_La_law_534 rfl rfl ?_
  refine aw_pc (pc' := 535) rfl ?_
  refine aw_iload d_La_law_535 rfl ?_
  refine aw_iconst d_La_law_537 (in_c rfl) ?_
  refine aw_iadd d_La_law_538 (by unfold inR; omega) ?_
  refine aw_sld (n := iN + 1) (by omega) (by omega) d_La_law_539 ?_
  refine aw_vx (bc' := 0) (bs' := 0) (as := [_]) rfl cv_La_107 (by omega) rfl rfl d_La_law_540 (Nat.le_of_ble_eq_true rfl) (d' := d - 1) (by omega) (Nat.zero_le _) (Nat.zero_le _) hB ?_ (fun E n1 μ1 hv => by obtain ⟨-, b, hz, -⟩ := hb _ _ _ hv; cases hz)
  intro v2 n2 μ2 hv2
  obtain ⟨rfl, b, hz2, hf, ho, hK⟩ := hb _ _ _ hv2
  cases hz2
  refine aw_istore (lst' := [_, _, _, _, _, _, _]) d_La_law_543 (Nat.le_of_ble_eq_true rfl) rfl ?_
  refine aw_aload_n d_La_law_545 rfl rfl ?_
  refine aw_ve (as := []) rfl cv_La_77 (by omega) rfl rfl d_La_law_546 (Nat.le_of_ble_eq_true rfl) (d' := d - 1) (by omega) (m_Mo_thrown (by omega)) ?_
  refine aw_tv (v' := kq) hf ?_
  refine aw_iload d_La_law_549 rfl ?_
  refine aw_icmp_eq (tgt := 556) d_La_law_551 rfl (fun h551 => ?_) (fun h551 => absurd rfl h551)
  refine aw_iload d_La_law_556 rfl ?_
  refine aw_if_ne (tgt := 573) d_La_law_558 rfl (fun h558 => ?_) (fun h558 => ?_)
  · refine aw_goto (tgt := 1345) d_La_law_573 rfl ?_
    exact kk _ _ _ hK
  · refine aw_aload_n d_La_law_561 rfl rfl ?_
    refine aw_iconst d_La_law_562 (in_c rfl) ?_
    refine aw_lald (n := 0) (by omega) rfl rfl (by omega) d_La_law_563 ?_
    refine aw_iload d_La_law_564 rfl ?_
    refine aw_i2l d_La_law_566 ?_
    refine aw_lcmp d_La_law_567 (fun z567 hz567 => ?_)
    refine aw_if_eq (tgt := 573) d_La_law_568 rfl (fun h568 => ?_) (fun h568 => absurd (hz567.mpr (ho h558)) h568)
    refine aw_goto (tgt := 1345) d_La_law_573 rfl ?_
    exact kk _ _ _ hK
set_option maxRecDepth 100000 in
theorem k_La_8 {d bc bs : Nat} (hd : 2 ≤ d) {iN : Nat} (hi : iN + 5 ≤ gn G) (h2 : gn G ≤ 2560) {o5 o6 : Option aV} {Q : aQ → Nat → aM → Prop} {K : aM → Prop} (hbc : 3 ≤ bc) (hbs : 18 ≤ bs) {QA : aQ → Nat → aM → Prop} (hM : AM G false (d - 1) 3 18 y_La_vector [aP 0, aI (gx G (iN + 1)), aI (gx G (iN + 2)), aI (gx G (iN + 3)), aP 93] 94 μ QA) (hq : ∀ r n m, QA r n m → n = 94 ∧ ∃ kq : Int, r = .inl (some (aI kq)) ∧ ∃ QB, AM G false (d - 1) 0 0 y_Mo_vector [aP 67, aI (gx G (iN + 1)), aI (gx G (iN + 2)), aI (gx G (iN + 3))] 94 m QB ∧ ∀ r' n' m', QB r' n' m' → n' = 94 ∧ ∃ b : Int, r' = .inl (some (aI b)) ∧ mI m' 67 0 = kq ∧ (kq = 0 → mL m' 93 0 = BitVec.ofInt 64 b) ∧ K m') (kk : ∀ o5 o6 m', K m' → AW G false y_La_law d (bc - 3) (bs - 18) Q 1345 [some (aP 1000), some (aP 0), some (aP 67), some (aP 93), some (aI (iN : Int)), o5, o6] [] 94 m') : AW G false y_La_law d bc bs Q 576 [some (aP 1000), some (aP 0), some (aP 67), some (aP 93), some (aI (iN : Int)), o5, o6] [] 94 μ := by
  refine aw_aload_n d_La_law_576 rfl rfl ?_
  refine aw_aload_n d_La_law_577 rfl rfl ?_
  refine aw_iload d_La_law_578 rfl ?_
  refine aw_iconst d_La_law_580 (in_c rfl) ?_
  refine aw_iadd d_La_law_581 (by unfold inR; omega) ?_
  refine aw_sld (n := iN + 1) (by omega) (by omega) d_La_law_582 ?_
  refine aw_aload_n d_La_law_583 rfl rfl ?_
  refine aw_iload d_La_law_584 rfl ?_
  refine aw_iconst d_La_law_586 (in_c rfl) ?_
  refine aw_iadd d_La_law_587 (by unfold inR; omega) ?_
  refine aw_sld (n := iN + 2) (by omega) (by omega) d_La_law_588 ?_
  refine aw_pc (pc' := 589) rfl ?_
  refine aw_aload_n d_La_law_589 rfl rfl ?_
  refine aw_iload d_La_law_590 rfl ?_
  refine aw_iconst d_La_law_592 (in_c rfl) ?_
  refine aw_iadd d_La_law_593 (by unfold inR; omega) ?_
  refine aw_sld (n := iN + 3) (by omega) (by omega) d_La_law_594 ?_
  refine aw_aload_n d_La_law_595 rfl rfl ?_
  refine aw_sx (as := [_, _, _, _, _]) rfl cs_La_108 d_La_law_596 (Nat.le_of_ble_eq_true rfl) (d' := d - 1) (by omega) hbc hbs hM ?_ (fun E n1 μ1 hv => by obtain ⟨-, kq, hz, -⟩ := hq _ _ _ hv; cases hz)
  intro v n1 μ1 hv
  obtain ⟨rfl, kq, hz, QB, hB, hb⟩ := hq _ _ _ hv
  cases hz
  refine aw_istore (lst' := [_, _, _, _, _, _, _]) d_La_law_599 (Nat.le_of_ble_eq_true rfl) rfl ?_
  refine aw_aload_n d_La_law_601 rfl rfl ?_
  refine aw_aload_n d_La_law_602 rfl rfl ?_
  refine aw_iload d_La_law_603 rfl ?_
  refine aw_iconst d_La_law_605 (in_c rfl) ?_
  refine aw_pc (pc' := 606) rfl ?_
  refine aw_iadd d_La_law_606 (by unfold inR; omega) ?_
  refine aw_sld (n := iN + 1) (by omega) (by omega) d_La_law_607 ?_
  refine aw_aload_n d_La_law_608 rfl rfl ?_
  refine aw_iload d_La_law_609 rfl ?_
  refine aw_iconst d_La_law_611 (in_c rfl) ?_
  refine aw_iadd d_La_law_612 (by unfold inR; omega) ?_
  refine aw_sld (n := iN + 2) (by omega) (by omega) d_La_law_613 ?_
  refine aw_aload_n d_La_law_614 rfl rfl ?_
  refine aw_iload d_La_law_615 rfl ?_
  refine aw_iconst d_La_law_617 (in_c rfl) ?_
  refine aw_iadd d_La_law_618 (by unfold inR; omega) ?_
  refine aw_sld (n := iN + 3) (by omega) (by omega) d_La_law_619 ?_
  refine aw_pc (pc' := 620) rfl ?_
  refine aw_vx (bc' := 0) (bs' := 0) (as := [_, _, _]) rfl cv_La_111 (by omega) rfl rfl d_La_law_620 (Nat.le_of_ble_eq_true rfl) (d' := d - 1) (by omega) (Nat.zero_le _) (Nat.zero_le _) hB ?_ (fun E n1 μ1 hv => by obtain ⟨-, b, hz, -⟩ := hb _ _ _ hv; cases hz)
  intro v2 n2 μ2 hv2
  obtain ⟨rfl, b, hz2, hf, ho, hK⟩ := hb _ _ _ hv2
  cases hz2
  refine aw_istore (lst' := [_, _, _, _, _, _, _]) d_La_law_623 (Nat.le_of_ble_eq_true rfl) rfl ?_
  refine aw_aload_n d_La_law_625 rfl rfl ?_
  refine aw_ve (as := []) rfl cv_La_77 (by omega) rfl rfl d_La_law_626 (Nat.le_of_ble_eq_true rfl) (d' := d - 1) (by omega) (m_Mo_thrown (by omega)) ?_
  refine aw_tv (v' := kq) hf ?_
  refine aw_iload d_La_law_629 rfl ?_
  refine aw_icmp_eq (tgt := 636) d_La_law_631 rfl (fun h631 => ?_) (fun h631 => absurd rfl h631)
  refine aw_iload d_La_law_636 rfl ?_
  refine aw_if_ne (tgt := 653) d_La_law_638 rfl (fun h638 => ?_) (fun h638 => ?_)
  · refine aw_goto (tgt := 1345) d_La_law_653 rfl ?_
    exact kk _ _ _ hK
  · refine aw_aload_n d_La_law_641 rfl rfl ?_
    refine aw_iconst d_La_law_642 (in_c rfl) ?_
    refine aw_lald (n := 0) (by omega) rfl rfl (by omega) d_La_law_643 ?_
    refine aw_iload d_La_law_644 rfl ?_
    refine aw_i2l d_La_law_646 ?_
    refine aw_lcmp d_La_law_647 (fun z647 hz647 => ?_)
    refine aw_if_eq (tgt := 653) d_La_law_648 rfl (fun h648 => ?_) (fun h648 => absurd (hz647.mpr (ho h638)) h648)
    refine aw_goto (tgt := 1345) d_La_law_653 rfl ?_
    exact kk _ _ _ hK
set_option maxRecDepth 100000 in
theorem k_La_9 {d bc bs : Nat} (hd : 2 ≤ d) {iN : Nat} (hi : iN + 5 ≤ gn G) (h2 : gn G ≤ 2560) {o5 o6 : Option aV} {Q : aQ → Nat → aM → Prop} {K : aM → Prop} (hbc : 3 ≤ bc) (hbs : 18 ≤ bs) {QA : aQ → Nat → aM → Prop} (hM : AM G false (d - 1) 3 18 y_La_outcome [aP 0, aI (gx G (iN + 1)), aI (gx G (iN + 2)), aP 93] 94 μ QA) (hq : ∀ r n m, QA r n m → n = 94 ∧ ∃ kq : Int, r = .inl (some (aI kq)) ∧ ∃ QB, AM G false (d - 1) 0 0 y_Mo_outcome [aP 67, aI (gx G (iN + 1)), aI (gx G (iN + 2))] 94 m QB ∧ ∀ r' n' m', QB r' n' m' → n' = 94 ∧ ∃ b : Int, r' = .inl (some (aI b)) ∧ mI m' 67 0 = kq ∧ (kq = 0 → mL m' 93 0 = BitVec.ofInt 64 b) ∧ K m' ∧ (b = 0 ∨ b = 1)) (kk : ∀ o5 o6 m', K m' → AW G false y_La_law d (bc - 3) (bs - 18) Q 1345 [some (aP 1000), some (aP 0), some (aP 67), some (aP 93), some (aI (iN : Int)), o5, o6] [] 94 m') : AW G false y_La_law d bc bs Q 656 [some (aP 1000), some (aP 0), some (aP 67), some (aP 93), some (aI (iN : Int)), o5, o6] [] 94 μ := by
  refine aw_aload_n d_La_law_656 rfl rfl ?_
  refine aw_aload_n d_La_law_657 rfl rfl ?_
  refine aw_iload d_La_law_658 rfl ?_
  refine aw_iconst d_La_law_660 (in_c rfl) ?_
  refine aw_iadd d_La_law_661 (by unfold inR; omega) ?_
  refine aw_sld (n := iN + 1) (by omega) (by omega) d_La_law_662 ?_
  refine aw_aload_n d_La_law_663 rfl rfl ?_
  refine aw_iload d_La_law_664 rfl ?_
  refine aw_iconst d_La_law_666 (in_c rfl) ?_
  refine aw_iadd d_La_law_667 (by unfold inR; omega) ?_
  refine aw_sld (n := iN + 2) (by omega) (by omega) d_La_law_668 ?_
  refine aw_pc (pc' := 669) rfl ?_
  refine aw_aload_n d_La_law_669 rfl rfl ?_
  refine aw_sx (as := [_, _, _, _]) rfl cs_La_112 d_La_law_670 (Nat.le_of_ble_eq_true rfl) (d' := d - 1) (by omega) hbc hbs hM ?_ (fun E n1 μ1 hv => by obtain ⟨-, kq, hz, -⟩ := hq _ _ _ hv; cases hz)
  intro v n1 μ1 hv
  obtain ⟨rfl, kq, hz, QB, hB, hb⟩ := hq _ _ _ hv
  cases hz
  refine aw_istore (lst' := [_, _, _, _, _, _, _]) d_La_law_673 (Nat.le_of_ble_eq_true rfl) rfl ?_
  refine aw_aload_n d_La_law_675 rfl rfl ?_
  refine aw_aload_n d_La_law_676 rfl rfl ?_
  refine aw_iload d_La_law_677 rfl ?_
  refine aw_iconst d_La_law_679 (in_c rfl) ?_
  refine aw_iadd d_La_law_680 (by unfold inR; omega) ?_
  refine aw_sld (n := iN + 1) (by omega) (by omega) d_La_law_681 ?_
  refine aw_aload_n d_La_law_682 rfl rfl ?_
  refine aw_iload d_La_law_683 rfl ?_
  refine aw_iconst d_La_law_685 (in_c rfl) ?_
  refine aw_pc (pc' := 686) rfl ?_
  refine aw_iadd d_La_law_686 (by unfold inR; omega) ?_
  refine aw_sld (n := iN + 2) (by omega) (by omega) d_La_law_687 ?_
  refine aw_vx (bc' := 0) (bs' := 0) (as := [_, _]) rfl cv_La_114 (by omega) rfl rfl d_La_law_688 (Nat.le_of_ble_eq_true rfl) (d' := d - 1) (by omega) (Nat.zero_le _) (Nat.zero_le _) hB ?_ (fun E n1 μ1 hv => by obtain ⟨-, b, hz, -⟩ := hb _ _ _ hv; cases hz)
  intro v2 n2 μ2 hv2
  obtain ⟨rfl, b, hz2, hf, ho, hK, h01⟩ := hb _ _ _ hv2
  cases hz2
  refine aw_istore (lst' := [_, _, _, _, _, _, _]) d_La_law_691 (Nat.le_of_ble_eq_true rfl) rfl ?_
  refine aw_aload_n d_La_law_693 rfl rfl ?_
  refine aw_ve (as := []) rfl cv_La_77 (by omega) rfl rfl d_La_law_694 (Nat.le_of_ble_eq_true rfl) (d' := d - 1) (by omega) (m_Mo_thrown (by omega)) ?_
  refine aw_tv (v' := kq) hf ?_
  refine aw_iload d_La_law_697 rfl ?_
  refine aw_icmp_eq (tgt := 704) d_La_law_699 rfl (fun h699 => ?_) (fun h699 => absurd rfl h699)
  refine aw_iload d_La_law_704 rfl ?_
  refine aw_if_ne (tgt := 728) d_La_law_706 rfl (fun h706 => ?_) (fun h706 => ?_)
  · refine aw_goto (tgt := 1345) d_La_law_728 rfl ?_
    exact kk _ _ _ hK
  · refine aw_aload_n d_La_law_709 rfl rfl ?_
    refine aw_iconst d_La_law_710 (in_c rfl) ?_
    refine aw_lald (n := 0) (by omega) rfl rfl (by omega) d_La_law_711 ?_
    refine aw_iload d_La_law_712 rfl ?_
    refine aw_if_eq (tgt := 721) d_La_law_714 rfl (fun h714 => ?_) (fun h714 => ?_)
    · refine aw_lconst (b := 0) d_La_law_721 rfl ?_
      refine aw_lcmp d_La_law_722 (fun z722 hz722 => ?_)
      refine aw_if_eq (tgt := 728) d_La_law_723 rfl (fun h723 => ?_) (fun h723 => absurd (hz722.mpr ((ho h706).trans (by rw [show b = 0 from by omega]; rfl))) h723)
      refine aw_goto (tgt := 1345) d_La_law_728 rfl ?_
      exact kk _ _ _ hK
    · refine aw_lconst (b := 1) d_La_law_717 rfl ?_
      refine aw_goto (tgt := 722) d_La_law_718 rfl ?_
      refine aw_lcmp d_La_law_722 (fun z722 hz722 => ?_)
      refine aw_if_eq (tgt := 728) d_La_law_723 rfl (fun h723 => ?_) (fun h723 => absurd (hz722.mpr ((ho h706).trans (by rw [show b = 1 from by omega]; rfl))) h723)
      refine aw_goto (tgt := 1345) d_La_law_728 rfl ?_
      exact kk _ _ _ hK
set_option maxRecDepth 100000 in
theorem k_La_10 {d bc bs : Nat} (hd : 2 ≤ d) {iN : Nat} (hi : iN + 5 ≤ gn G) (h2 : gn G ≤ 2560) {o5 o6 : Option aV} {Q : aQ → Nat → aM → Prop} {K : aM → Prop} (hbc : 3 ≤ bc) (hbs : 18 ≤ bs) {QA : aQ → Nat → aM → Prop} (hM : AM G false (d - 1) 3 18 y_La_evaluated [aP 0, aI (gx G (iN + 1)), aI (gx G (iN + 2)), aI (gx G (iN + 3)), aP 93] 94 μ QA) (hq : ∀ r n m, QA r n m → n = 94 ∧ ∃ kq : Int, r = .inl (some (aI kq)) ∧ ∃ QB, AM G false (d - 1) 0 0 y_Mo_evaluated [aP 67, aI (gx G (iN + 1)), aI (gx G (iN + 2)), aI (gx G (iN + 3))] 94 m QB ∧ ∀ r' n' m', QB r' n' m' → n' = 94 ∧ ∃ b : Int, r' = .inl (some (aI b)) ∧ mI m' 67 0 = kq ∧ (kq = 0 → mL m' 93 0 = BitVec.ofInt 64 b) ∧ K m' ∧ (b = 0 ∨ b = 1)) (kk : ∀ o5 o6 m', K m' → AW G false y_La_law d (bc - 3) (bs - 18) Q 1345 [some (aP 1000), some (aP 0), some (aP 67), some (aP 93), some (aI (iN : Int)), o5, o6] [] 94 m') : AW G false y_La_law d bc bs Q 731 [some (aP 1000), some (aP 0), some (aP 67), some (aP 93), some (aI (iN : Int)), o5, o6] [] 94 μ := by
  refine aw_aload_n d_La_law_731 rfl rfl ?_
  refine aw_aload_n d_La_law_732 rfl rfl ?_
  refine aw_iload d_La_law_733 rfl ?_
  refine aw_iconst d_La_law_735 (in_c rfl) ?_
  refine aw_iadd d_La_law_736 (by unfold inR; omega) ?_
  refine aw_sld (n := iN + 1) (by omega) (by omega) d_La_law_737 ?_
  refine aw_aload_n d_La_law_738 rfl rfl ?_
  refine aw_iload d_La_law_739 rfl ?_
  refine aw_iconst d_La_law_741 (in_c rfl) ?_
  refine aw_iadd d_La_law_742 (by unfold inR; omega) ?_
  refine aw_sld (n := iN + 2) (by omega) (by omega) d_La_law_743 ?_
  refine aw_pc (pc' := 744) rfl ?_
  refine aw_aload_n d_La_law_744 rfl rfl ?_
  refine aw_iload d_La_law_745 rfl ?_
  refine aw_iconst d_La_law_747 (in_c rfl) ?_
  refine aw_iadd d_La_law_748 (by unfold inR; omega) ?_
  refine aw_sld (n := iN + 3) (by omega) (by omega) d_La_law_749 ?_
  refine aw_aload_n d_La_law_750 rfl rfl ?_
  refine aw_sx (as := [_, _, _, _, _]) rfl cs_La_115 d_La_law_751 (Nat.le_of_ble_eq_true rfl) (d' := d - 1) (by omega) hbc hbs hM ?_ (fun E n1 μ1 hv => by obtain ⟨-, kq, hz, -⟩ := hq _ _ _ hv; cases hz)
  intro v n1 μ1 hv
  obtain ⟨rfl, kq, hz, QB, hB, hb⟩ := hq _ _ _ hv
  cases hz
  refine aw_istore (lst' := [_, _, _, _, _, _, _]) d_La_law_754 (Nat.le_of_ble_eq_true rfl) rfl ?_
  refine aw_aload_n d_La_law_756 rfl rfl ?_
  refine aw_aload_n d_La_law_757 rfl rfl ?_
  refine aw_iload d_La_law_758 rfl ?_
  refine aw_iconst d_La_law_760 (in_c rfl) ?_
  refine aw_pc (pc' := 761) rfl ?_
  refine aw_iadd d_La_law_761 (by unfold inR; omega) ?_
  refine aw_sld (n := iN + 1) (by omega) (by omega) d_La_law_762 ?_
  refine aw_aload_n d_La_law_763 rfl rfl ?_
  refine aw_iload d_La_law_764 rfl ?_
  refine aw_iconst d_La_law_766 (in_c rfl) ?_
  refine aw_iadd d_La_law_767 (by unfold inR; omega) ?_
  refine aw_sld (n := iN + 2) (by omega) (by omega) d_La_law_768 ?_
  refine aw_aload_n d_La_law_769 rfl rfl ?_
  refine aw_iload d_La_law_770 rfl ?_
  refine aw_iconst d_La_law_772 (in_c rfl) ?_
  refine aw_iadd d_La_law_773 (by unfold inR; omega) ?_
  refine aw_sld (n := iN + 3) (by omega) (by omega) d_La_law_774 ?_
  refine aw_pc (pc' := 775) rfl ?_
  refine aw_vx (bc' := 0) (bs' := 0) (as := [_, _, _]) rfl cv_La_117 (by omega) rfl rfl d_La_law_775 (Nat.le_of_ble_eq_true rfl) (d' := d - 1) (by omega) (Nat.zero_le _) (Nat.zero_le _) hB ?_ (fun E n1 μ1 hv => by obtain ⟨-, b, hz, -⟩ := hb _ _ _ hv; cases hz)
  intro v2 n2 μ2 hv2
  obtain ⟨rfl, b, hz2, hf, ho, hK, h01⟩ := hb _ _ _ hv2
  cases hz2
  refine aw_istore (lst' := [_, _, _, _, _, _, _]) d_La_law_778 (Nat.le_of_ble_eq_true rfl) rfl ?_
  refine aw_aload_n d_La_law_780 rfl rfl ?_
  refine aw_ve (as := []) rfl cv_La_77 (by omega) rfl rfl d_La_law_781 (Nat.le_of_ble_eq_true rfl) (d' := d - 1) (by omega) (m_Mo_thrown (by omega)) ?_
  refine aw_tv (v' := kq) hf ?_
  refine aw_iload d_La_law_784 rfl ?_
  refine aw_icmp_eq (tgt := 791) d_La_law_786 rfl (fun h786 => ?_) (fun h786 => absurd rfl h786)
  refine aw_iload d_La_law_791 rfl ?_
  refine aw_if_ne (tgt := 815) d_La_law_793 rfl (fun h793 => ?_) (fun h793 => ?_)
  · refine aw_goto (tgt := 1345) d_La_law_815 rfl ?_
    exact kk _ _ _ hK
  · refine aw_aload_n d_La_law_796 rfl rfl ?_
    refine aw_iconst d_La_law_797 (in_c rfl) ?_
    refine aw_lald (n := 0) (by omega) rfl rfl (by omega) d_La_law_798 ?_
    refine aw_iload d_La_law_799 rfl ?_
    refine aw_if_eq (tgt := 808) d_La_law_801 rfl (fun h801 => ?_) (fun h801 => ?_)
    · refine aw_lconst (b := 0) d_La_law_808 rfl ?_
      refine aw_lcmp d_La_law_809 (fun z809 hz809 => ?_)
      refine aw_if_eq (tgt := 815) d_La_law_810 rfl (fun h810 => ?_) (fun h810 => absurd (hz809.mpr ((ho h793).trans (by rw [show b = 0 from by omega]; rfl))) h810)
      refine aw_goto (tgt := 1345) d_La_law_815 rfl ?_
      exact kk _ _ _ hK
    · refine aw_lconst (b := 1) d_La_law_804 rfl ?_
      refine aw_goto (tgt := 809) d_La_law_805 rfl ?_
      refine aw_lcmp d_La_law_809 (fun z809 hz809 => ?_)
      refine aw_if_eq (tgt := 815) d_La_law_810 rfl (fun h810 => ?_) (fun h810 => absurd (hz809.mpr ((ho h793).trans (by rw [show b = 1 from by omega]; rfl))) h810)
      refine aw_goto (tgt := 1345) d_La_law_815 rfl ?_
      exact kk _ _ _ hK
set_option maxRecDepth 100000 in
theorem k_La_11 {d bc bs : Nat} (hd : 2 ≤ d) {iN : Nat} (hi : iN + 5 ≤ gn G) (h2 : gn G ≤ 2560) {o5 o6 : Option aV} {Q : aQ → Nat → aM → Prop} {K : aM → Prop} (hbc : 3 ≤ bc) (hbs : 18 ≤ bs) {QA : aQ → Nat → aM → Prop} (hM : AM G false (d - 1) 3 18 y_La_solve [aP 0, aI (gx G (iN + 1)), aI (gx G (iN + 2)), aI (gx G (iN + 3)), aP 93] 94 μ QA) (hq : ∀ r n m, QA r n m → n = 94 ∧ ∃ kq : Int, r = .inl (some (aI kq)) ∧ ∃ QB, AM G false (d - 1) 0 0 y_Mo_solve [aP 67, aI (gx G (iN + 1)), aI (gx G (iN + 2)), aI (gx G (iN + 3))] 94 m QB ∧ ∀ r' n' m', QB r' n' m' → n' = 94 ∧ ∃ b : Int, r' = .inl (some (aI b)) ∧ mI m' 67 0 = kq ∧ (kq = 0 → mL m' 93 0 = BitVec.ofInt 64 b) ∧ K m') (kk : ∀ o5 o6 m', K m' → AW G false y_La_law d (bc - 3) (bs - 18) Q 1345 [some (aP 1000), some (aP 0), some (aP 67), some (aP 93), some (aI (iN : Int)), o5, o6] [] 94 m') : AW G false y_La_law d bc bs Q 818 [some (aP 1000), some (aP 0), some (aP 67), some (aP 93), some (aI (iN : Int)), o5, o6] [] 94 μ := by
  refine aw_aload_n d_La_law_818 rfl rfl ?_
  refine aw_aload_n d_La_law_819 rfl rfl ?_
  refine aw_iload d_La_law_820 rfl ?_
  refine aw_iconst d_La_law_822 (in_c rfl) ?_
  refine aw_iadd d_La_law_823 (by unfold inR; omega) ?_
  refine aw_sld (n := iN + 1) (by omega) (by omega) d_La_law_824 ?_
  refine aw_aload_n d_La_law_825 rfl rfl ?_
  refine aw_iload d_La_law_826 rfl ?_
  refine aw_iconst d_La_law_828 (in_c rfl) ?_
  refine aw_iadd d_La_law_829 (by unfold inR; omega) ?_
  refine aw_sld (n := iN + 2) (by omega) (by omega) d_La_law_830 ?_
  refine aw_pc (pc' := 831) rfl ?_
  refine aw_aload_n d_La_law_831 rfl rfl ?_
  refine aw_iload d_La_law_832 rfl ?_
  refine aw_iconst d_La_law_834 (in_c rfl) ?_
  refine aw_iadd d_La_law_835 (by unfold inR; omega) ?_
  refine aw_sld (n := iN + 3) (by omega) (by omega) d_La_law_836 ?_
  refine aw_aload_n d_La_law_837 rfl rfl ?_
  refine aw_sx (as := [_, _, _, _, _]) rfl cs_La_118 d_La_law_838 (Nat.le_of_ble_eq_true rfl) (d' := d - 1) (by omega) hbc hbs hM ?_ (fun E n1 μ1 hv => by obtain ⟨-, kq, hz, -⟩ := hq _ _ _ hv; cases hz)
  intro v n1 μ1 hv
  obtain ⟨rfl, kq, hz, QB, hB, hb⟩ := hq _ _ _ hv
  cases hz
  refine aw_istore (lst' := [_, _, _, _, _, _, _]) d_La_law_841 (Nat.le_of_ble_eq_true rfl) rfl ?_
  refine aw_aload_n d_La_law_843 rfl rfl ?_
  refine aw_aload_n d_La_law_844 rfl rfl ?_
  refine aw_iload d_La_law_845 rfl ?_
  refine aw_iconst d_La_law_847 (in_c rfl) ?_
  refine aw_pc (pc' := 848) rfl ?_
  refine aw_iadd d_La_law_848 (by unfold inR; omega) ?_
  refine aw_sld (n := iN + 1) (by omega) (by omega) d_La_law_849 ?_
  refine aw_aload_n d_La_law_850 rfl rfl ?_
  refine aw_iload d_La_law_851 rfl ?_
  refine aw_iconst d_La_law_853 (in_c rfl) ?_
  refine aw_iadd d_La_law_854 (by unfold inR; omega) ?_
  refine aw_sld (n := iN + 2) (by omega) (by omega) d_La_law_855 ?_
  refine aw_aload_n d_La_law_856 rfl rfl ?_
  refine aw_iload d_La_law_857 rfl ?_
  refine aw_iconst d_La_law_859 (in_c rfl) ?_
  refine aw_iadd d_La_law_860 (by unfold inR; omega) ?_
  refine aw_sld (n := iN + 3) (by omega) (by omega) d_La_law_861 ?_
  refine aw_pc (pc' := 862) rfl ?_
  refine aw_vx (bc' := 0) (bs' := 0) (as := [_, _, _]) rfl cv_La_120 (by omega) rfl rfl d_La_law_862 (Nat.le_of_ble_eq_true rfl) (d' := d - 1) (by omega) (Nat.zero_le _) (Nat.zero_le _) hB ?_ (fun E n1 μ1 hv => by obtain ⟨-, b, hz, -⟩ := hb _ _ _ hv; cases hz)
  intro v2 n2 μ2 hv2
  obtain ⟨rfl, b, hz2, hf, ho, hK⟩ := hb _ _ _ hv2
  cases hz2
  refine aw_istore (lst' := [_, _, _, _, _, _, _]) d_La_law_865 (Nat.le_of_ble_eq_true rfl) rfl ?_
  refine aw_aload_n d_La_law_867 rfl rfl ?_
  refine aw_ve (as := []) rfl cv_La_77 (by omega) rfl rfl d_La_law_868 (Nat.le_of_ble_eq_true rfl) (d' := d - 1) (by omega) (m_Mo_thrown (by omega)) ?_
  refine aw_tv (v' := kq) hf ?_
  refine aw_iload d_La_law_871 rfl ?_
  refine aw_icmp_eq (tgt := 878) d_La_law_873 rfl (fun h873 => ?_) (fun h873 => absurd rfl h873)
  refine aw_iload d_La_law_878 rfl ?_
  refine aw_if_ne (tgt := 895) d_La_law_880 rfl (fun h880 => ?_) (fun h880 => ?_)
  · refine aw_goto (tgt := 1345) d_La_law_895 rfl ?_
    exact kk _ _ _ hK
  · refine aw_aload_n d_La_law_883 rfl rfl ?_
    refine aw_iconst d_La_law_884 (in_c rfl) ?_
    refine aw_lald (n := 0) (by omega) rfl rfl (by omega) d_La_law_885 ?_
    refine aw_iload d_La_law_886 rfl ?_
    refine aw_i2l d_La_law_888 ?_
    refine aw_lcmp d_La_law_889 (fun z889 hz889 => ?_)
    refine aw_if_eq (tgt := 895) d_La_law_890 rfl (fun h890 => ?_) (fun h890 => absurd (hz889.mpr (ho h880)) h890)
    refine aw_goto (tgt := 1345) d_La_law_895 rfl ?_
    exact kk _ _ _ hK
set_option maxRecDepth 100000 in
theorem k_La_12 {d bc bs : Nat} (hd : 2 ≤ d) {iN : Nat} (hi : iN + 5 ≤ gn G) (h2 : gn G ≤ 2560) {o5 o6 : Option aV} {Q : aQ → Nat → aM → Prop} {K : aM → Prop} (hbc : 3 ≤ bc) (hbs : 18 ≤ bs) {QA : aQ → Nat → aM → Prop} (hM : AM G false (d - 1) 3 18 y_La_suite [aP 0, aI (gx G (iN + 1)), aI (gx G (iN + 2)), aP 93] 94 μ QA) (hq : ∀ r n m, QA r n m → n = 94 ∧ ∃ kq : Int, r = .inl (some (aI kq)) ∧ ∃ QB, AM G false (d - 1) 0 0 y_Mo_suite [aP 67, aI (gx G (iN + 1)), aI (gx G (iN + 2))] 94 m QB ∧ ∀ r' n' m', QB r' n' m' → n' = 94 ∧ ∃ b : Int, r' = .inl (some (aI b)) ∧ mI m' 67 0 = kq ∧ (kq = 0 → mL m' 93 0 = BitVec.ofInt 64 b) ∧ K m') (kk : ∀ o5 o6 m', K m' → AW G false y_La_law d (bc - 3) (bs - 18) Q 1345 [some (aP 1000), some (aP 0), some (aP 67), some (aP 93), some (aI (iN : Int)), o5, o6] [] 94 m') : AW G false y_La_law d bc bs Q 898 [some (aP 1000), some (aP 0), some (aP 67), some (aP 93), some (aI (iN : Int)), o5, o6] [] 94 μ := by
  refine aw_aload_n d_La_law_898 rfl rfl ?_
  refine aw_aload_n d_La_law_899 rfl rfl ?_
  refine aw_iload d_La_law_900 rfl ?_
  refine aw_iconst d_La_law_902 (in_c rfl) ?_
  refine aw_iadd d_La_law_903 (by unfold inR; omega) ?_
  refine aw_sld (n := iN + 1) (by omega) (by omega) d_La_law_904 ?_
  refine aw_aload_n d_La_law_905 rfl rfl ?_
  refine aw_iload d_La_law_906 rfl ?_
  refine aw_iconst d_La_law_908 (in_c rfl) ?_
  refine aw_iadd d_La_law_909 (by unfold inR; omega) ?_
  refine aw_sld (n := iN + 2) (by omega) (by omega) d_La_law_910 ?_
  refine aw_pc (pc' := 911) rfl ?_
  refine aw_aload_n d_La_law_911 rfl rfl ?_
  refine aw_sx (as := [_, _, _, _]) rfl cs_La_121 d_La_law_912 (Nat.le_of_ble_eq_true rfl) (d' := d - 1) (by omega) hbc hbs hM ?_ (fun E n1 μ1 hv => by obtain ⟨-, kq, hz, -⟩ := hq _ _ _ hv; cases hz)
  intro v n1 μ1 hv
  obtain ⟨rfl, kq, hz, QB, hB, hb⟩ := hq _ _ _ hv
  cases hz
  refine aw_istore (lst' := [_, _, _, _, _, _, _]) d_La_law_915 (Nat.le_of_ble_eq_true rfl) rfl ?_
  refine aw_aload_n d_La_law_917 rfl rfl ?_
  refine aw_aload_n d_La_law_918 rfl rfl ?_
  refine aw_iload d_La_law_919 rfl ?_
  refine aw_iconst d_La_law_921 (in_c rfl) ?_
  refine aw_iadd d_La_law_922 (by unfold inR; omega) ?_
  refine aw_sld (n := iN + 1) (by omega) (by omega) d_La_law_923 ?_
  refine aw_aload_n d_La_law_924 rfl rfl ?_
  refine aw_iload d_La_law_925 rfl ?_
  refine aw_iconst d_La_law_927 (in_c rfl) ?_
  refine aw_pc (pc' := 928) rfl ?_
  refine aw_iadd d_La_law_928 (by unfold inR; omega) ?_
  refine aw_sld (n := iN + 2) (by omega) (by omega) d_La_law_929 ?_
  refine aw_vx (bc' := 0) (bs' := 0) (as := [_, _]) rfl cv_La_123 (by omega) rfl rfl d_La_law_930 (Nat.le_of_ble_eq_true rfl) (d' := d - 1) (by omega) (Nat.zero_le _) (Nat.zero_le _) hB ?_ (fun E n1 μ1 hv => by obtain ⟨-, b, hz, -⟩ := hb _ _ _ hv; cases hz)
  intro v2 n2 μ2 hv2
  obtain ⟨rfl, b, hz2, hf, ho, hK⟩ := hb _ _ _ hv2
  cases hz2
  refine aw_istore (lst' := [_, _, _, _, _, _, _]) d_La_law_933 (Nat.le_of_ble_eq_true rfl) rfl ?_
  refine aw_aload_n d_La_law_935 rfl rfl ?_
  refine aw_ve (as := []) rfl cv_La_77 (by omega) rfl rfl d_La_law_936 (Nat.le_of_ble_eq_true rfl) (d' := d - 1) (by omega) (m_Mo_thrown (by omega)) ?_
  refine aw_tv (v' := kq) hf ?_
  refine aw_iload d_La_law_939 rfl ?_
  refine aw_icmp_eq (tgt := 946) d_La_law_941 rfl (fun h941 => ?_) (fun h941 => absurd rfl h941)
  refine aw_iload d_La_law_946 rfl ?_
  refine aw_if_ne (tgt := 963) d_La_law_948 rfl (fun h948 => ?_) (fun h948 => ?_)
  · refine aw_goto (tgt := 1345) d_La_law_963 rfl ?_
    exact kk _ _ _ hK
  · refine aw_aload_n d_La_law_951 rfl rfl ?_
    refine aw_iconst d_La_law_952 (in_c rfl) ?_
    refine aw_lald (n := 0) (by omega) rfl rfl (by omega) d_La_law_953 ?_
    refine aw_iload d_La_law_954 rfl ?_
    refine aw_i2l d_La_law_956 ?_
    refine aw_lcmp d_La_law_957 (fun z957 hz957 => ?_)
    refine aw_if_eq (tgt := 963) d_La_law_958 rfl (fun h958 => ?_) (fun h958 => absurd (hz957.mpr (ho h948)) h958)
    refine aw_goto (tgt := 1345) d_La_law_963 rfl ?_
    exact kk _ _ _ hK
set_option maxRecDepth 100000 in
theorem k_La_13 {d bc bs : Nat} (hd : 2 ≤ d) {iN : Nat} (hi : iN + 5 ≤ gn G) (h2 : gn G ≤ 2560) {o5 o6 : Option aV} {Q : aQ → Nat → aM → Prop} {K : aM → Prop} {QA : aQ → Nat → aM → Prop} (hM : AM G false (d - 1) 0 0 y_MC_suiteAt [aP 0, aI (gx G (iN + 1))] 94 μ QA) (hq : ∀ r n m, QA r n m → n = 94 ∧ ∃ kq : Int, r = .inl (some (aI kq)) ∧ ∃ QB, AM G false (d - 1) 0 0 y_Mo_suiteAt [aP 67, aI (gx G (iN + 1))] 94 m QB ∧ ∀ r' n' m', QB r' n' m' → n' = 94 ∧ r' = .inl (some (aI kq)) ∧ K m') (kk : ∀ o5 o6 m', K m' → AW G false y_La_law d bc bs Q 1345 [some (aP 1000), some (aP 0), some (aP 67), some (aP 93), some (aI (iN : Int)), o5, o6] [] 94 m') : AW G false y_La_law d bc bs Q 966 [some (aP 1000), some (aP 0), some (aP 67), some (aP 93), some (aI (iN : Int)), o5, o6] [] 94 μ := by
  refine aw_aload_n d_La_law_966 rfl rfl ?_
  refine aw_aload_n d_La_law_967 rfl rfl ?_
  refine aw_iload d_La_law_968 rfl ?_
  refine aw_iconst d_La_law_970 (in_c rfl) ?_
  refine aw_iadd d_La_law_971 (by unfold inR; omega) ?_
  refine aw_sld (n := iN + 1) (by omega) (by omega) d_La_law_972 ?_
  refine aw_vx (bc' := 0) (bs' := 0) (as := [_]) rfl cv_La_124 (by omega) rfl rfl d_La_law_973 (Nat.le_of_ble_eq_true rfl) (d' := d - 1) (by omega) (Nat.zero_le _) (Nat.zero_le _) hM ?_ (fun E n1 μ1 hv => by obtain ⟨-, kq, hz, -⟩ := hq _ _ _ hv; cases hz)
  intro v n1 μ1 hv
  obtain ⟨rfl, kq, hz, QB, hB, hb⟩ := hq _ _ _ hv
  cases hz
  refine aw_aload_n d_La_law_976 rfl rfl ?_
  refine aw_aload_n d_La_law_977 rfl rfl ?_
  refine aw_iload d_La_law_978 rfl ?_
  refine aw_iconst d_La_law_980 (in_c rfl) ?_
  refine aw_pc (pc' := 981) rfl ?_
  refine aw_iadd d_La_law_981 (by unfold inR; omega) ?_
  refine aw_sld (n := iN + 1) (by omega) (by omega) d_La_law_982 ?_
  refine aw_vx (bc' := 0) (bs' := 0) (as := [_]) rfl cv_La_127 (by omega) rfl rfl d_La_law_983 (Nat.le_of_ble_eq_true rfl) (d' := d - 1) (by omega) (Nat.zero_le _) (Nat.zero_le _) hB ?_ (fun E n1 μ1 hv => by obtain ⟨-, hz, -⟩ := hb _ _ _ hv; cases hz)
  intro v2 n2 μ2 hv2
  obtain ⟨rfl, hz2, hK⟩ := hb _ _ _ hv2
  cases hz2
  refine aw_icmp_eq (tgt := 1345) d_La_law_986 rfl (fun h986 => ?_) (fun h986 => absurd rfl h986)
  exact kk _ _ _ hK
set_option maxRecDepth 100000 in
theorem k_La_14 {d bc bs : Nat} (hd : 2 ≤ d) {iN : Nat} (hi : iN + 5 ≤ gn G) (h2 : gn G ≤ 2560) {o5 o6 : Option aV} {Q : aQ → Nat → aM → Prop} {K : aM → Prop} (hbc : 3 ≤ bc) (hbs : 18 ≤ bs) {QA : aQ → Nat → aM → Prop} (hM : AM G false (d - 1) 3 18 y_La_least [aP 0, aI (gx G (iN + 1)), aI (gx G (iN + 2)), aP 93] 94 μ QA) (hq : ∀ r n m, QA r n m → n = 94 ∧ ∃ kq : Int, r = .inl (some (aI kq)) ∧ ∃ QB, AM G false (d - 1) 0 0 y_Mo_least [aP 67, aI (gx G (iN + 1)), aI (gx G (iN + 2))] 94 m QB ∧ ∀ r' n' m', QB r' n' m' → n' = 94 ∧ ∃ b : Int, r' = .inl (some (aI b)) ∧ mI m' 67 0 = kq ∧ (kq = 0 → mL m' 93 0 = BitVec.ofInt 64 b) ∧ K m') (kk : ∀ o5 o6 m', K m' → AW G false y_La_law d (bc - 3) (bs - 18) Q 1345 [some (aP 1000), some (aP 0), some (aP 67), some (aP 93), some (aI (iN : Int)), o5, o6] [] 94 m') : AW G false y_La_law d bc bs Q 991 [some (aP 1000), some (aP 0), some (aP 67), some (aP 93), some (aI (iN : Int)), o5, o6] [] 94 μ := by
  refine aw_aload_n d_La_law_991 rfl rfl ?_
  refine aw_aload_n d_La_law_992 rfl rfl ?_
  refine aw_iload d_La_law_993 rfl ?_
  refine aw_iconst d_La_law_995 (in_c rfl) ?_
  refine aw_iadd d_La_law_996 (by unfold inR; omega) ?_
  refine aw_sld (n := iN + 1) (by omega) (by omega) d_La_law_997 ?_
  refine aw_aload_n d_La_law_998 rfl rfl ?_
  refine aw_iload d_La_law_999 rfl ?_
  refine aw_iconst d_La_law_1001 (in_c rfl) ?_
  refine aw_iadd d_La_law_1002 (by unfold inR; omega) ?_
  refine aw_sld (n := iN + 2) (by omega) (by omega) d_La_law_1003 ?_
  refine aw_pc (pc' := 1004) rfl ?_
  refine aw_aload_n d_La_law_1004 rfl rfl ?_
  refine aw_sx (as := [_, _, _, _]) rfl cs_La_128 d_La_law_1005 (Nat.le_of_ble_eq_true rfl) (d' := d - 1) (by omega) hbc hbs hM ?_ (fun E n1 μ1 hv => by obtain ⟨-, kq, hz, -⟩ := hq _ _ _ hv; cases hz)
  intro v n1 μ1 hv
  obtain ⟨rfl, kq, hz, QB, hB, hb⟩ := hq _ _ _ hv
  cases hz
  refine aw_istore (lst' := [_, _, _, _, _, _, _]) d_La_law_1008 (Nat.le_of_ble_eq_true rfl) rfl ?_
  refine aw_aload_n d_La_law_1010 rfl rfl ?_
  refine aw_aload_n d_La_law_1011 rfl rfl ?_
  refine aw_iload d_La_law_1012 rfl ?_
  refine aw_iconst d_La_law_1014 (in_c rfl) ?_
  refine aw_iadd d_La_law_1015 (by unfold inR; omega) ?_
  refine aw_sld (n := iN + 1) (by omega) (by omega) d_La_law_1016 ?_
  refine aw_aload_n d_La_law_1017 rfl rfl ?_
  refine aw_iload d_La_law_1018 rfl ?_
  refine aw_iconst d_La_law_1020 (in_c rfl) ?_
  refine aw_pc (pc' := 1021) rfl ?_
  refine aw_iadd d_La_law_1021 (by unfold inR; omega) ?_
  refine aw_sld (n := iN + 2) (by omega) (by omega) d_La_law_1022 ?_
  refine aw_vx (bc' := 0) (bs' := 0) (as := [_, _]) rfl cv_La_130 (by omega) rfl rfl d_La_law_1023 (Nat.le_of_ble_eq_true rfl) (d' := d - 1) (by omega) (Nat.zero_le _) (Nat.zero_le _) hB ?_ (fun E n1 μ1 hv => by obtain ⟨-, b, hz, -⟩ := hb _ _ _ hv; cases hz)
  intro v2 n2 μ2 hv2
  obtain ⟨rfl, b, hz2, hf, ho, hK⟩ := hb _ _ _ hv2
  cases hz2
  refine aw_istore (lst' := [_, _, _, _, _, _, _]) d_La_law_1026 (Nat.le_of_ble_eq_true rfl) rfl ?_
  refine aw_aload_n d_La_law_1028 rfl rfl ?_
  refine aw_ve (as := []) rfl cv_La_77 (by omega) rfl rfl d_La_law_1029 (Nat.le_of_ble_eq_true rfl) (d' := d - 1) (by omega) (m_Mo_thrown (by omega)) ?_
  refine aw_tv (v' := kq) hf ?_
  refine aw_iload d_La_law_1032 rfl ?_
  refine aw_icmp_eq (tgt := 1039) d_La_law_1034 rfl (fun h1034 => ?_) (fun h1034 => absurd rfl h1034)
  refine aw_iload d_La_law_1039 rfl ?_
  refine aw_if_ne (tgt := 1056) d_La_law_1041 rfl (fun h1041 => ?_) (fun h1041 => ?_)
  · refine aw_goto (tgt := 1345) d_La_law_1056 rfl ?_
    exact kk _ _ _ hK
  · refine aw_aload_n d_La_law_1044 rfl rfl ?_
    refine aw_iconst d_La_law_1045 (in_c rfl) ?_
    refine aw_lald (n := 0) (by omega) rfl rfl (by omega) d_La_law_1046 ?_
    refine aw_iload d_La_law_1047 rfl ?_
    refine aw_i2l d_La_law_1049 ?_
    refine aw_lcmp d_La_law_1050 (fun z1050 hz1050 => ?_)
    refine aw_if_eq (tgt := 1056) d_La_law_1051 rfl (fun h1051 => ?_) (fun h1051 => absurd (hz1050.mpr (ho h1041)) h1051)
    refine aw_goto (tgt := 1345) d_La_law_1056 rfl ?_
    exact kk _ _ _ hK
set_option maxRecDepth 100000 in
theorem k_La_15 {d bc bs : Nat} (hd : 2 ≤ d) {iN : Nat} (hi : iN + 5 ≤ gn G) (h2 : gn G ≤ 2560) {o5 o6 : Option aV} {Q : aQ → Nat → aM → Prop} {K : aM → Prop} (hbc : 3 ≤ bc) (hbs : 18 ≤ bs) {QA : aQ → Nat → aM → Prop} (hM : AM G false (d - 1) 3 18 y_La_keep [aP 0, aI (gx G (iN + 1)), aI (gx G (iN + 2)), aI (gx G (iN + 3)), aP 93] 94 μ QA) (hq : ∀ r n m, QA r n m → n = 94 ∧ ∃ kq : Int, r = .inl (some (aI kq)) ∧ ∃ QB, AM G false (d - 1) 0 0 y_Mo_keep [aP 67, aI (gx G (iN + 1)), aI (gx G (iN + 2)), aI (gx G (iN + 3))] 94 m QB ∧ ∀ r' n' m', QB r' n' m' → n' = 94 ∧ ∃ b : Int, r' = .inl (some (aI b)) ∧ mI m' 67 0 = kq ∧ (kq = 0 → mL m' 93 0 = BitVec.ofInt 64 b) ∧ K m') (kk : ∀ o5 o6 m', K m' → AW G false y_La_law d (bc - 3) (bs - 18) Q 1345 [some (aP 1000), some (aP 0), some (aP 67), some (aP 93), some (aI (iN : Int)), o5, o6] [] 94 m') : AW G false y_La_law d bc bs Q 1059 [some (aP 1000), some (aP 0), some (aP 67), some (aP 93), some (aI (iN : Int)), o5, o6] [] 94 μ := by
  refine aw_aload_n d_La_law_1059 rfl rfl ?_
  refine aw_aload_n d_La_law_1060 rfl rfl ?_
  refine aw_iload d_La_law_1061 rfl ?_
  refine aw_iconst d_La_law_1063 (in_c rfl) ?_
  refine aw_iadd d_La_law_1064 (by unfold inR; omega) ?_
  refine aw_sld (n := iN + 1) (by omega) (by omega) d_La_law_1065 ?_
  refine aw_aload_n d_La_law_1066 rfl rfl ?_
  refine aw_iload d_La_law_1067 rfl ?_
  refine aw_iconst d_La_law_1069 (in_c rfl) ?_
  refine aw_iadd d_La_law_1070 (by unfold inR; omega) ?_
  refine aw_sld (n := iN + 2) (by omega) (by omega) d_La_law_1071 ?_
  refine aw_pc (pc' := 1072) rfl ?_
  refine aw_aload_n d_La_law_1072 rfl rfl ?_
  refine aw_iload d_La_law_1073 rfl ?_
  refine aw_iconst d_La_law_1075 (in_c rfl) ?_
  refine aw_iadd d_La_law_1076 (by unfold inR; omega) ?_
  refine aw_sld (n := iN + 3) (by omega) (by omega) d_La_law_1077 ?_
  refine aw_aload_n d_La_law_1078 rfl rfl ?_
  refine aw_sx (as := [_, _, _, _, _]) rfl cs_La_131 d_La_law_1079 (Nat.le_of_ble_eq_true rfl) (d' := d - 1) (by omega) hbc hbs hM ?_ (fun E n1 μ1 hv => by obtain ⟨-, kq, hz, -⟩ := hq _ _ _ hv; cases hz)
  intro v n1 μ1 hv
  obtain ⟨rfl, kq, hz, QB, hB, hb⟩ := hq _ _ _ hv
  cases hz
  refine aw_istore (lst' := [_, _, _, _, _, _, _]) d_La_law_1082 (Nat.le_of_ble_eq_true rfl) rfl ?_
  refine aw_aload_n d_La_law_1084 rfl rfl ?_
  refine aw_aload_n d_La_law_1085 rfl rfl ?_
  refine aw_iload d_La_law_1086 rfl ?_
  refine aw_iconst d_La_law_1088 (in_c rfl) ?_
  refine aw_pc (pc' := 1089) rfl ?_
  refine aw_iadd d_La_law_1089 (by unfold inR; omega) ?_
  refine aw_sld (n := iN + 1) (by omega) (by omega) d_La_law_1090 ?_
  refine aw_aload_n d_La_law_1091 rfl rfl ?_
  refine aw_iload d_La_law_1092 rfl ?_
  refine aw_iconst d_La_law_1094 (in_c rfl) ?_
  refine aw_iadd d_La_law_1095 (by unfold inR; omega) ?_
  refine aw_sld (n := iN + 2) (by omega) (by omega) d_La_law_1096 ?_
  refine aw_aload_n d_La_law_1097 rfl rfl ?_
  refine aw_iload d_La_law_1098 rfl ?_
  refine aw_iconst d_La_law_1100 (in_c rfl) ?_
  refine aw_iadd d_La_law_1101 (by unfold inR; omega) ?_
  refine aw_sld (n := iN + 3) (by omega) (by omega) d_La_law_1102 ?_
  refine aw_pc (pc' := 1103) rfl ?_
  refine aw_vx (bc' := 0) (bs' := 0) (as := [_, _, _]) rfl cv_La_133 (by omega) rfl rfl d_La_law_1103 (Nat.le_of_ble_eq_true rfl) (d' := d - 1) (by omega) (Nat.zero_le _) (Nat.zero_le _) hB ?_ (fun E n1 μ1 hv => by obtain ⟨-, b, hz, -⟩ := hb _ _ _ hv; cases hz)
  intro v2 n2 μ2 hv2
  obtain ⟨rfl, b, hz2, hf, ho, hK⟩ := hb _ _ _ hv2
  cases hz2
  refine aw_istore (lst' := [_, _, _, _, _, _, _]) d_La_law_1106 (Nat.le_of_ble_eq_true rfl) rfl ?_
  refine aw_aload_n d_La_law_1108 rfl rfl ?_
  refine aw_ve (as := []) rfl cv_La_77 (by omega) rfl rfl d_La_law_1109 (Nat.le_of_ble_eq_true rfl) (d' := d - 1) (by omega) (m_Mo_thrown (by omega)) ?_
  refine aw_tv (v' := kq) hf ?_
  refine aw_iload d_La_law_1112 rfl ?_
  refine aw_icmp_eq (tgt := 1119) d_La_law_1114 rfl (fun h1114 => ?_) (fun h1114 => absurd rfl h1114)
  refine aw_iload d_La_law_1119 rfl ?_
  refine aw_if_ne (tgt := 1136) d_La_law_1121 rfl (fun h1121 => ?_) (fun h1121 => ?_)
  · refine aw_goto (tgt := 1345) d_La_law_1136 rfl ?_
    exact kk _ _ _ hK
  · refine aw_aload_n d_La_law_1124 rfl rfl ?_
    refine aw_iconst d_La_law_1125 (in_c rfl) ?_
    refine aw_lald (n := 0) (by omega) rfl rfl (by omega) d_La_law_1126 ?_
    refine aw_iload d_La_law_1127 rfl ?_
    refine aw_i2l d_La_law_1129 ?_
    refine aw_lcmp d_La_law_1130 (fun z1130 hz1130 => ?_)
    refine aw_if_eq (tgt := 1136) d_La_law_1131 rfl (fun h1131 => ?_) (fun h1131 => absurd (hz1130.mpr (ho h1121)) h1131)
    refine aw_goto (tgt := 1345) d_La_law_1136 rfl ?_
    exact kk _ _ _ hK
set_option maxRecDepth 100000 in
theorem k_La_16 {d bc bs : Nat} (hd : 2 ≤ d) {iN : Nat} (hi : iN + 5 ≤ gn G) (h2 : gn G ≤ 2560) {o5 o6 : Option aV} {Q : aQ → Nat → aM → Prop} {K : aM → Prop} {QA : aQ → Nat → aM → Prop} (hM : AM G false (d - 1) 0 0 y_MC_forget [aP 0] 94 μ QA) (hq : ∀ r n m, QA r n m → n = 94 ∧ ∃ kq : Int, r = .inl (some (aI kq)) ∧ ∃ QB, AM G false (d - 1) 0 0 y_Mo_forget [aP 67] 94 m QB ∧ ∀ r' n' m', QB r' n' m' → n' = 94 ∧ r' = .inl (some (aI kq)) ∧ K m') (kk : ∀ o5 o6 m', K m' → AW G false y_La_law d bc bs Q 1345 [some (aP 1000), some (aP 0), some (aP 67), some (aP 93), some (aI (iN : Int)), o5, o6] [] 94 m') : AW G false y_La_law d bc bs Q 1139 [some (aP 1000), some (aP 0), some (aP 67), some (aP 93), some (aI (iN : Int)), o5, o6] [] 94 μ := by
  refine aw_aload_n d_La_law_1139 rfl rfl ?_
  refine aw_vx (bc' := 0) (bs' := 0) (as := []) rfl cv_La_134 (by omega) rfl rfl d_La_law_1140 (Nat.le_of_ble_eq_true rfl) (d' := d - 1) (by omega) (Nat.zero_le _) (Nat.zero_le _) hM ?_ (fun E n1 μ1 hv => by obtain ⟨-, kq, hz, -⟩ := hq _ _ _ hv; cases hz)
  intro v n1 μ1 hv
  obtain ⟨rfl, kq, hz, QB, hB, hb⟩ := hq _ _ _ hv
  cases hz
  refine aw_aload_n d_La_law_1143 rfl rfl ?_
  refine aw_vx (bc' := 0) (bs' := 0) (as := []) rfl cv_La_137 (by omega) rfl rfl d_La_law_1144 (Nat.le_of_ble_eq_true rfl) (d' := d - 1) (by omega) (Nat.zero_le _) (Nat.zero_le _) hB ?_ (fun E n1 μ1 hv => by obtain ⟨-, hz, -⟩ := hb _ _ _ hv; cases hz)
  intro v2 n2 μ2 hv2
  obtain ⟨rfl, hz2, hK⟩ := hb _ _ _ hv2
  cases hz2
  refine aw_icmp_eq (tgt := 1345) d_La_law_1147 rfl (fun h1147 => ?_) (fun h1147 => absurd rfl h1147)
  exact kk _ _ _ hK
set_option maxRecDepth 100000 in
theorem k_La_17 {d bc bs : Nat} (hd : 2 ≤ d) {iN : Nat} (hi : iN + 5 ≤ gn G) (h2 : gn G ≤ 2560) {o5 o6 : Option aV} {Q : aQ → Nat → aM → Prop} {K : aM → Prop} (hbc : 3 ≤ bc) (hbs : 18 ≤ bs) {QA : aQ → Nat → aM → Prop} (hM : AM G false (d - 1) 3 18 y_La_covered [aP 0, aI (gx G (iN + 1)), aI (gx G (iN + 2)), aI (gx G (iN + 3)), aP 93] 94 μ QA) (hq : ∀ r n m, QA r n m → n = 94 ∧ ∃ kq : Int, r = .inl (some (aI kq)) ∧ ∃ QB, AM G false (d - 1) 0 0 y_Mo_covered [aP 67, aI (gx G (iN + 1)), aI (gx G (iN + 2)), aI (gx G (iN + 3))] 94 m QB ∧ ∀ r' n' m', QB r' n' m' → n' = 94 ∧ ∃ b : Int, r' = .inl (some (aI b)) ∧ mI m' 67 0 = kq ∧ (kq = 0 → mL m' 93 0 = BitVec.ofInt 64 b) ∧ K m' ∧ (b = 0 ∨ b = 1)) (kk : ∀ o5 o6 m', K m' → AW G false y_La_law d (bc - 3) (bs - 18) Q 1345 [some (aP 1000), some (aP 0), some (aP 67), some (aP 93), some (aI (iN : Int)), o5, o6] [] 94 m') : AW G false y_La_law d bc bs Q 1152 [some (aP 1000), some (aP 0), some (aP 67), some (aP 93), some (aI (iN : Int)), o5, o6] [] 94 μ := by
  refine aw_aload_n d_La_law_1152 rfl rfl ?_
  refine aw_aload_n d_La_law_1153 rfl rfl ?_
  refine aw_iload d_La_law_1154 rfl ?_
  refine aw_iconst d_La_law_1156 (in_c rfl) ?_
  refine aw_iadd d_La_law_1157 (by unfold inR; omega) ?_
  refine aw_sld (n := iN + 1) (by omega) (by omega) d_La_law_1158 ?_
  refine aw_aload_n d_La_law_1159 rfl rfl ?_
  refine aw_iload d_La_law_1160 rfl ?_
  refine aw_iconst d_La_law_1162 (in_c rfl) ?_
  refine aw_iadd d_La_law_1163 (by unfold inR; omega) ?_
  refine aw_sld (n := iN + 2) (by omega) (by omega) d_La_law_1164 ?_
  refine aw_pc (pc' := 1165) rfl ?_
  refine aw_aload_n d_La_law_1165 rfl rfl ?_
  refine aw_iload d_La_law_1166 rfl ?_
  refine aw_iconst d_La_law_1168 (in_c rfl) ?_
  refine aw_iadd d_La_law_1169 (by unfold inR; omega) ?_
  refine aw_sld (n := iN + 3) (by omega) (by omega) d_La_law_1170 ?_
  refine aw_aload_n d_La_law_1171 rfl rfl ?_
  refine aw_sx (as := [_, _, _, _, _]) rfl cs_La_138 d_La_law_1172 (Nat.le_of_ble_eq_true rfl) (d' := d - 1) (by omega) hbc hbs hM ?_ (fun E n1 μ1 hv => by obtain ⟨-, kq, hz, -⟩ := hq _ _ _ hv; cases hz)
  intro v n1 μ1 hv
  obtain ⟨rfl, kq, hz, QB, hB, hb⟩ := hq _ _ _ hv
  cases hz
  refine aw_istore (lst' := [_, _, _, _, _, _, _]) d_La_law_1175 (Nat.le_of_ble_eq_true rfl) rfl ?_
  refine aw_aload_n d_La_law_1177 rfl rfl ?_
  refine aw_aload_n d_La_law_1178 rfl rfl ?_
  refine aw_iload d_La_law_1179 rfl ?_
  refine aw_iconst d_La_law_1181 (in_c rfl) ?_
  refine aw_pc (pc' := 1182) rfl ?_
  refine aw_iadd d_La_law_1182 (by unfold inR; omega) ?_
  refine aw_sld (n := iN + 1) (by omega) (by omega) d_La_law_1183 ?_
  refine aw_aload_n d_La_law_1184 rfl rfl ?_
  refine aw_iload d_La_law_1185 rfl ?_
  refine aw_iconst d_La_law_1187 (in_c rfl) ?_
  refine aw_iadd d_La_law_1188 (by unfold inR; omega) ?_
  refine aw_sld (n := iN + 2) (by omega) (by omega) d_La_law_1189 ?_
  refine aw_aload_n d_La_law_1190 rfl rfl ?_
  refine aw_iload d_La_law_1191 rfl ?_
  refine aw_iconst d_La_law_1193 (in_c rfl) ?_
  refine aw_iadd d_La_law_1194 (by unfold inR; omega) ?_
  refine aw_sld (n := iN + 3) (by omega) (by omega) d_La_law_1195 ?_
  refine aw_pc (pc' := 1196) rfl ?_
  refine aw_vx (bc' := 0) (bs' := 0) (as := [_, _, _]) rfl cv_La_140 (by omega) rfl rfl d_La_law_1196 (Nat.le_of_ble_eq_true rfl) (d' := d - 1) (by omega) (Nat.zero_le _) (Nat.zero_le _) hB ?_ (fun E n1 μ1 hv => by obtain ⟨-, b, hz, -⟩ := hb _ _ _ hv; cases hz)
  intro v2 n2 μ2 hv2
  obtain ⟨rfl, b, hz2, hf, ho, hK, h01⟩ := hb _ _ _ hv2
  cases hz2
  refine aw_istore (lst' := [_, _, _, _, _, _, _]) d_La_law_1199 (Nat.le_of_ble_eq_true rfl) rfl ?_
  refine aw_aload_n d_La_law_1201 rfl rfl ?_
  refine aw_ve (as := []) rfl cv_La_77 (by omega) rfl rfl d_La_law_1202 (Nat.le_of_ble_eq_true rfl) (d' := d - 1) (by omega) (m_Mo_thrown (by omega)) ?_
  refine aw_tv (v' := kq) hf ?_
  refine aw_iload d_La_law_1205 rfl ?_
  refine aw_icmp_eq (tgt := 1212) d_La_law_1207 rfl (fun h1207 => ?_) (fun h1207 => absurd rfl h1207)
  refine aw_iload d_La_law_1212 rfl ?_
  refine aw_if_ne (tgt := 1236) d_La_law_1214 rfl (fun h1214 => ?_) (fun h1214 => ?_)
  · refine aw_goto (tgt := 1345) d_La_law_1236 rfl ?_
    exact kk _ _ _ hK
  · refine aw_aload_n d_La_law_1217 rfl rfl ?_
    refine aw_iconst d_La_law_1218 (in_c rfl) ?_
    refine aw_lald (n := 0) (by omega) rfl rfl (by omega) d_La_law_1219 ?_
    refine aw_iload d_La_law_1220 rfl ?_
    refine aw_if_eq (tgt := 1229) d_La_law_1222 rfl (fun h1222 => ?_) (fun h1222 => ?_)
    · refine aw_lconst (b := 0) d_La_law_1229 rfl ?_
      refine aw_lcmp d_La_law_1230 (fun z1230 hz1230 => ?_)
      refine aw_if_eq (tgt := 1236) d_La_law_1231 rfl (fun h1231 => ?_) (fun h1231 => absurd (hz1230.mpr ((ho h1214).trans (by rw [show b = 0 from by omega]; rfl))) h1231)
      refine aw_goto (tgt := 1345) d_La_law_1236 rfl ?_
      exact kk _ _ _ hK
    · refine aw_lconst (b := 1) d_La_law_1225 rfl ?_
      refine aw_goto (tgt := 1230) d_La_law_1226 rfl ?_
      refine aw_lcmp d_La_law_1230 (fun z1230 hz1230 => ?_)
      refine aw_if_eq (tgt := 1236) d_La_law_1231 rfl (fun h1231 => ?_) (fun h1231 => absurd (hz1230.mpr ((ho h1214).trans (by rw [show b = 1 from by omega]; rfl))) h1231)
      refine aw_goto (tgt := 1345) d_La_law_1236 rfl ?_
      exact kk _ _ _ hK
set_option maxRecDepth 100000 in
theorem k_La_18 {d bc bs : Nat} (hd : 2 ≤ d) {iN : Nat} (hi : iN + 5 ≤ gn G) (h2 : gn G ≤ 2560) {o5 o6 : Option aV} {Q : aQ → Nat → aM → Prop} {K : aM → Prop} (hbc : 3 ≤ bc) (hbs : 18 ≤ bs) {QA : aQ → Nat → aM → Prop} (hM : AM G false (d - 1) 3 18 y_La_missing [aP 0, aI (gx G (iN + 1)), aI (gx G (iN + 2)), aP 93] 94 μ QA) (hq : ∀ r n m, QA r n m → n = 94 ∧ ∃ kq : Int, r = .inl (some (aI kq)) ∧ ∃ QB, AM G false (d - 1) 0 0 y_Mo_missing [aP 67, aI (gx G (iN + 1)), aI (gx G (iN + 2))] 94 m QB ∧ ∀ r' n' m', QB r' n' m' → n' = 94 ∧ ∃ b : Int, r' = .inl (some (aI b)) ∧ mI m' 67 0 = kq ∧ (kq = 0 → mL m' 93 0 = BitVec.ofInt 64 b) ∧ K m') (kk : ∀ o5 o6 m', K m' → AW G false y_La_law d (bc - 3) (bs - 18) Q 1345 [some (aP 1000), some (aP 0), some (aP 67), some (aP 93), some (aI (iN : Int)), o5, o6] [] 94 m') : AW G false y_La_law d bc bs Q 1239 [some (aP 1000), some (aP 0), some (aP 67), some (aP 93), some (aI (iN : Int)), o5, o6] [] 94 μ := by
  refine aw_aload_n d_La_law_1239 rfl rfl ?_
  refine aw_aload_n d_La_law_1240 rfl rfl ?_
  refine aw_iload d_La_law_1241 rfl ?_
  refine aw_iconst d_La_law_1243 (in_c rfl) ?_
  refine aw_iadd d_La_law_1244 (by unfold inR; omega) ?_
  refine aw_sld (n := iN + 1) (by omega) (by omega) d_La_law_1245 ?_
  refine aw_aload_n d_La_law_1246 rfl rfl ?_
  refine aw_iload d_La_law_1247 rfl ?_
  refine aw_iconst d_La_law_1249 (in_c rfl) ?_
  refine aw_iadd d_La_law_1250 (by unfold inR; omega) ?_
  refine aw_sld (n := iN + 2) (by omega) (by omega) d_La_law_1251 ?_
  refine aw_pc (pc' := 1252) rfl ?_
  refine aw_aload_n d_La_law_1252 rfl rfl ?_
  refine aw_sx (as := [_, _, _, _]) rfl cs_La_141 d_La_law_1253 (Nat.le_of_ble_eq_true rfl) (d' := d - 1) (by omega) hbc hbs hM ?_ (fun E n1 μ1 hv => by obtain ⟨-, kq, hz, -⟩ := hq _ _ _ hv; cases hz)
  intro v n1 μ1 hv
  obtain ⟨rfl, kq, hz, QB, hB, hb⟩ := hq _ _ _ hv
  cases hz
  refine aw_istore (lst' := [_, _, _, _, _, _, _]) d_La_law_1256 (Nat.le_of_ble_eq_true rfl) rfl ?_
  refine aw_aload_n d_La_law_1258 rfl rfl ?_
  refine aw_aload_n d_La_law_1259 rfl rfl ?_
  refine aw_iload d_La_law_1260 rfl ?_
  refine aw_iconst d_La_law_1262 (in_c rfl) ?_
  refine aw_iadd d_La_law_1263 (by unfold inR; omega) ?_
  refine aw_sld (n := iN + 1) (by omega) (by omega) d_La_law_1264 ?_
  refine aw_aload_n d_La_law_1265 rfl rfl ?_
  refine aw_iload d_La_law_1266 rfl ?_
  refine aw_iconst d_La_law_1268 (in_c rfl) ?_
  refine aw_pc (pc' := 1269) rfl ?_
  refine aw_iadd d_La_law_1269 (by unfold inR; omega) ?_
  refine aw_sld (n := iN + 2) (by omega) (by omega) d_La_law_1270 ?_
  refine aw_vx (bc' := 0) (bs' := 0) (as := [_, _]) rfl cv_La_143 (by omega) rfl rfl d_La_law_1271 (Nat.le_of_ble_eq_true rfl) (d' := d - 1) (by omega) (Nat.zero_le _) (Nat.zero_le _) hB ?_ (fun E n1 μ1 hv => by obtain ⟨-, b, hz, -⟩ := hb _ _ _ hv; cases hz)
  intro v2 n2 μ2 hv2
  obtain ⟨rfl, b, hz2, hf, ho, hK⟩ := hb _ _ _ hv2
  cases hz2
  refine aw_istore (lst' := [_, _, _, _, _, _, _]) d_La_law_1274 (Nat.le_of_ble_eq_true rfl) rfl ?_
  refine aw_aload_n d_La_law_1276 rfl rfl ?_
  refine aw_ve (as := []) rfl cv_La_77 (by omega) rfl rfl d_La_law_1277 (Nat.le_of_ble_eq_true rfl) (d' := d - 1) (by omega) (m_Mo_thrown (by omega)) ?_
  refine aw_tv (v' := kq) hf ?_
  refine aw_iload d_La_law_1280 rfl ?_
  refine aw_icmp_eq (tgt := 1287) d_La_law_1282 rfl (fun h1282 => ?_) (fun h1282 => absurd rfl h1282)
  refine aw_iload d_La_law_1287 rfl ?_
  refine aw_if_ne (tgt := 1304) d_La_law_1289 rfl (fun h1289 => ?_) (fun h1289 => ?_)
  · refine aw_goto (tgt := 1345) d_La_law_1304 rfl ?_
    exact kk _ _ _ hK
  · refine aw_aload_n d_La_law_1292 rfl rfl ?_
    refine aw_iconst d_La_law_1293 (in_c rfl) ?_
    refine aw_lald (n := 0) (by omega) rfl rfl (by omega) d_La_law_1294 ?_
    refine aw_iload d_La_law_1295 rfl ?_
    refine aw_i2l d_La_law_1297 ?_
    refine aw_lcmp d_La_law_1298 (fun z1298 hz1298 => ?_)
    refine aw_if_eq (tgt := 1304) d_La_law_1299 rfl (fun h1299 => ?_) (fun h1299 => absurd (hz1298.mpr (ho h1289)) h1299)
    refine aw_goto (tgt := 1345) d_La_law_1304 rfl ?_
    exact kk _ _ _ hK
set_option maxRecDepth 100000 in
theorem k_La_19 {d bc bs : Nat} (hd : 2 ≤ d) {iN : Nat} (hi : iN + 5 ≤ gn G) (h2 : gn G ≤ 2560) {o5 o6 : Option aV} {Q : aQ → Nat → aM → Prop} {K : aM → Prop} {QA : aQ → Nat → aM → Prop} (hM : AM G false (d - 1) 0 0 y_MC_length [aP 0] 94 μ QA) (hq : ∀ r n m, QA r n m → n = 94 ∧ ∃ kq : Int, r = .inl (some (aI kq)) ∧ ∃ QB, AM G false (d - 1) 0 0 y_Mo_length [aP 67] 94 m QB ∧ ∀ r' n' m', QB r' n' m' → n' = 94 ∧ r' = .inl (some (aI kq)) ∧ K m') (kk : ∀ o5 o6 m', K m' → AW G false y_La_law d bc bs Q 1345 [some (aP 1000), some (aP 0), some (aP 67), some (aP 93), some (aI (iN : Int)), o5, o6] [] 94 m') : AW G false y_La_law d bc bs Q 1307 [some (aP 1000), some (aP 0), some (aP 67), some (aP 93), some (aI (iN : Int)), o5, o6] [] 94 μ := by
  refine aw_aload_n d_La_law_1307 rfl rfl ?_
  refine aw_vx (bc' := 0) (bs' := 0) (as := []) rfl cv_La_144 (by omega) rfl rfl d_La_law_1308 (Nat.le_of_ble_eq_true rfl) (d' := d - 1) (by omega) (Nat.zero_le _) (Nat.zero_le _) hM ?_ (fun E n1 μ1 hv => by obtain ⟨-, kq, hz, -⟩ := hq _ _ _ hv; cases hz)
  intro v n1 μ1 hv
  obtain ⟨rfl, kq, hz, QB, hB, hb⟩ := hq _ _ _ hv
  cases hz
  refine aw_aload_n d_La_law_1311 rfl rfl ?_
  refine aw_vx (bc' := 0) (bs' := 0) (as := []) rfl cv_La_147 (by omega) rfl rfl d_La_law_1312 (Nat.le_of_ble_eq_true rfl) (d' := d - 1) (by omega) (Nat.zero_le _) (Nat.zero_le _) hB ?_ (fun E n1 μ1 hv => by obtain ⟨-, hz, -⟩ := hb _ _ _ hv; cases hz)
  intro v2 n2 μ2 hv2
  obtain ⟨rfl, hz2, hK⟩ := hb _ _ _ hv2
  cases hz2
  refine aw_icmp_eq (tgt := 1345) d_La_law_1315 rfl (fun h1315 => ?_) (fun h1315 => absurd rfl h1315)
  exact kk _ _ _ hK
set_option maxRecDepth 100000 in
theorem k_La_20 {d bc bs : Nat} (hd : 2 ≤ d) {iN : Nat} (hi : iN + 5 ≤ gn G) (h2 : gn G ≤ 2560) {o5 o6 : Option aV} {Q : aQ → Nat → aM → Prop} {K : aM → Prop} {QA : aQ → Nat → aM → Prop} (hM : AM G false (d - 1) 0 0 y_MC_charAt [aP 0, aI (gx G (iN + 1))] 94 μ QA) (hq : ∀ r n m, QA r n m → n = 94 ∧ ∃ kq : Int, r = .inl (some (aI kq)) ∧ ∃ QB, AM G false (d - 1) 0 0 y_Mo_charAt [aP 67, aI (gx G (iN + 1))] 94 m QB ∧ ∀ r' n' m', QB r' n' m' → n' = 94 ∧ r' = .inl (some (aI kq)) ∧ K m') (kk : ∀ o5 o6 m', K m' → AW G false y_La_law d bc bs Q 1345 [some (aP 1000), some (aP 0), some (aP 67), some (aP 93), some (aI (iN : Int)), o5, o6] [] 94 m') : AW G false y_La_law d bc bs Q 1320 [some (aP 1000), some (aP 0), some (aP 67), some (aP 93), some (aI (iN : Int)), o5, o6] [] 94 μ := by
  refine aw_aload_n d_La_law_1320 rfl rfl ?_
  refine aw_aload_n d_La_law_1321 rfl rfl ?_
  refine aw_iload d_La_law_1322 rfl ?_
  refine aw_iconst d_La_law_1324 (in_c rfl) ?_
  refine aw_iadd d_La_law_1325 (by unfold inR; omega) ?_
  refine aw_sld (n := iN + 1) (by omega) (by omega) d_La_law_1326 ?_
  refine aw_vx (bc' := 0) (bs' := 0) (as := [_]) rfl cv_La_148 (by omega) rfl rfl d_La_law_1327 (Nat.le_of_ble_eq_true rfl) (d' := d - 1) (by omega) (Nat.zero_le _) (Nat.zero_le _) hM ?_ (fun E n1 μ1 hv => by obtain ⟨-, kq, hz, -⟩ := hq _ _ _ hv; cases hz)
  intro v n1 μ1 hv
  obtain ⟨rfl, kq, hz, QB, hB, hb⟩ := hq _ _ _ hv
  cases hz
  refine aw_aload_n d_La_law_1330 rfl rfl ?_
  refine aw_aload_n d_La_law_1331 rfl rfl ?_
  refine aw_iload d_La_law_1332 rfl ?_
  refine aw_iconst d_La_law_1334 (in_c rfl) ?_
  refine aw_pc (pc' := 1335) rfl ?_
  refine aw_iadd d_La_law_1335 (by unfold inR; omega) ?_
  refine aw_sld (n := iN + 1) (by omega) (by omega) d_La_law_1336 ?_
  refine aw_vx (bc' := 0) (bs' := 0) (as := [_]) rfl cv_La_152 (by omega) rfl rfl d_La_law_1337 (Nat.le_of_ble_eq_true rfl) (d' := d - 1) (by omega) (Nat.zero_le _) (Nat.zero_le _) hB ?_ (fun E n1 μ1 hv => by obtain ⟨-, hz, -⟩ := hb _ _ _ hv; cases hz)
  intro v2 n2 μ2 hv2
  obtain ⟨rfl, hz2, hK⟩ := hb _ _ _ hv2
  cases hz2
  refine aw_icmp_eq (tgt := 1345) d_La_law_1340 rfl (fun h1340 => ?_) (fun h1340 => absurd rfl h1340)
  exact kk _ _ _ hK
end
