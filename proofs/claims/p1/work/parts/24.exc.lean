/-! the three exceptions -/
section
theorem thr_of {own : String} {ik ic E : Nat} (hE : E < 3) (hk : Cond.classLink own ik (exN E) ∈ TB) (hi : Cond.initialized (exN E) ∈ TB) (hf : Bundle.fit (exN E) = true) (h : ∀ w ∈ Bundle.ownAtoms0 own ic (exN E) exS, (w ∈ tables_1 ∧ goodWord w = true) ∨ w ∈ own5 E ∨ w ∈ NW) : THR own ik ic E :=
  ⟨hE, hk, hi, hf, fun w hw => (h w hw).imp (fun q => tb_of q.1 q.2) id⟩
set_option maxRecDepth 100000 in
theorem thr_0 : THR "MaskedCauses" 100 102 0 := thr_of (by decide) cl_MC_100 in_ex0 (by decide +kernel) (by decide +kernel)
set_option maxRecDepth 100000 in
theorem thr_1 : THR "MaskedCauses" 103 105 1 := thr_of (by decide) cl_MC_103 in_ex1 (by decide +kernel) (by decide +kernel)
set_option maxRecDepth 100000 in
theorem thr_2 : THR "MaskedCauses" 115 117 2 := thr_of (by decide) cl_MC_115 in_ex2 (by decide +kernel) (by decide +kernel)
end
